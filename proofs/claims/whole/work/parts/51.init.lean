section CB
theorem c_v {L : Nat} {xs : Nat → Int32} {d i pc n : Nat} {lv : List (Nat × Value)} {st st' : List Value} {h : ax_H} {o : ax_O} {x : ax_I} {f : Bool} {pc' : Nat} {v w : Value} (hr : (ax_dt (ax_T i)).lookup pc = some x) (hs : ∀ M, ax_s L xs (ax_dl (ax_T i)) x pc lv st M = some (pc', lv, v :: st', M, 0, 0)) (hv : v = w) (k : bRn L xs d i pc' lv (w :: st') (n, h, f) o) : bRn L xs d i pc lv st (n, h, f) o := by
  subst hv
  exact bRn.s hr (hs _) k
theorem c_done {h : ax_H} {z : Nat} {c c' : ax_C} (e : h z = c') : ax_up (ax_up h z c) z c' = h := by rw [up_up, up_self e]
theorem l91_0 : (ax_dt (ax_T 91)).lookup 0 = some (.aload_n 0, 1, 0, 0, 0) := by decide +kernel
theorem l91_1 : (ax_dt (ax_T 91)).lookup 1 = some (.invokespecial 3, 3, 901, 0, 0) := by decide +kernel
theorem l91_4 : (ax_dt (ax_T 91)).lookup 4 = some (.aload_n 0, 1, 0, 0, 0) := by decide +kernel
theorem l91_5 : (ax_dt (ax_T 91)).lookup 5 = some (.new 9, 3, 5, 0, 0) := by decide +kernel
theorem l91_8 : (ax_dt (ax_T 91)).lookup 8 = some (.dup, 1, 0, 0, 0) := by decide +kernel
theorem l91_9 : (ax_dt (ax_T 91)).lookup 9 = some (.sipush 12000, 3, 0, 0, 0) := by decide +kernel
theorem l91_12 : (ax_dt (ax_T 91)).lookup 12 = some (.invokespecial 11, 3, 51, 1, 0) := by decide +kernel
theorem l91_15 : (ax_dt (ax_T 91)).lookup 15 = some (.putfield 14, 3, 8, 0, 0) := by decide +kernel
theorem l91_18 : (ax_dt (ax_T 91)).lookup 18 = some (.aload_n 0, 1, 0, 0, 0) := by decide +kernel
theorem l91_19 : (ax_dt (ax_T 91)).lookup 19 = some (.new 9, 3, 5, 0, 0) := by decide +kernel
theorem l91_22 : (ax_dt (ax_T 91)).lookup 22 = some (.dup, 1, 0, 0, 0) := by decide +kernel
theorem l91_23 : (ax_dt (ax_T 91)).lookup 23 = some (.sipush 30000, 3, 0, 0, 0) := by decide +kernel
theorem l91_26 : (ax_dt (ax_T 91)).lookup 26 = some (.invokespecial 11, 3, 51, 1, 0) := by decide +kernel
theorem l91_29 : (ax_dt (ax_T 91)).lookup 29 = some (.putfield 18, 3, 8, 1, 0) := by decide +kernel
theorem l91_32 : (ax_dt (ax_T 91)).lookup 32 = some (.aload_n 0, 1, 0, 0, 0) := by decide +kernel
theorem l91_33 : (ax_dt (ax_T 91)).lookup 33 = some (.new 21, 3, 4, 0, 0) := by decide +kernel
theorem l91_36 : (ax_dt (ax_T 91)).lookup 36 = some (.dup, 1, 0, 0, 0) := by decide +kernel
theorem l91_37 : (ax_dt (ax_T 91)).lookup 37 = some (.invokespecial 23, 3, 49, 0, 0) := by decide +kernel
theorem l91_40 : (ax_dt (ax_T 91)).lookup 40 = some (.putfield 24, 3, 8, 2, 0) := by decide +kernel
theorem l91_43 : (ax_dt (ax_T 91)).lookup 43 = some (.aload_n 0, 1, 0, 0, 0) := by decide +kernel
theorem l91_44 : (ax_dt (ax_T 91)).lookup 44 = some (.new 28, 3, 2, 0, 0) := by decide +kernel
theorem l91_47 : (ax_dt (ax_T 91)).lookup 47 = some (.dup, 1, 0, 0, 0) := by decide +kernel
theorem l91_48 : (ax_dt (ax_T 91)).lookup 48 = some (.invokespecial 30, 3, 22, 0, 0) := by decide +kernel
theorem l91_51 : (ax_dt (ax_T 91)).lookup 51 = some (.putfield 31, 3, 8, 3, 0) := by decide +kernel
theorem l91_54 : (ax_dt (ax_T 91)).lookup 54 = some (.aload_n 0, 1, 0, 0, 0) := by decide +kernel
theorem l91_55 : (ax_dt (ax_T 91)).lookup 55 = some (.new 35, 3, 3, 0, 0) := by decide +kernel
theorem l91_58 : (ax_dt (ax_T 91)).lookup 58 = some (.dup, 1, 0, 0, 0) := by decide +kernel
theorem l91_59 : (ax_dt (ax_T 91)).lookup 59 = some (.invokespecial 37, 3, 39, 0, 0) := by decide +kernel
theorem l91_62 : (ax_dt (ax_T 91)).lookup 62 = some (.putfield 38, 3, 8, 4, 0) := by decide +kernel
theorem l91_65 : (ax_dt (ax_T 91)).lookup 65 = some (.aload_n 0, 1, 0, 0, 0) := by decide +kernel
theorem l91_66 : (ax_dt (ax_T 91)).lookup 66 = some (.new 42, 3, 7, 0, 0) := by decide +kernel
theorem l91_69 : (ax_dt (ax_T 91)).lookup 69 = some (.dup, 1, 0, 0, 0) := by decide +kernel
theorem l91_70 : (ax_dt (ax_T 91)).lookup 70 = some (.invokespecial 44, 3, 76, 0, 0) := by decide +kernel
theorem l91_73 : (ax_dt (ax_T 91)).lookup 73 = some (.putfield 45, 3, 8, 5, 0) := by decide +kernel
theorem l91_76 : (ax_dt (ax_T 91)).lookup 76 = some (.return_, 1, 0, 0, 0) := by decide +kernel
theorem l51_0 : (ax_dt (ax_T 51)).lookup 0 = some (.aload_n 0, 1, 0, 0, 0) := by decide +kernel
theorem l51_1 : (ax_dt (ax_T 51)).lookup 1 = some (.invokespecial 3, 3, 901, 0, 0) := by decide +kernel
theorem l51_4 : (ax_dt (ax_T 51)).lookup 4 = some (.aload_n 0, 1, 0, 0, 0) := by decide +kernel
theorem l51_5 : (ax_dt (ax_T 51)).lookup 5 = some (.iload_n 1, 1, 0, 0, 0) := by decide +kernel
theorem l51_6 : (ax_dt (ax_T 51)).lookup 6 = some (.iconst 0, 1, 0, 0, 0) := by decide +kernel
theorem l51_7 : (ax_dt (ax_T 51)).lookup 7 = some (.invokestatic 9, 3, 900, 0, 0) := by decide +kernel
theorem l51_10 : (ax_dt (ax_T 51)).lookup 10 = some (.newarray .byte, 2, 0, 0, 0) := by decide +kernel
theorem l51_12 : (ax_dt (ax_T 51)).lookup 12 = some (.putfield 15, 3, 5, 0, 0) := by decide +kernel
theorem l51_15 : (ax_dt (ax_T 51)).lookup 15 = some (.return_, 1, 0, 0, 0) := by decide +kernel
theorem l49_0 : (ax_dt (ax_T 49)).lookup 0 = some (.aload_n 0, 1, 0, 0, 0) := by decide +kernel
theorem l49_1 : (ax_dt (ax_T 49)).lookup 1 = some (.invokespecial 3, 3, 901, 0, 0) := by decide +kernel
theorem l49_4 : (ax_dt (ax_T 49)).lookup 4 = some (.aload_n 0, 1, 0, 0, 0) := by decide +kernel
theorem l49_5 : (ax_dt (ax_T 49)).lookup 5 = some (.new 9, 3, 5, 0, 0) := by decide +kernel
theorem l49_8 : (ax_dt (ax_T 49)).lookup 8 = some (.dup, 1, 0, 0, 0) := by decide +kernel
theorem l49_9 : (ax_dt (ax_T 49)).lookup 9 = some (.sipush 24000, 3, 0, 0, 0) := by decide +kernel
theorem l49_12 : (ax_dt (ax_T 49)).lookup 12 = some (.invokespecial 11, 3, 51, 1, 0) := by decide +kernel
theorem l49_15 : (ax_dt (ax_T 49)).lookup 15 = some (.putfield 14, 3, 4, 0, 0) := by decide +kernel
theorem l49_18 : (ax_dt (ax_T 49)).lookup 18 = some (.aload_n 0, 1, 0, 0, 0) := by decide +kernel
theorem l49_19 : (ax_dt (ax_T 49)).lookup 19 = some (.new 9, 3, 5, 0, 0) := by decide +kernel
theorem l49_22 : (ax_dt (ax_T 49)).lookup 22 = some (.dup, 1, 0, 0, 0) := by decide +kernel
theorem l49_23 : (ax_dt (ax_T 49)).lookup 23 = some (.sipush 8000, 3, 0, 0, 0) := by decide +kernel
theorem l49_26 : (ax_dt (ax_T 49)).lookup 26 = some (.invokespecial 11, 3, 51, 1, 0) := by decide +kernel
theorem l49_29 : (ax_dt (ax_T 49)).lookup 29 = some (.putfield 20, 3, 4, 1, 0) := by decide +kernel
theorem l49_32 : (ax_dt (ax_T 49)).lookup 32 = some (.aload_n 0, 1, 0, 0, 0) := by decide +kernel
theorem l49_33 : (ax_dt (ax_T 49)).lookup 33 = some (.new 9, 3, 5, 0, 0) := by decide +kernel
theorem l49_36 : (ax_dt (ax_T 49)).lookup 36 = some (.dup, 1, 0, 0, 0) := by decide +kernel
theorem l49_37 : (ax_dt (ax_T 49)).lookup 37 = some (.sipush 8000, 3, 0, 0, 0) := by decide +kernel
theorem l49_40 : (ax_dt (ax_T 49)).lookup 40 = some (.invokespecial 11, 3, 51, 1, 0) := by decide +kernel
theorem l49_43 : (ax_dt (ax_T 49)).lookup 43 = some (.putfield 23, 3, 4, 2, 0) := by decide +kernel
theorem l49_46 : (ax_dt (ax_T 49)).lookup 46 = some (.return_, 1, 0, 0, 0) := by decide +kernel
theorem l22_0 : (ax_dt (ax_T 22)).lookup 0 = some (.aload_n 0, 1, 0, 0, 0) := by decide +kernel
theorem l22_1 : (ax_dt (ax_T 22)).lookup 1 = some (.invokespecial 3, 3, 901, 0, 0) := by decide +kernel
theorem l22_4 : (ax_dt (ax_T 22)).lookup 4 = some (.aload_n 0, 1, 0, 0, 0) := by decide +kernel
theorem l22_5 : (ax_dt (ax_T 22)).lookup 5 = some (.sipush 400, 3, 0, 0, 0) := by decide +kernel
theorem l22_8 : (ax_dt (ax_T 22)).lookup 8 = some (.newarray .int, 2, 0, 0, 0) := by decide +kernel
theorem l22_10 : (ax_dt (ax_T 22)).lookup 10 = some (.putfield 9, 3, 2, 7, 0) := by decide +kernel
theorem l22_13 : (ax_dt (ax_T 22)).lookup 13 = some (.aload_n 0, 1, 0, 0, 0) := by decide +kernel
theorem l22_14 : (ax_dt (ax_T 22)).lookup 14 = some (.bipush 7, 2, 0, 0, 0) := by decide +kernel
theorem l22_16 : (ax_dt (ax_T 22)).lookup 16 = some (.newarray .int, 2, 0, 0, 0) := by decide +kernel
theorem l22_18 : (ax_dt (ax_T 22)).lookup 18 = some (.putfield 15, 3, 2, 8, 0) := by decide +kernel
theorem l22_21 : (ax_dt (ax_T 22)).lookup 21 = some (.aload_n 0, 1, 0, 0, 0) := by decide +kernel
theorem l22_22 : (ax_dt (ax_T 22)).lookup 22 = some (.bipush 6, 2, 0, 0, 0) := by decide +kernel
theorem l22_24 : (ax_dt (ax_T 22)).lookup 24 = some (.newarray .int, 2, 0, 0, 0) := by decide +kernel
theorem l22_26 : (ax_dt (ax_T 22)).lookup 26 = some (.putfield 18, 3, 2, 9, 0) := by decide +kernel
theorem l22_29 : (ax_dt (ax_T 22)).lookup 29 = some (.aload_n 0, 1, 0, 0, 0) := by decide +kernel
theorem l22_30 : (ax_dt (ax_T 22)).lookup 30 = some (.sipush 400, 3, 0, 0, 0) := by decide +kernel
theorem l22_33 : (ax_dt (ax_T 22)).lookup 33 = some (.newarray .int, 2, 0, 0, 0) := by decide +kernel
theorem l22_35 : (ax_dt (ax_T 22)).lookup 35 = some (.putfield 21, 3, 2, 10, 0) := by decide +kernel
theorem l22_38 : (ax_dt (ax_T 22)).lookup 38 = some (.aload_n 0, 1, 0, 0, 0) := by decide +kernel
theorem l22_39 : (ax_dt (ax_T 22)).lookup 39 = some (.sipush 400, 3, 0, 0, 0) := by decide +kernel
theorem l22_42 : (ax_dt (ax_T 22)).lookup 42 = some (.newarray .int, 2, 0, 0, 0) := by decide +kernel
theorem l22_44 : (ax_dt (ax_T 22)).lookup 44 = some (.putfield 24, 3, 2, 11, 0) := by decide +kernel
theorem l22_47 : (ax_dt (ax_T 22)).lookup 47 = some (.aload_n 0, 1, 0, 0, 0) := by decide +kernel
theorem l22_48 : (ax_dt (ax_T 22)).lookup 48 = some (.sipush 400, 3, 0, 0, 0) := by decide +kernel
theorem l22_51 : (ax_dt (ax_T 22)).lookup 51 = some (.newarray .int, 2, 0, 0, 0) := by decide +kernel
theorem l22_53 : (ax_dt (ax_T 22)).lookup 53 = some (.putfield 27, 3, 2, 12, 0) := by decide +kernel
theorem l22_56 : (ax_dt (ax_T 22)).lookup 56 = some (.aload_n 0, 1, 0, 0, 0) := by decide +kernel
theorem l22_57 : (ax_dt (ax_T 22)).lookup 57 = some (.sipush 400, 3, 0, 0, 0) := by decide +kernel
theorem l22_60 : (ax_dt (ax_T 22)).lookup 60 = some (.newarray .int, 2, 0, 0, 0) := by decide +kernel
theorem l22_62 : (ax_dt (ax_T 22)).lookup 62 = some (.putfield 30, 3, 2, 13, 0) := by decide +kernel
theorem l22_65 : (ax_dt (ax_T 22)).lookup 65 = some (.aload_n 0, 1, 0, 0, 0) := by decide +kernel
theorem l22_66 : (ax_dt (ax_T 22)).lookup 66 = some (.sipush 400, 3, 0, 0, 0) := by decide +kernel
theorem l22_69 : (ax_dt (ax_T 22)).lookup 69 = some (.newarray .int, 2, 0, 0, 0) := by decide +kernel
theorem l22_71 : (ax_dt (ax_T 22)).lookup 71 = some (.putfield 33, 3, 2, 14, 0) := by decide +kernel
theorem l22_74 : (ax_dt (ax_T 22)).lookup 74 = some (.aload_n 0, 1, 0, 0, 0) := by decide +kernel
theorem l22_75 : (ax_dt (ax_T 22)).lookup 75 = some (.sipush 3200, 3, 0, 0, 0) := by decide +kernel
theorem l22_78 : (ax_dt (ax_T 22)).lookup 78 = some (.newarray .int, 2, 0, 0, 0) := by decide +kernel
theorem l22_80 : (ax_dt (ax_T 22)).lookup 80 = some (.putfield 36, 3, 2, 15, 0) := by decide +kernel
theorem l22_83 : (ax_dt (ax_T 22)).lookup 83 = some (.aload_n 0, 1, 0, 0, 0) := by decide +kernel
theorem l22_84 : (ax_dt (ax_T 22)).lookup 84 = some (.sipush 3200, 3, 0, 0, 0) := by decide +kernel
theorem l22_87 : (ax_dt (ax_T 22)).lookup 87 = some (.newarray .int, 2, 0, 0, 0) := by decide +kernel
theorem l22_89 : (ax_dt (ax_T 22)).lookup 89 = some (.putfield 39, 3, 2, 16, 0) := by decide +kernel
theorem l22_92 : (ax_dt (ax_T 22)).lookup 92 = some (.aload_n 0, 1, 0, 0, 0) := by decide +kernel
theorem l22_93 : (ax_dt (ax_T 22)).lookup 93 = some (.new 42, 3, 0, 0, 0) := by decide +kernel
theorem l22_96 : (ax_dt (ax_T 22)).lookup 96 = some (.dup, 1, 0, 0, 0) := by decide +kernel
theorem l22_97 : (ax_dt (ax_T 22)).lookup 97 = some (.sipush 400, 3, 0, 0, 0) := by decide +kernel
theorem l22_100 : (ax_dt (ax_T 22)).lookup 100 = some (.invokespecial 44, 3, 0, 1, 0) := by decide +kernel
theorem l22_103 : (ax_dt (ax_T 22)).lookup 103 = some (.putfield 47, 3, 2, 17, 0) := by decide +kernel
theorem l22_106 : (ax_dt (ax_T 22)).lookup 106 = some (.aload_n 0, 1, 0, 0, 0) := by decide +kernel
theorem l22_107 : (ax_dt (ax_T 22)).lookup 107 = some (.new 42, 3, 0, 0, 0) := by decide +kernel
theorem l22_110 : (ax_dt (ax_T 22)).lookup 110 = some (.dup, 1, 0, 0, 0) := by decide +kernel
theorem l22_111 : (ax_dt (ax_T 22)).lookup 111 = some (.sipush 3200, 3, 0, 0, 0) := by decide +kernel
theorem l22_114 : (ax_dt (ax_T 22)).lookup 114 = some (.invokespecial 44, 3, 0, 1, 0) := by decide +kernel
theorem l22_117 : (ax_dt (ax_T 22)).lookup 117 = some (.putfield 51, 3, 2, 18, 0) := by decide +kernel
theorem l22_120 : (ax_dt (ax_T 22)).lookup 120 = some (.return_, 1, 0, 0, 0) := by decide +kernel
theorem l0_0 : (ax_dt (ax_T 0)).lookup 0 = some (.aload_n 0, 1, 0, 0, 0) := by decide +kernel
theorem l0_1 : (ax_dt (ax_T 0)).lookup 1 = some (.invokespecial 3, 3, 901, 0, 0) := by decide +kernel
theorem l0_4 : (ax_dt (ax_T 0)).lookup 4 = some (.aload_n 0, 1, 0, 0, 0) := by decide +kernel
theorem l0_5 : (ax_dt (ax_T 0)).lookup 5 = some (.sipush 256, 3, 0, 0, 0) := by decide +kernel
theorem l0_8 : (ax_dt (ax_T 0)).lookup 8 = some (.newarray .int, 2, 0, 0, 0) := by decide +kernel
theorem l0_10 : (ax_dt (ax_T 0)).lookup 10 = some (.putfield 11, 3, 0, 0, 0) := by decide +kernel
theorem l0_13 : (ax_dt (ax_T 0)).lookup 13 = some (.aload_n 0, 1, 0, 0, 0) := by decide +kernel
theorem l0_14 : (ax_dt (ax_T 0)).lookup 14 = some (.iload_n 1, 1, 0, 0, 0) := by decide +kernel
theorem l0_15 : (ax_dt (ax_T 0)).lookup 15 = some (.iconst 0, 1, 0, 0, 0) := by decide +kernel
theorem l0_16 : (ax_dt (ax_T 0)).lookup 16 = some (.invokestatic 15, 3, 900, 0, 0) := by decide +kernel
theorem l0_19 : (ax_dt (ax_T 0)).lookup 19 = some (.newarray .int, 2, 0, 0, 0) := by decide +kernel
theorem l0_21 : (ax_dt (ax_T 0)).lookup 21 = some (.putfield 21, 3, 0, 1, 0) := by decide +kernel
theorem l0_24 : (ax_dt (ax_T 0)).lookup 24 = some (.return_, 1, 0, 0, 0) := by decide +kernel
theorem l39_0 : (ax_dt (ax_T 39)).lookup 0 = some (.aload_n 0, 1, 0, 0, 0) := by decide +kernel
theorem l39_1 : (ax_dt (ax_T 39)).lookup 1 = some (.invokespecial 3, 3, 901, 0, 0) := by decide +kernel
theorem l39_4 : (ax_dt (ax_T 39)).lookup 4 = some (.aload_n 0, 1, 0, 0, 0) := by decide +kernel
theorem l39_5 : (ax_dt (ax_T 39)).lookup 5 = some (.new 9, 3, 7, 0, 0) := by decide +kernel
theorem l39_8 : (ax_dt (ax_T 39)).lookup 8 = some (.dup, 1, 0, 0, 0) := by decide +kernel
theorem l39_9 : (ax_dt (ax_T 39)).lookup 9 = some (.invokespecial 11, 3, 76, 0, 0) := by decide +kernel
theorem l39_12 : (ax_dt (ax_T 39)).lookup 12 = some (.putfield 12, 3, 3, 0, 0) := by decide +kernel
theorem l39_15 : (ax_dt (ax_T 39)).lookup 15 = some (.aload_n 0, 1, 0, 0, 0) := by decide +kernel
theorem l39_16 : (ax_dt (ax_T 39)).lookup 16 = some (.new 18, 3, 1, 0, 0) := by decide +kernel
theorem l39_19 : (ax_dt (ax_T 39)).lookup 19 = some (.dup, 1, 0, 0, 0) := by decide +kernel
theorem l39_20 : (ax_dt (ax_T 39)).lookup 20 = some (.invokespecial 20, 3, 6, 0, 0) := by decide +kernel
theorem l39_23 : (ax_dt (ax_T 39)).lookup 23 = some (.putfield 21, 3, 3, 1, 0) := by decide +kernel
theorem l39_26 : (ax_dt (ax_T 39)).lookup 26 = some (.aload_n 0, 1, 0, 0, 0) := by decide +kernel
theorem l39_27 : (ax_dt (ax_T 39)).lookup 27 = some (.new 25, 3, 6, 0, 0) := by decide +kernel
theorem l39_30 : (ax_dt (ax_T 39)).lookup 30 = some (.dup, 1, 0, 0, 0) := by decide +kernel
theorem l39_31 : (ax_dt (ax_T 39)).lookup 31 = some (.invokespecial 27, 3, 70, 0, 0) := by decide +kernel
theorem l39_34 : (ax_dt (ax_T 39)).lookup 34 = some (.putfield 28, 3, 3, 2, 0) := by decide +kernel
theorem l39_37 : (ax_dt (ax_T 39)).lookup 37 = some (.aload_n 0, 1, 0, 0, 0) := by decide +kernel
theorem l39_38 : (ax_dt (ax_T 39)).lookup 38 = some (.sipush 400, 3, 0, 0, 0) := by decide +kernel
theorem l39_41 : (ax_dt (ax_T 39)).lookup 41 = some (.newarray .int, 2, 0, 0, 0) := by decide +kernel
theorem l39_43 : (ax_dt (ax_T 39)).lookup 43 = some (.putfield 32, 3, 3, 5, 0) := by decide +kernel
theorem l39_46 : (ax_dt (ax_T 39)).lookup 46 = some (.aload_n 0, 1, 0, 0, 0) := by decide +kernel
theorem l39_47 : (ax_dt (ax_T 39)).lookup 47 = some (.sipush 3200, 3, 0, 0, 0) := by decide +kernel
theorem l39_50 : (ax_dt (ax_T 39)).lookup 50 = some (.newarray .int, 2, 0, 0, 0) := by decide +kernel
theorem l39_52 : (ax_dt (ax_T 39)).lookup 52 = some (.putfield 36, 3, 3, 6, 0) := by decide +kernel
theorem l39_55 : (ax_dt (ax_T 39)).lookup 55 = some (.return_, 1, 0, 0, 0) := by decide +kernel
theorem l76_0 : (ax_dt (ax_T 76)).lookup 0 = some (.aload_n 0, 1, 0, 0, 0) := by decide +kernel
theorem l76_1 : (ax_dt (ax_T 76)).lookup 1 = some (.invokespecial 3, 3, 901, 0, 0) := by decide +kernel
theorem l76_4 : (ax_dt (ax_T 76)).lookup 4 = some (.aload_n 0, 1, 0, 0, 0) := by decide +kernel
theorem l76_5 : (ax_dt (ax_T 76)).lookup 5 = some (.bipush 6, 2, 0, 0, 0) := by decide +kernel
theorem l76_7 : (ax_dt (ax_T 76)).lookup 7 = some (.newarray .int, 2, 0, 0, 0) := by decide +kernel
theorem l76_9 : (ax_dt (ax_T 76)).lookup 9 = some (.putfield 9, 3, 7, 2, 0) := by decide +kernel
theorem l76_12 : (ax_dt (ax_T 76)).lookup 12 = some (.aload_n 0, 1, 0, 0, 0) := by decide +kernel
theorem l76_13 : (ax_dt (ax_T 76)).lookup 13 = some (.sipush 400, 3, 0, 0, 0) := by decide +kernel
theorem l76_16 : (ax_dt (ax_T 76)).lookup 16 = some (.newarray .int, 2, 0, 0, 0) := by decide +kernel
theorem l76_18 : (ax_dt (ax_T 76)).lookup 18 = some (.putfield 15, 3, 7, 3, 0) := by decide +kernel
theorem l76_21 : (ax_dt (ax_T 76)).lookup 21 = some (.aload_n 0, 1, 0, 0, 0) := by decide +kernel
theorem l76_22 : (ax_dt (ax_T 76)).lookup 22 = some (.sipush 400, 3, 0, 0, 0) := by decide +kernel
theorem l76_25 : (ax_dt (ax_T 76)).lookup 25 = some (.newarray .int, 2, 0, 0, 0) := by decide +kernel
theorem l76_27 : (ax_dt (ax_T 76)).lookup 27 = some (.putfield 18, 3, 7, 4, 0) := by decide +kernel
theorem l76_30 : (ax_dt (ax_T 76)).lookup 30 = some (.aload_n 0, 1, 0, 0, 0) := by decide +kernel
theorem l76_31 : (ax_dt (ax_T 76)).lookup 31 = some (.sipush 400, 3, 0, 0, 0) := by decide +kernel
theorem l76_34 : (ax_dt (ax_T 76)).lookup 34 = some (.newarray .int, 2, 0, 0, 0) := by decide +kernel
theorem l76_36 : (ax_dt (ax_T 76)).lookup 36 = some (.putfield 21, 3, 7, 5, 0) := by decide +kernel
theorem l76_39 : (ax_dt (ax_T 76)).lookup 39 = some (.aload_n 0, 1, 0, 0, 0) := by decide +kernel
theorem l76_40 : (ax_dt (ax_T 76)).lookup 40 = some (.sipush 400, 3, 0, 0, 0) := by decide +kernel
theorem l76_43 : (ax_dt (ax_T 76)).lookup 43 = some (.newarray .int, 2, 0, 0, 0) := by decide +kernel
theorem l76_45 : (ax_dt (ax_T 76)).lookup 45 = some (.putfield 24, 3, 7, 6, 0) := by decide +kernel
theorem l76_48 : (ax_dt (ax_T 76)).lookup 48 = some (.aload_n 0, 1, 0, 0, 0) := by decide +kernel
theorem l76_49 : (ax_dt (ax_T 76)).lookup 49 = some (.sipush 400, 3, 0, 0, 0) := by decide +kernel
theorem l76_52 : (ax_dt (ax_T 76)).lookup 52 = some (.newarray .int, 2, 0, 0, 0) := by decide +kernel
theorem l76_54 : (ax_dt (ax_T 76)).lookup 54 = some (.putfield 27, 3, 7, 7, 0) := by decide +kernel
theorem l76_57 : (ax_dt (ax_T 76)).lookup 57 = some (.aload_n 0, 1, 0, 0, 0) := by decide +kernel
theorem l76_58 : (ax_dt (ax_T 76)).lookup 58 = some (.sipush 400, 3, 0, 0, 0) := by decide +kernel
theorem l76_61 : (ax_dt (ax_T 76)).lookup 61 = some (.newarray .int, 2, 0, 0, 0) := by decide +kernel
theorem l76_63 : (ax_dt (ax_T 76)).lookup 63 = some (.putfield 30, 3, 7, 8, 0) := by decide +kernel
theorem l76_66 : (ax_dt (ax_T 76)).lookup 66 = some (.aload_n 0, 1, 0, 0, 0) := by decide +kernel
theorem l76_67 : (ax_dt (ax_T 76)).lookup 67 = some (.sipush 400, 3, 0, 0, 0) := by decide +kernel
theorem l76_70 : (ax_dt (ax_T 76)).lookup 70 = some (.newarray .int, 2, 0, 0, 0) := by decide +kernel
theorem l76_72 : (ax_dt (ax_T 76)).lookup 72 = some (.putfield 33, 3, 7, 9, 0) := by decide +kernel
theorem l76_75 : (ax_dt (ax_T 76)).lookup 75 = some (.aload_n 0, 1, 0, 0, 0) := by decide +kernel
theorem l76_76 : (ax_dt (ax_T 76)).lookup 76 = some (.sipush 400, 3, 0, 0, 0) := by decide +kernel
theorem l76_79 : (ax_dt (ax_T 76)).lookup 79 = some (.newarray .int, 2, 0, 0, 0) := by decide +kernel
theorem l76_81 : (ax_dt (ax_T 76)).lookup 81 = some (.putfield 36, 3, 7, 10, 0) := by decide +kernel
theorem l76_84 : (ax_dt (ax_T 76)).lookup 84 = some (.aload_n 0, 1, 0, 0, 0) := by decide +kernel
theorem l76_85 : (ax_dt (ax_T 76)).lookup 85 = some (.sipush 400, 3, 0, 0, 0) := by decide +kernel
theorem l76_88 : (ax_dt (ax_T 76)).lookup 88 = some (.newarray .int, 2, 0, 0, 0) := by decide +kernel
theorem l76_90 : (ax_dt (ax_T 76)).lookup 90 = some (.putfield 39, 3, 7, 11, 0) := by decide +kernel
theorem l76_93 : (ax_dt (ax_T 76)).lookup 93 = some (.aload_n 0, 1, 0, 0, 0) := by decide +kernel
theorem l76_94 : (ax_dt (ax_T 76)).lookup 94 = some (.sipush 3200, 3, 0, 0, 0) := by decide +kernel
theorem l76_97 : (ax_dt (ax_T 76)).lookup 97 = some (.newarray .int, 2, 0, 0, 0) := by decide +kernel
theorem l76_99 : (ax_dt (ax_T 76)).lookup 99 = some (.putfield 42, 3, 7, 12, 0) := by decide +kernel
theorem l76_102 : (ax_dt (ax_T 76)).lookup 102 = some (.aload_n 0, 1, 0, 0, 0) := by decide +kernel
theorem l76_103 : (ax_dt (ax_T 76)).lookup 103 = some (.sipush 3200, 3, 0, 0, 0) := by decide +kernel
theorem l76_106 : (ax_dt (ax_T 76)).lookup 106 = some (.newarray .int, 2, 0, 0, 0) := by decide +kernel
theorem l76_108 : (ax_dt (ax_T 76)).lookup 108 = some (.putfield 45, 3, 7, 13, 0) := by decide +kernel
theorem l76_111 : (ax_dt (ax_T 76)).lookup 111 = some (.aload_n 0, 1, 0, 0, 0) := by decide +kernel
theorem l76_112 : (ax_dt (ax_T 76)).lookup 112 = some (.sipush 3200, 3, 0, 0, 0) := by decide +kernel
theorem l76_115 : (ax_dt (ax_T 76)).lookup 115 = some (.newarray .long, 2, 0, 0, 0) := by decide +kernel
theorem l76_117 : (ax_dt (ax_T 76)).lookup 117 = some (.putfield 48, 3, 7, 14, 0) := by decide +kernel
theorem l76_120 : (ax_dt (ax_T 76)).lookup 120 = some (.aload_n 0, 1, 0, 0, 0) := by decide +kernel
theorem l76_121 : (ax_dt (ax_T 76)).lookup 121 = some (.sipush 3200, 3, 0, 0, 0) := by decide +kernel
theorem l76_124 : (ax_dt (ax_T 76)).lookup 124 = some (.newarray .int, 2, 0, 0, 0) := by decide +kernel
theorem l76_126 : (ax_dt (ax_T 76)).lookup 126 = some (.putfield 52, 3, 7, 15, 0) := by decide +kernel
theorem l76_129 : (ax_dt (ax_T 76)).lookup 129 = some (.return_, 1, 0, 0, 0) := by decide +kernel
theorem l6_0 : (ax_dt (ax_T 6)).lookup 0 = some (.aload_n 0, 1, 0, 0, 0) := by decide +kernel
theorem l6_1 : (ax_dt (ax_T 6)).lookup 1 = some (.invokespecial 3, 3, 901, 0, 0) := by decide +kernel
theorem l6_4 : (ax_dt (ax_T 6)).lookup 4 = some (.aload_n 0, 1, 0, 0, 0) := by decide +kernel
theorem l6_5 : (ax_dt (ax_T 6)).lookup 5 = some (.new 9, 3, 5, 0, 0) := by decide +kernel
theorem l6_8 : (ax_dt (ax_T 6)).lookup 8 = some (.dup, 1, 0, 0, 0) := by decide +kernel
theorem l6_9 : (ax_dt (ax_T 6)).lookup 9 = some (.iconst 0, 1, 0, 0, 0) := by decide +kernel
theorem l6_10 : (ax_dt (ax_T 6)).lookup 10 = some (.invokespecial 11, 3, 51, 1, 0) := by decide +kernel
theorem l6_13 : (ax_dt (ax_T 6)).lookup 13 = some (.putfield 14, 3, 1, 6, 0) := by decide +kernel
theorem l6_16 : (ax_dt (ax_T 6)).lookup 16 = some (.return_, 1, 0, 0, 0) := by decide +kernel
theorem l70_0 : (ax_dt (ax_T 70)).lookup 0 = some (.aload_n 0, 1, 0, 0, 0) := by decide +kernel
theorem l70_1 : (ax_dt (ax_T 70)).lookup 1 = some (.invokespecial 3, 3, 901, 0, 0) := by decide +kernel
theorem l70_4 : (ax_dt (ax_T 70)).lookup 4 = some (.aload_n 0, 1, 0, 0, 0) := by decide +kernel
theorem l70_5 : (ax_dt (ax_T 70)).lookup 5 = some (.sipush 200, 3, 0, 0, 0) := by decide +kernel
theorem l70_8 : (ax_dt (ax_T 70)).lookup 8 = some (.newarray .int, 2, 0, 0, 0) := by decide +kernel
theorem l70_10 : (ax_dt (ax_T 70)).lookup 10 = some (.putfield 9, 3, 6, 0, 0) := by decide +kernel
theorem l70_13 : (ax_dt (ax_T 70)).lookup 13 = some (.aload_n 0, 1, 0, 0, 0) := by decide +kernel
theorem l70_14 : (ax_dt (ax_T 70)).lookup 14 = some (.sipush 200, 3, 0, 0, 0) := by decide +kernel
theorem l70_17 : (ax_dt (ax_T 70)).lookup 17 = some (.newarray .boolean, 2, 0, 0, 0) := by decide +kernel
theorem l70_19 : (ax_dt (ax_T 70)).lookup 19 = some (.putfield 15, 3, 6, 1, 0) := by decide +kernel
theorem l70_22 : (ax_dt (ax_T 70)).lookup 22 = some (.aload_n 0, 1, 0, 0, 0) := by decide +kernel
theorem l70_23 : (ax_dt (ax_T 70)).lookup 23 = some (.sipush 200, 3, 0, 0, 0) := by decide +kernel
theorem l70_26 : (ax_dt (ax_T 70)).lookup 26 = some (.newarray .int, 2, 0, 0, 0) := by decide +kernel
theorem l70_28 : (ax_dt (ax_T 70)).lookup 28 = some (.putfield 19, 3, 6, 2, 0) := by decide +kernel
theorem l70_31 : (ax_dt (ax_T 70)).lookup 31 = some (.aload_n 0, 1, 0, 0, 0) := by decide +kernel
theorem l70_32 : (ax_dt (ax_T 70)).lookup 32 = some (.sipush 1600, 3, 0, 0, 0) := by decide +kernel
theorem l70_35 : (ax_dt (ax_T 70)).lookup 35 = some (.newarray .int, 2, 0, 0, 0) := by decide +kernel
theorem l70_37 : (ax_dt (ax_T 70)).lookup 37 = some (.putfield 22, 3, 6, 3, 0) := by decide +kernel
theorem l70_40 : (ax_dt (ax_T 70)).lookup 40 = some (.aload_n 0, 1, 0, 0, 0) := by decide +kernel
theorem l70_41 : (ax_dt (ax_T 70)).lookup 41 = some (.sipush 1600, 3, 0, 0, 0) := by decide +kernel
theorem l70_44 : (ax_dt (ax_T 70)).lookup 44 = some (.newarray .int, 2, 0, 0, 0) := by decide +kernel
theorem l70_46 : (ax_dt (ax_T 70)).lookup 46 = some (.putfield 25, 3, 6, 4, 0) := by decide +kernel
theorem l70_49 : (ax_dt (ax_T 70)).lookup 49 = some (.aload_n 0, 1, 0, 0, 0) := by decide +kernel
theorem l70_50 : (ax_dt (ax_T 70)).lookup 50 = some (.sipush 200, 3, 0, 0, 0) := by decide +kernel
theorem l70_53 : (ax_dt (ax_T 70)).lookup 53 = some (.newarray .int, 2, 0, 0, 0) := by decide +kernel
theorem l70_55 : (ax_dt (ax_T 70)).lookup 55 = some (.putfield 28, 3, 6, 6, 0) := by decide +kernel
theorem l70_58 : (ax_dt (ax_T 70)).lookup 58 = some (.aload_n 0, 1, 0, 0, 0) := by decide +kernel
theorem l70_59 : (ax_dt (ax_T 70)).lookup 59 = some (.new 31, 3, 0, 0, 0) := by decide +kernel
theorem l70_62 : (ax_dt (ax_T 70)).lookup 62 = some (.dup, 1, 0, 0, 0) := by decide +kernel
theorem l70_63 : (ax_dt (ax_T 70)).lookup 63 = some (.sipush 200, 3, 0, 0, 0) := by decide +kernel
theorem l70_66 : (ax_dt (ax_T 70)).lookup 66 = some (.invokespecial 33, 3, 0, 1, 0) := by decide +kernel
theorem l70_69 : (ax_dt (ax_T 70)).lookup 69 = some (.putfield 36, 3, 6, 7, 0) := by decide +kernel
theorem l70_72 : (ax_dt (ax_T 70)).lookup 72 = some (.return_, 1, 0, 0, 0) := by decide +kernel
theorem l131_0 : (ax_dt (ax_T 131)).lookup 0 = some (.aload_n 0, 1, 0, 0, 0) := by decide +kernel
theorem l131_1 : (ax_dt (ax_T 131)).lookup 1 = some (.invokespecial 1, 3, 901, 0, 0) := by decide +kernel
theorem l131_4 : (ax_dt (ax_T 131)).lookup 4 = some (.aload_n 0, 1, 0, 0, 0) := by decide +kernel
theorem l131_5 : (ax_dt (ax_T 131)).lookup 5 = some (.sipush 12000, 3, 0, 0, 0) := by decide +kernel
theorem l131_8 : (ax_dt (ax_T 131)).lookup 8 = some (.newarray .byte, 2, 0, 0, 0) := by decide +kernel
theorem l131_10 : (ax_dt (ax_T 131)).lookup 10 = some (.putfield 7, 3, 9, 1, 0) := by decide +kernel
theorem l131_13 : (ax_dt (ax_T 131)).lookup 13 = some (.aload_n 0, 1, 0, 0, 0) := by decide +kernel
theorem l131_14 : (ax_dt (ax_T 131)).lookup 14 = some (.iconst 2, 1, 0, 0, 0) := by decide +kernel
theorem l131_15 : (ax_dt (ax_T 131)).lookup 15 = some (.newarray .int, 2, 0, 0, 0) := by decide +kernel
theorem l131_17 : (ax_dt (ax_T 131)).lookup 17 = some (.putfield 13, 3, 9, 4, 0) := by decide +kernel
theorem l131_20 : (ax_dt (ax_T 131)).lookup 20 = some (.aload_n 0, 1, 0, 0, 0) := by decide +kernel
theorem l131_21 : (ax_dt (ax_T 131)).lookup 21 = some (.iconst 2, 1, 0, 0, 0) := by decide +kernel
theorem l131_22 : (ax_dt (ax_T 131)).lookup 22 = some (.newarray .int, 2, 0, 0, 0) := by decide +kernel
theorem l131_24 : (ax_dt (ax_T 131)).lookup 24 = some (.putfield 17, 3, 9, 5, 0) := by decide +kernel
theorem l131_27 : (ax_dt (ax_T 131)).lookup 27 = some (.aload_n 0, 1, 0, 0, 0) := by decide +kernel
theorem l131_28 : (ax_dt (ax_T 131)).lookup 28 = some (.bipush 12, 2, 0, 0, 0) := by decide +kernel
theorem l131_30 : (ax_dt (ax_T 131)).lookup 30 = some (.newarray .int, 2, 0, 0, 0) := by decide +kernel
theorem l131_32 : (ax_dt (ax_T 131)).lookup 32 = some (.putfield 20, 3, 9, 6, 0) := by decide +kernel
theorem l131_35 : (ax_dt (ax_T 131)).lookup 35 = some (.aload_n 0, 1, 0, 0, 0) := by decide +kernel
theorem l131_36 : (ax_dt (ax_T 131)).lookup 36 = some (.sipush 800, 3, 0, 0, 0) := by decide +kernel
theorem l131_39 : (ax_dt (ax_T 131)).lookup 39 = some (.newarray .int, 2, 0, 0, 0) := by decide +kernel
theorem l131_41 : (ax_dt (ax_T 131)).lookup 41 = some (.putfield 23, 3, 9, 7, 0) := by decide +kernel
theorem l131_44 : (ax_dt (ax_T 131)).lookup 44 = some (.aload_n 0, 1, 0, 0, 0) := by decide +kernel
theorem l131_45 : (ax_dt (ax_T 131)).lookup 45 = some (.sipush 800, 3, 0, 0, 0) := by decide +kernel
theorem l131_48 : (ax_dt (ax_T 131)).lookup 48 = some (.newarray .int, 2, 0, 0, 0) := by decide +kernel
theorem l131_50 : (ax_dt (ax_T 131)).lookup 50 = some (.putfield 26, 3, 9, 8, 0) := by decide +kernel
theorem l131_53 : (ax_dt (ax_T 131)).lookup 53 = some (.aload_n 0, 1, 0, 0, 0) := by decide +kernel
theorem l131_54 : (ax_dt (ax_T 131)).lookup 54 = some (.sipush 800, 3, 0, 0, 0) := by decide +kernel
theorem l131_57 : (ax_dt (ax_T 131)).lookup 57 = some (.newarray .int, 2, 0, 0, 0) := by decide +kernel
theorem l131_59 : (ax_dt (ax_T 131)).lookup 59 = some (.putfield 29, 3, 9, 9, 0) := by decide +kernel
theorem l131_62 : (ax_dt (ax_T 131)).lookup 62 = some (.aload_n 0, 1, 0, 0, 0) := by decide +kernel
theorem l131_63 : (ax_dt (ax_T 131)).lookup 63 = some (.sipush 800, 3, 0, 0, 0) := by decide +kernel
theorem l131_66 : (ax_dt (ax_T 131)).lookup 66 = some (.newarray .int, 2, 0, 0, 0) := by decide +kernel
theorem l131_68 : (ax_dt (ax_T 131)).lookup 68 = some (.putfield 32, 3, 9, 10, 0) := by decide +kernel
theorem l131_71 : (ax_dt (ax_T 131)).lookup 71 = some (.aload_n 0, 1, 0, 0, 0) := by decide +kernel
theorem l131_72 : (ax_dt (ax_T 131)).lookup 72 = some (.sipush 6400, 3, 0, 0, 0) := by decide +kernel
theorem l131_75 : (ax_dt (ax_T 131)).lookup 75 = some (.newarray .int, 2, 0, 0, 0) := by decide +kernel
theorem l131_77 : (ax_dt (ax_T 131)).lookup 77 = some (.putfield 35, 3, 9, 11, 0) := by decide +kernel
theorem l131_80 : (ax_dt (ax_T 131)).lookup 80 = some (.aload_n 0, 1, 0, 0, 0) := by decide +kernel
theorem l131_81 : (ax_dt (ax_T 131)).lookup 81 = some (.sipush 6400, 3, 0, 0, 0) := by decide +kernel
theorem l131_84 : (ax_dt (ax_T 131)).lookup 84 = some (.newarray .int, 2, 0, 0, 0) := by decide +kernel
theorem l131_86 : (ax_dt (ax_T 131)).lookup 86 = some (.putfield 38, 3, 9, 12, 0) := by decide +kernel
theorem l131_89 : (ax_dt (ax_T 131)).lookup 89 = some (.aload_n 0, 1, 0, 0, 0) := by decide +kernel
theorem l131_90 : (ax_dt (ax_T 131)).lookup 90 = some (.sipush 6400, 3, 0, 0, 0) := by decide +kernel
theorem l131_93 : (ax_dt (ax_T 131)).lookup 93 = some (.newarray .long, 2, 0, 0, 0) := by decide +kernel
theorem l131_95 : (ax_dt (ax_T 131)).lookup 95 = some (.putfield 41, 3, 9, 13, 0) := by decide +kernel
theorem l131_98 : (ax_dt (ax_T 131)).lookup 98 = some (.aload_n 0, 1, 0, 0, 0) := by decide +kernel
theorem l131_99 : (ax_dt (ax_T 131)).lookup 99 = some (.sipush 6400, 3, 0, 0, 0) := by decide +kernel
theorem l131_102 : (ax_dt (ax_T 131)).lookup 102 = some (.newarray .int, 2, 0, 0, 0) := by decide +kernel
theorem l131_104 : (ax_dt (ax_T 131)).lookup 104 = some (.putfield 45, 3, 9, 14, 0) := by decide +kernel
theorem l131_107 : (ax_dt (ax_T 131)).lookup 107 = some (.aload_n 0, 1, 0, 0, 0) := by decide +kernel
theorem l131_108 : (ax_dt (ax_T 131)).lookup 108 = some (.sipush 6400, 3, 0, 0, 0) := by decide +kernel
theorem l131_111 : (ax_dt (ax_T 131)).lookup 111 = some (.newarray .int, 2, 0, 0, 0) := by decide +kernel
theorem l131_113 : (ax_dt (ax_T 131)).lookup 113 = some (.putfield 48, 3, 9, 15, 0) := by decide +kernel
theorem l131_116 : (ax_dt (ax_T 131)).lookup 116 = some (.aload_n 0, 1, 0, 0, 0) := by decide +kernel
theorem l131_117 : (ax_dt (ax_T 131)).lookup 117 = some (.iconst 2, 1, 0, 0, 0) := by decide +kernel
theorem l131_118 : (ax_dt (ax_T 131)).lookup 118 = some (.newarray .int, 2, 0, 0, 0) := by decide +kernel
theorem l131_120 : (ax_dt (ax_T 131)).lookup 120 = some (.putfield 51, 3, 9, 16, 0) := by decide +kernel
theorem l131_123 : (ax_dt (ax_T 131)).lookup 123 = some (.aload_n 0, 1, 0, 0, 0) := by decide +kernel
theorem l131_124 : (ax_dt (ax_T 131)).lookup 124 = some (.iconst 2, 1, 0, 0, 0) := by decide +kernel
theorem l131_125 : (ax_dt (ax_T 131)).lookup 125 = some (.newarray .int, 2, 0, 0, 0) := by decide +kernel
theorem l131_127 : (ax_dt (ax_T 131)).lookup 127 = some (.putfield 54, 3, 9, 17, 0) := by decide +kernel
theorem l131_130 : (ax_dt (ax_T 131)).lookup 130 = some (.aload_n 0, 1, 0, 0, 0) := by decide +kernel
theorem l131_131 : (ax_dt (ax_T 131)).lookup 131 = some (.ldc 57, 2, 0, 0, 180000) := by decide +kernel
theorem l131_133 : (ax_dt (ax_T 131)).lookup 133 = some (.newarray .byte, 2, 0, 0, 0) := by decide +kernel
theorem l131_135 : (ax_dt (ax_T 131)).lookup 135 = some (.putfield 58, 3, 9, 18, 0) := by decide +kernel
theorem l131_138 : (ax_dt (ax_T 131)).lookup 138 = some (.aload_n 0, 1, 0, 0, 0) := by decide +kernel
theorem l131_139 : (ax_dt (ax_T 131)).lookup 139 = some (.ldc 61, 2, 0, 0, 40000) := by decide +kernel
theorem l131_141 : (ax_dt (ax_T 131)).lookup 141 = some (.newarray .byte, 2, 0, 0, 0) := by decide +kernel
theorem l131_143 : (ax_dt (ax_T 131)).lookup 143 = some (.putfield 62, 3, 9, 19, 0) := by decide +kernel
theorem l131_146 : (ax_dt (ax_T 131)).lookup 146 = some (.aload_n 0, 1, 0, 0, 0) := by decide +kernel
theorem l131_147 : (ax_dt (ax_T 131)).lookup 147 = some (.iconst 3, 1, 0, 0, 0) := by decide +kernel
theorem l131_148 : (ax_dt (ax_T 131)).lookup 148 = some (.newarray .int, 2, 0, 0, 0) := by decide +kernel
theorem l131_150 : (ax_dt (ax_T 131)).lookup 150 = some (.putfield 65, 3, 9, 20, 0) := by decide +kernel
theorem l131_153 : (ax_dt (ax_T 131)).lookup 153 = some (.aload_n 0, 1, 0, 0, 0) := by decide +kernel
theorem l131_154 : (ax_dt (ax_T 131)).lookup 154 = some (.sipush 400, 3, 0, 0, 0) := by decide +kernel
theorem l131_157 : (ax_dt (ax_T 131)).lookup 157 = some (.newarray .int, 2, 0, 0, 0) := by decide +kernel
theorem l131_159 : (ax_dt (ax_T 131)).lookup 159 = some (.putfield 68, 3, 9, 24, 0) := by decide +kernel
theorem l131_162 : (ax_dt (ax_T 131)).lookup 162 = some (.aload_n 0, 1, 0, 0, 0) := by decide +kernel
theorem l131_163 : (ax_dt (ax_T 131)).lookup 163 = some (.sipush 400, 3, 0, 0, 0) := by decide +kernel
theorem l131_166 : (ax_dt (ax_T 131)).lookup 166 = some (.newarray .int, 2, 0, 0, 0) := by decide +kernel
theorem l131_168 : (ax_dt (ax_T 131)).lookup 168 = some (.putfield 71, 3, 9, 25, 0) := by decide +kernel
theorem l131_171 : (ax_dt (ax_T 131)).lookup 171 = some (.aload_n 0, 1, 0, 0, 0) := by decide +kernel
theorem l131_172 : (ax_dt (ax_T 131)).lookup 172 = some (.sipush 400, 3, 0, 0, 0) := by decide +kernel
theorem l131_175 : (ax_dt (ax_T 131)).lookup 175 = some (.newarray .int, 2, 0, 0, 0) := by decide +kernel
theorem l131_177 : (ax_dt (ax_T 131)).lookup 177 = some (.putfield 74, 3, 9, 27, 0) := by decide +kernel
theorem l131_180 : (ax_dt (ax_T 131)).lookup 180 = some (.aload_n 0, 1, 0, 0, 0) := by decide +kernel
theorem l131_181 : (ax_dt (ax_T 131)).lookup 181 = some (.sipush 400, 3, 0, 0, 0) := by decide +kernel
theorem l131_184 : (ax_dt (ax_T 131)).lookup 184 = some (.newarray .int, 2, 0, 0, 0) := by decide +kernel
theorem l131_186 : (ax_dt (ax_T 131)).lookup 186 = some (.putfield 77, 3, 9, 28, 0) := by decide +kernel
theorem l131_189 : (ax_dt (ax_T 131)).lookup 189 = some (.aload_n 0, 1, 0, 0, 0) := by decide +kernel
theorem l131_190 : (ax_dt (ax_T 131)).lookup 190 = some (.sipush 3200, 3, 0, 0, 0) := by decide +kernel
theorem l131_193 : (ax_dt (ax_T 131)).lookup 193 = some (.newarray .int, 2, 0, 0, 0) := by decide +kernel
theorem l131_195 : (ax_dt (ax_T 131)).lookup 195 = some (.putfield 80, 3, 9, 30, 0) := by decide +kernel
theorem l131_198 : (ax_dt (ax_T 131)).lookup 198 = some (.aload_n 0, 1, 0, 0, 0) := by decide +kernel
theorem l131_199 : (ax_dt (ax_T 131)).lookup 199 = some (.sipush 3200, 3, 0, 0, 0) := by decide +kernel
theorem l131_202 : (ax_dt (ax_T 131)).lookup 202 = some (.newarray .int, 2, 0, 0, 0) := by decide +kernel
theorem l131_204 : (ax_dt (ax_T 131)).lookup 204 = some (.putfield 83, 3, 9, 31, 0) := by decide +kernel
theorem l131_207 : (ax_dt (ax_T 131)).lookup 207 = some (.aload_n 0, 1, 0, 0, 0) := by decide +kernel
theorem l131_208 : (ax_dt (ax_T 131)).lookup 208 = some (.sipush 400, 3, 0, 0, 0) := by decide +kernel
theorem l131_211 : (ax_dt (ax_T 131)).lookup 211 = some (.newarray .int, 2, 0, 0, 0) := by decide +kernel
theorem l131_213 : (ax_dt (ax_T 131)).lookup 213 = some (.putfield 86, 3, 9, 33, 0) := by decide +kernel
theorem l131_216 : (ax_dt (ax_T 131)).lookup 216 = some (.aload_n 0, 1, 0, 0, 0) := by decide +kernel
theorem l131_217 : (ax_dt (ax_T 131)).lookup 217 = some (.sipush 3200, 3, 0, 0, 0) := by decide +kernel
theorem l131_220 : (ax_dt (ax_T 131)).lookup 220 = some (.newarray .int, 2, 0, 0, 0) := by decide +kernel
theorem l131_222 : (ax_dt (ax_T 131)).lookup 222 = some (.putfield 89, 3, 9, 34, 0) := by decide +kernel
theorem l131_225 : (ax_dt (ax_T 131)).lookup 225 = some (.aload_n 0, 1, 0, 0, 0) := by decide +kernel
theorem l131_226 : (ax_dt (ax_T 131)).lookup 226 = some (.bipush 6, 2, 0, 0, 0) := by decide +kernel
theorem l131_228 : (ax_dt (ax_T 131)).lookup 228 = some (.newarray .int, 2, 0, 0, 0) := by decide +kernel
theorem l131_230 : (ax_dt (ax_T 131)).lookup 230 = some (.putfield 92, 3, 9, 35, 0) := by decide +kernel
theorem l131_233 : (ax_dt (ax_T 131)).lookup 233 = some (.aload_n 0, 1, 0, 0, 0) := by decide +kernel
theorem l131_234 : (ax_dt (ax_T 131)).lookup 234 = some (.sipush 200, 3, 0, 0, 0) := by decide +kernel
theorem l131_237 : (ax_dt (ax_T 131)).lookup 237 = some (.newarray .int, 2, 0, 0, 0) := by decide +kernel
theorem l131_239 : (ax_dt (ax_T 131)).lookup 239 = some (.putfield 95, 3, 9, 44, 0) := by decide +kernel
theorem l131_242 : (ax_dt (ax_T 131)).lookup 242 = some (.aload_n 0, 1, 0, 0, 0) := by decide +kernel
theorem l131_243 : (ax_dt (ax_T 131)).lookup 243 = some (.sipush 200, 3, 0, 0, 0) := by decide +kernel
theorem l131_246 : (ax_dt (ax_T 131)).lookup 246 = some (.newarray .int, 2, 0, 0, 0) := by decide +kernel
theorem l131_248 : (ax_dt (ax_T 131)).lookup 248 = some (.putfield 98, 3, 9, 45, 0) := by decide +kernel
theorem l131_251 : (ax_dt (ax_T 131)).lookup 251 = some (.aload_n 0, 1, 0, 0, 0) := by decide +kernel
theorem l131_252 : (ax_dt (ax_T 131)).lookup 252 = some (.sipush 200, 3, 0, 0, 0) := by decide +kernel
theorem l131_255 : (ax_dt (ax_T 131)).lookup 255 = some (.newarray .boolean, 2, 0, 0, 0) := by decide +kernel
theorem l131_257 : (ax_dt (ax_T 131)).lookup 257 = some (.putfield 101, 3, 9, 46, 0) := by decide +kernel
theorem l131_260 : (ax_dt (ax_T 131)).lookup 260 = some (.aload_n 0, 1, 0, 0, 0) := by decide +kernel
theorem l131_261 : (ax_dt (ax_T 131)).lookup 261 = some (.sipush 200, 3, 0, 0, 0) := by decide +kernel
theorem l131_264 : (ax_dt (ax_T 131)).lookup 264 = some (.newarray .int, 2, 0, 0, 0) := by decide +kernel
theorem l131_266 : (ax_dt (ax_T 131)).lookup 266 = some (.putfield 105, 3, 9, 47, 0) := by decide +kernel
theorem l131_269 : (ax_dt (ax_T 131)).lookup 269 = some (.aload_n 0, 1, 0, 0, 0) := by decide +kernel
theorem l131_270 : (ax_dt (ax_T 131)).lookup 270 = some (.sipush 1600, 3, 0, 0, 0) := by decide +kernel
theorem l131_273 : (ax_dt (ax_T 131)).lookup 273 = some (.newarray .int, 2, 0, 0, 0) := by decide +kernel
theorem l131_275 : (ax_dt (ax_T 131)).lookup 275 = some (.putfield 108, 3, 9, 48, 0) := by decide +kernel
theorem l131_278 : (ax_dt (ax_T 131)).lookup 278 = some (.aload_n 0, 1, 0, 0, 0) := by decide +kernel
theorem l131_279 : (ax_dt (ax_T 131)).lookup 279 = some (.sipush 1600, 3, 0, 0, 0) := by decide +kernel
theorem l131_282 : (ax_dt (ax_T 131)).lookup 282 = some (.newarray .int, 2, 0, 0, 0) := by decide +kernel
theorem l131_284 : (ax_dt (ax_T 131)).lookup 284 = some (.putfield 111, 3, 9, 49, 0) := by decide +kernel
theorem l131_287 : (ax_dt (ax_T 131)).lookup 287 = some (.aload_n 0, 1, 0, 0, 0) := by decide +kernel
theorem l131_288 : (ax_dt (ax_T 131)).lookup 288 = some (.sipush 400, 3, 0, 0, 0) := by decide +kernel
theorem l131_291 : (ax_dt (ax_T 131)).lookup 291 = some (.newarray .int, 2, 0, 0, 0) := by decide +kernel
theorem l131_293 : (ax_dt (ax_T 131)).lookup 293 = some (.putfield 114, 3, 9, 50, 0) := by decide +kernel
theorem l131_296 : (ax_dt (ax_T 131)).lookup 296 = some (.aload_n 0, 1, 0, 0, 0) := by decide +kernel
theorem l131_297 : (ax_dt (ax_T 131)).lookup 297 = some (.sipush 3200, 3, 0, 0, 0) := by decide +kernel
theorem l131_300 : (ax_dt (ax_T 131)).lookup 300 = some (.newarray .int, 2, 0, 0, 0) := by decide +kernel
theorem l131_302 : (ax_dt (ax_T 131)).lookup 302 = some (.putfield 117, 3, 9, 51, 0) := by decide +kernel
theorem l131_305 : (ax_dt (ax_T 131)).lookup 305 = some (.return_, 1, 0, 0, 0) := by decide +kernel
theorem k_2 {L : Nat} {xs : Nat → Int32} {d : Nat} {h : ax_H} (hz : ∀ z, 2 < z → h z = bH b0 z) (hq : h 2 = .inr (5, [.null, .int 0])) : bRn L xs (d + 0) 51 0 [(0, .ref 2), (1, bI ((12000 : Nat) : Int))] [] (2, h, true) (.inl none, (3, ax_up h 2 (.inr (5, [.ref 3, .int 0])), true), 1, 12000) := by
  refine c_eq (M' := (2, ax_up h 2 (.inr (5, [.null, .int 0])), true)) (by rw [up_self hq]) rfl ?_
  refine c_s (pc' := 1) (lv1 := [(0, .ref 2), (1, bI ((12000 : Nat) : Int))]) (st' := [.ref 2]) l51_0 (fun _ => rfl) ?_
  refine c_s (pc' := 4) (lv1 := [(0, .ref 2), (1, bI ((12000 : Nat) : Int))]) (st' := []) l51_1 (fun _ => rfl) ?_
  refine c_s (pc' := 5) (lv1 := [(0, .ref 2), (1, bI ((12000 : Nat) : Int))]) (st' := [.ref 2]) l51_4 (fun _ => rfl) ?_
  refine c_s (pc' := 6) (lv1 := [(0, .ref 2), (1, bI ((12000 : Nat) : Int))]) (st' := [bI ((12000 : Nat) : Int), .ref 2]) l51_5 (fun _ => rfl) ?_
  refine c_v (pc' := 7) (w := bI ((0 : Nat) : Int)) (st' := [bI ((12000 : Nat) : Int), .ref 2]) l51_6 (fun _ => rfl) (congrArg Value.int (by decide)) ?_
  refine c_v (pc' := 10) (w := bI ((12000 : Nat) : Int)) (st' := [.ref 2]) l51_7 (fun _ => rfl) (congrArg Value.int (by decide)) ?_
  refine d_arr (pc' := 12) (m := 12000) (q' := 3) (c := 0) (s := 0) l51_10 rfl (by decide) rfl rfl ((up_ne (q := 2) (by decide)).trans ((hz 3 (by decide)).trans (b0_b (n := 12000) rfl))) (by decide) (by decide) ?_
  refine c_pf (pc' := 15) (q0 := 1) (j := 0) (fs' := [.ref 3, .int 0]) l51_12 rfl rfl (by decide) (by decide) rfl rfl ?_
  exact bRn.ret l51_15 rfl
theorem k_4 {L : Nat} {xs : Nat → Int32} {d : Nat} {h : ax_H} (hz : ∀ z, 4 < z → h z = bH b0 z) (hq : h 4 = .inr (5, [.null, .int 0])) : bRn L xs (d + 0) 51 0 [(0, .ref 4), (1, bI ((30000 : Nat) : Int))] [] (4, h, true) (.inl none, (5, ax_up h 4 (.inr (5, [.ref 5, .int 0])), true), 1, 30000) := by
  refine c_eq (M' := (4, ax_up h 4 (.inr (5, [.null, .int 0])), true)) (by rw [up_self hq]) rfl ?_
  refine c_s (pc' := 1) (lv1 := [(0, .ref 4), (1, bI ((30000 : Nat) : Int))]) (st' := [.ref 4]) l51_0 (fun _ => rfl) ?_
  refine c_s (pc' := 4) (lv1 := [(0, .ref 4), (1, bI ((30000 : Nat) : Int))]) (st' := []) l51_1 (fun _ => rfl) ?_
  refine c_s (pc' := 5) (lv1 := [(0, .ref 4), (1, bI ((30000 : Nat) : Int))]) (st' := [.ref 4]) l51_4 (fun _ => rfl) ?_
  refine c_s (pc' := 6) (lv1 := [(0, .ref 4), (1, bI ((30000 : Nat) : Int))]) (st' := [bI ((30000 : Nat) : Int), .ref 4]) l51_5 (fun _ => rfl) ?_
  refine c_v (pc' := 7) (w := bI ((0 : Nat) : Int)) (st' := [bI ((30000 : Nat) : Int), .ref 4]) l51_6 (fun _ => rfl) (congrArg Value.int (by decide)) ?_
  refine c_v (pc' := 10) (w := bI ((30000 : Nat) : Int)) (st' := [.ref 4]) l51_7 (fun _ => rfl) (congrArg Value.int (by decide)) ?_
  refine d_arr (pc' := 12) (m := 30000) (q' := 5) (c := 0) (s := 0) l51_10 rfl (by decide) rfl rfl ((up_ne (q := 4) (by decide)).trans ((hz 5 (by decide)).trans (b0_b (n := 30000) rfl))) (by decide) (by decide) ?_
  refine c_pf (pc' := 15) (q0 := 3) (j := 0) (fs' := [.ref 5, .int 0]) l51_12 rfl rfl (by decide) (by decide) rfl rfl ?_
  exact bRn.ret l51_15 rfl
theorem k_7 {L : Nat} {xs : Nat → Int32} {d : Nat} {h : ax_H} (hz : ∀ z, 7 < z → h z = bH b0 z) (hq : h 7 = .inr (5, [.null, .int 0])) : bRn L xs (d + 0) 51 0 [(0, .ref 7), (1, bI ((24000 : Nat) : Int))] [] (7, h, true) (.inl none, (8, ax_up h 7 (.inr (5, [.ref 8, .int 0])), true), 1, 24000) := by
  refine c_eq (M' := (7, ax_up h 7 (.inr (5, [.null, .int 0])), true)) (by rw [up_self hq]) rfl ?_
  refine c_s (pc' := 1) (lv1 := [(0, .ref 7), (1, bI ((24000 : Nat) : Int))]) (st' := [.ref 7]) l51_0 (fun _ => rfl) ?_
  refine c_s (pc' := 4) (lv1 := [(0, .ref 7), (1, bI ((24000 : Nat) : Int))]) (st' := []) l51_1 (fun _ => rfl) ?_
  refine c_s (pc' := 5) (lv1 := [(0, .ref 7), (1, bI ((24000 : Nat) : Int))]) (st' := [.ref 7]) l51_4 (fun _ => rfl) ?_
  refine c_s (pc' := 6) (lv1 := [(0, .ref 7), (1, bI ((24000 : Nat) : Int))]) (st' := [bI ((24000 : Nat) : Int), .ref 7]) l51_5 (fun _ => rfl) ?_
  refine c_v (pc' := 7) (w := bI ((0 : Nat) : Int)) (st' := [bI ((24000 : Nat) : Int), .ref 7]) l51_6 (fun _ => rfl) (congrArg Value.int (by decide)) ?_
  refine c_v (pc' := 10) (w := bI ((24000 : Nat) : Int)) (st' := [.ref 7]) l51_7 (fun _ => rfl) (congrArg Value.int (by decide)) ?_
  refine d_arr (pc' := 12) (m := 24000) (q' := 8) (c := 0) (s := 0) l51_10 rfl (by decide) rfl rfl ((up_ne (q := 7) (by decide)).trans ((hz 8 (by decide)).trans (b0_b (n := 24000) rfl))) (by decide) (by decide) ?_
  refine c_pf (pc' := 15) (q0 := 6) (j := 0) (fs' := [.ref 8, .int 0]) l51_12 rfl rfl (by decide) (by decide) rfl rfl ?_
  exact bRn.ret l51_15 rfl
theorem k_9 {L : Nat} {xs : Nat → Int32} {d : Nat} {h : ax_H} (hz : ∀ z, 9 < z → h z = bH b0 z) (hq : h 9 = .inr (5, [.null, .int 0])) : bRn L xs (d + 0) 51 0 [(0, .ref 9), (1, bI ((8000 : Nat) : Int))] [] (9, h, true) (.inl none, (10, ax_up h 9 (.inr (5, [.ref 10, .int 0])), true), 1, 8000) := by
  refine c_eq (M' := (9, ax_up h 9 (.inr (5, [.null, .int 0])), true)) (by rw [up_self hq]) rfl ?_
  refine c_s (pc' := 1) (lv1 := [(0, .ref 9), (1, bI ((8000 : Nat) : Int))]) (st' := [.ref 9]) l51_0 (fun _ => rfl) ?_
  refine c_s (pc' := 4) (lv1 := [(0, .ref 9), (1, bI ((8000 : Nat) : Int))]) (st' := []) l51_1 (fun _ => rfl) ?_
  refine c_s (pc' := 5) (lv1 := [(0, .ref 9), (1, bI ((8000 : Nat) : Int))]) (st' := [.ref 9]) l51_4 (fun _ => rfl) ?_
  refine c_s (pc' := 6) (lv1 := [(0, .ref 9), (1, bI ((8000 : Nat) : Int))]) (st' := [bI ((8000 : Nat) : Int), .ref 9]) l51_5 (fun _ => rfl) ?_
  refine c_v (pc' := 7) (w := bI ((0 : Nat) : Int)) (st' := [bI ((8000 : Nat) : Int), .ref 9]) l51_6 (fun _ => rfl) (congrArg Value.int (by decide)) ?_
  refine c_v (pc' := 10) (w := bI ((8000 : Nat) : Int)) (st' := [.ref 9]) l51_7 (fun _ => rfl) (congrArg Value.int (by decide)) ?_
  refine d_arr (pc' := 12) (m := 8000) (q' := 10) (c := 0) (s := 0) l51_10 rfl (by decide) rfl rfl ((up_ne (q := 9) (by decide)).trans ((hz 10 (by decide)).trans (b0_b (n := 8000) rfl))) (by decide) (by decide) ?_
  refine c_pf (pc' := 15) (q0 := 8) (j := 0) (fs' := [.ref 10, .int 0]) l51_12 rfl rfl (by decide) (by decide) rfl rfl ?_
  exact bRn.ret l51_15 rfl
theorem k_11 {L : Nat} {xs : Nat → Int32} {d : Nat} {h : ax_H} (hz : ∀ z, 11 < z → h z = bH b0 z) (hq : h 11 = .inr (5, [.null, .int 0])) : bRn L xs (d + 0) 51 0 [(0, .ref 11), (1, bI ((8000 : Nat) : Int))] [] (11, h, true) (.inl none, (12, ax_up h 11 (.inr (5, [.ref 12, .int 0])), true), 1, 8000) := by
  refine c_eq (M' := (11, ax_up h 11 (.inr (5, [.null, .int 0])), true)) (by rw [up_self hq]) rfl ?_
  refine c_s (pc' := 1) (lv1 := [(0, .ref 11), (1, bI ((8000 : Nat) : Int))]) (st' := [.ref 11]) l51_0 (fun _ => rfl) ?_
  refine c_s (pc' := 4) (lv1 := [(0, .ref 11), (1, bI ((8000 : Nat) : Int))]) (st' := []) l51_1 (fun _ => rfl) ?_
  refine c_s (pc' := 5) (lv1 := [(0, .ref 11), (1, bI ((8000 : Nat) : Int))]) (st' := [.ref 11]) l51_4 (fun _ => rfl) ?_
  refine c_s (pc' := 6) (lv1 := [(0, .ref 11), (1, bI ((8000 : Nat) : Int))]) (st' := [bI ((8000 : Nat) : Int), .ref 11]) l51_5 (fun _ => rfl) ?_
  refine c_v (pc' := 7) (w := bI ((0 : Nat) : Int)) (st' := [bI ((8000 : Nat) : Int), .ref 11]) l51_6 (fun _ => rfl) (congrArg Value.int (by decide)) ?_
  refine c_v (pc' := 10) (w := bI ((8000 : Nat) : Int)) (st' := [.ref 11]) l51_7 (fun _ => rfl) (congrArg Value.int (by decide)) ?_
  refine d_arr (pc' := 12) (m := 8000) (q' := 12) (c := 0) (s := 0) l51_10 rfl (by decide) rfl rfl ((up_ne (q := 11) (by decide)).trans ((hz 12 (by decide)).trans (b0_b (n := 8000) rfl))) (by decide) (by decide) ?_
  refine c_pf (pc' := 15) (q0 := 10) (j := 0) (fs' := [.ref 12, .int 0]) l51_12 rfl rfl (by decide) (by decide) rfl rfl ?_
  exact bRn.ret l51_15 rfl
theorem k_6 {L : Nat} {xs : Nat → Int32} {d : Nat} {h : ax_H} (hz : ∀ z, 6 < z → h z = bH b0 z) (hq : h 6 = .inr (4, [.null, .null, .null])) : bRn L xs (d + 1) 49 0 [(0, .ref 6)] [] (6, h, true) (.inl none, (12, ax_up h 6 (.inr (4, [.ref 7, .ref 9, .ref 11])), true), 6, 40006) := by
  refine c_eq (M' := (6, ax_up h 6 (.inr (4, [.null, .null, .null])), true)) (by rw [up_self hq]) rfl ?_
  refine c_s (pc' := 1) (lv1 := [(0, .ref 6)]) (st' := [.ref 6]) l49_0 (fun _ => rfl) ?_
  refine c_s (pc' := 4) (lv1 := [(0, .ref 6)]) (st' := []) l49_1 (fun _ => rfl) ?_
  refine c_s (pc' := 5) (lv1 := [(0, .ref 6)]) (st' := [.ref 6]) l49_4 (fun _ => rfl) ?_
  refine d_new (pc' := 8) (c := 5) (s := 40004) l49_5 (by decide) rfl (by decide) (by decide) ?_
  refine c_s (pc' := 9) (lv1 := [(0, .ref 6)]) (st' := [.ref 7, .ref 7, .ref 6]) l49_8 (fun _ => rfl) ?_
  refine c_v (pc' := 12) (w := bI ((24000 : Nat) : Int)) (st' := [.ref 7, .ref 7, .ref 6]) l49_9 (fun _ => rfl) (congrArg Value.int (by decide)) ?_
  refine d_call (pc' := 15) (n' := 8) (c1 := 1) (s1 := 24000) (c := 4) (s := 16004) l49_12 rfl (fun _ => trivial) (Nat.le_of_ble_eq_true rfl) (Nat.le_of_ble_eq_true rfl) rfl (k_7 (fun y hy => (up_ne (by omega)).trans ((up_ne (by omega)).trans (hz y (by omega)))) up_at) rfl (by decide) (by decide) ?_
  refine c_eq (M' := (8, ax_up h 6 (.inr (4, [.null, .null, .null])), true)) (by rw [c_done ((up_ne (q := 6) (by decide)).trans ((hz 7 (by decide)).trans (show bH b0 7 = .inr (5, [.ref 8, .int 0]) from rfl)))]) rfl ?_
  refine c_pf (pc' := 18) (q0 := 5) (j := 0) (fs' := [.ref 7, .null, .null]) l49_15 rfl rfl (by decide) (by decide) rfl rfl ?_
  refine c_s (pc' := 19) (lv1 := [(0, .ref 6)]) (st' := [.ref 6]) l49_18 (fun _ => rfl) ?_
  refine d_new (pc' := 22) (c := 3) (s := 16002) l49_19 (by decide) rfl (by decide) (by decide) ?_
  refine c_s (pc' := 23) (lv1 := [(0, .ref 6)]) (st' := [.ref 9, .ref 9, .ref 6]) l49_22 (fun _ => rfl) ?_
  refine c_v (pc' := 26) (w := bI ((8000 : Nat) : Int)) (st' := [.ref 9, .ref 9, .ref 6]) l49_23 (fun _ => rfl) (congrArg Value.int (by decide)) ?_
  refine d_call (pc' := 29) (n' := 10) (c1 := 1) (s1 := 8000) (c := 2) (s := 8002) l49_26 rfl (fun _ => trivial) (Nat.le_of_ble_eq_true rfl) (Nat.le_of_ble_eq_true rfl) rfl (k_9 (fun y hy => (up_ne (by omega)).trans ((up_ne (by omega)).trans (hz y (by omega)))) up_at) rfl (by decide) (by decide) ?_
  refine c_eq (M' := (10, ax_up h 6 (.inr (4, [.ref 7, .null, .null])), true)) (by rw [c_done ((up_ne (q := 6) (by decide)).trans ((hz 9 (by decide)).trans (show bH b0 9 = .inr (5, [.ref 10, .int 0]) from rfl)))]) rfl ?_
  refine c_pf (pc' := 32) (q0 := 5) (j := 0) (fs' := [.ref 7, .ref 9, .null]) l49_29 rfl rfl (by decide) (by decide) rfl rfl ?_
  refine c_s (pc' := 33) (lv1 := [(0, .ref 6)]) (st' := [.ref 6]) l49_32 (fun _ => rfl) ?_
  refine d_new (pc' := 36) (c := 1) (s := 8000) l49_33 (by decide) rfl (by decide) (by decide) ?_
  refine c_s (pc' := 37) (lv1 := [(0, .ref 6)]) (st' := [.ref 11, .ref 11, .ref 6]) l49_36 (fun _ => rfl) ?_
  refine c_v (pc' := 40) (w := bI ((8000 : Nat) : Int)) (st' := [.ref 11, .ref 11, .ref 6]) l49_37 (fun _ => rfl) (congrArg Value.int (by decide)) ?_
  refine d_call (pc' := 43) (n' := 12) (c1 := 1) (s1 := 8000) (c := 0) (s := 0) l49_40 rfl (fun _ => trivial) (Nat.le_of_ble_eq_true rfl) (Nat.le_of_ble_eq_true rfl) rfl (k_11 (fun y hy => (up_ne (by omega)).trans ((up_ne (by omega)).trans (hz y (by omega)))) up_at) rfl (by decide) (by decide) ?_
  refine c_eq (M' := (12, ax_up h 6 (.inr (4, [.ref 7, .ref 9, .null])), true)) (by rw [c_done ((up_ne (q := 6) (by decide)).trans ((hz 11 (by decide)).trans (show bH b0 11 = .inr (5, [.ref 12, .int 0]) from rfl)))]) rfl ?_
  refine c_pf (pc' := 46) (q0 := 5) (j := 0) (fs' := [.ref 7, .ref 9, .ref 11]) l49_43 rfl rfl (by decide) (by decide) rfl rfl ?_
  exact bRn.ret l49_46 rfl
theorem k_24 {L : Nat} {xs : Nat → Int32} {d : Nat} {h : ax_H} (hz : ∀ z, 24 < z → h z = bH b0 z) (hq : h 24 = .inr (0, [.null, .null])) : bRn L xs (d + 0) 0 0 [(0, .ref 24), (1, bI ((400 : Nat) : Int))] [] (24, h, true) (.inl none, (26, ax_up h 24 (.inr (0, [.ref 25, .ref 26])), true), 2, 656) := by
  refine c_eq (M' := (24, ax_up h 24 (.inr (0, [.null, .null])), true)) (by rw [up_self hq]) rfl ?_
  refine c_s (pc' := 1) (lv1 := [(0, .ref 24), (1, bI ((400 : Nat) : Int))]) (st' := [.ref 24]) l0_0 (fun _ => rfl) ?_
  refine c_s (pc' := 4) (lv1 := [(0, .ref 24), (1, bI ((400 : Nat) : Int))]) (st' := []) l0_1 (fun _ => rfl) ?_
  refine c_s (pc' := 5) (lv1 := [(0, .ref 24), (1, bI ((400 : Nat) : Int))]) (st' := [.ref 24]) l0_4 (fun _ => rfl) ?_
  refine c_v (pc' := 8) (w := bI ((256 : Nat) : Int)) (st' := [.ref 24]) l0_5 (fun _ => rfl) (congrArg Value.int (by decide)) ?_
  refine d_arr (pc' := 10) (m := 256) (q' := 25) (c := 1) (s := 400) l0_8 rfl (by decide) rfl rfl ((up_ne (q := 24) (by decide)).trans ((hz 25 (by decide)).trans (b0_i (n := 256) rfl))) (by decide) (by decide) ?_
  refine c_pf (pc' := 13) (q0 := 23) (j := 0) (fs' := [.ref 25, .null]) l0_10 rfl rfl (by decide) (by decide) rfl rfl ?_
  refine c_s (pc' := 14) (lv1 := [(0, .ref 24), (1, bI ((400 : Nat) : Int))]) (st' := [.ref 24]) l0_13 (fun _ => rfl) ?_
  refine c_s (pc' := 15) (lv1 := [(0, .ref 24), (1, bI ((400 : Nat) : Int))]) (st' := [bI ((400 : Nat) : Int), .ref 24]) l0_14 (fun _ => rfl) ?_
  refine c_v (pc' := 16) (w := bI ((0 : Nat) : Int)) (st' := [bI ((400 : Nat) : Int), .ref 24]) l0_15 (fun _ => rfl) (congrArg Value.int (by decide)) ?_
  refine c_v (pc' := 19) (w := bI ((400 : Nat) : Int)) (st' := [.ref 24]) l0_16 (fun _ => rfl) (congrArg Value.int (by decide)) ?_
  refine d_arr (pc' := 21) (m := 400) (q' := 26) (c := 0) (s := 0) l0_19 rfl (by decide) rfl rfl ((up_ne (q := 24) (by decide)).trans ((hz 26 (by decide)).trans (b0_i (n := 400) rfl))) (by decide) (by decide) ?_
  refine c_pf (pc' := 24) (q0 := 23) (j := 0) (fs' := [.ref 25, .ref 26]) l0_21 rfl rfl (by decide) (by decide) rfl rfl ?_
  exact bRn.ret l0_24 rfl
theorem k_27 {L : Nat} {xs : Nat → Int32} {d : Nat} {h : ax_H} (hz : ∀ z, 27 < z → h z = bH b0 z) (hq : h 27 = .inr (0, [.null, .null])) : bRn L xs (d + 0) 0 0 [(0, .ref 27), (1, bI ((3200 : Nat) : Int))] [] (27, h, true) (.inl none, (29, ax_up h 27 (.inr (0, [.ref 28, .ref 29])), true), 2, 3456) := by
  refine c_eq (M' := (27, ax_up h 27 (.inr (0, [.null, .null])), true)) (by rw [up_self hq]) rfl ?_
  refine c_s (pc' := 1) (lv1 := [(0, .ref 27), (1, bI ((3200 : Nat) : Int))]) (st' := [.ref 27]) l0_0 (fun _ => rfl) ?_
  refine c_s (pc' := 4) (lv1 := [(0, .ref 27), (1, bI ((3200 : Nat) : Int))]) (st' := []) l0_1 (fun _ => rfl) ?_
  refine c_s (pc' := 5) (lv1 := [(0, .ref 27), (1, bI ((3200 : Nat) : Int))]) (st' := [.ref 27]) l0_4 (fun _ => rfl) ?_
  refine c_v (pc' := 8) (w := bI ((256 : Nat) : Int)) (st' := [.ref 27]) l0_5 (fun _ => rfl) (congrArg Value.int (by decide)) ?_
  refine d_arr (pc' := 10) (m := 256) (q' := 28) (c := 1) (s := 3200) l0_8 rfl (by decide) rfl rfl ((up_ne (q := 27) (by decide)).trans ((hz 28 (by decide)).trans (b0_i (n := 256) rfl))) (by decide) (by decide) ?_
  refine c_pf (pc' := 13) (q0 := 26) (j := 0) (fs' := [.ref 28, .null]) l0_10 rfl rfl (by decide) (by decide) rfl rfl ?_
  refine c_s (pc' := 14) (lv1 := [(0, .ref 27), (1, bI ((3200 : Nat) : Int))]) (st' := [.ref 27]) l0_13 (fun _ => rfl) ?_
  refine c_s (pc' := 15) (lv1 := [(0, .ref 27), (1, bI ((3200 : Nat) : Int))]) (st' := [bI ((3200 : Nat) : Int), .ref 27]) l0_14 (fun _ => rfl) ?_
  refine c_v (pc' := 16) (w := bI ((0 : Nat) : Int)) (st' := [bI ((3200 : Nat) : Int), .ref 27]) l0_15 (fun _ => rfl) (congrArg Value.int (by decide)) ?_
  refine c_v (pc' := 19) (w := bI ((3200 : Nat) : Int)) (st' := [.ref 27]) l0_16 (fun _ => rfl) (congrArg Value.int (by decide)) ?_
  refine d_arr (pc' := 21) (m := 3200) (q' := 29) (c := 0) (s := 0) l0_19 rfl (by decide) rfl rfl ((up_ne (q := 27) (by decide)).trans ((hz 29 (by decide)).trans (b0_i (n := 3200) rfl))) (by decide) (by decide) ?_
  refine c_pf (pc' := 24) (q0 := 26) (j := 0) (fs' := [.ref 28, .ref 29]) l0_21 rfl rfl (by decide) (by decide) rfl rfl ?_
  exact bRn.ret l0_24 rfl
theorem k_13 {L : Nat} {xs : Nat → Int32} {d : Nat} {h : ax_H} (hz : ∀ z, 13 < z → h z = bH b0 z) (hq : h 13 = .inr (2, [.int 0, .int 0, .int 0, .int 0, .int 0, .int 0, .int 0, .null, .null, .null, .null, .null, .null, .null, .null, .null, .null, .null, .null])) : bRn L xs (d + 1) 22 0 [(0, .ref 13)] [] (13, h, true) (.inl none, (29, ax_up h 13 (.inr (2, [.int 0, .int 0, .int 0, .int 0, .int 0, .int 0, .int 0, .ref 14, .ref 15, .ref 16, .ref 17, .ref 18, .ref 19, .ref 20, .ref 21, .ref 22, .ref 23, .ref 24, .ref 27])), true), 16, 12929) := by
  refine c_eq (M' := (13, ax_up h 13 (.inr (2, [.int 0, .int 0, .int 0, .int 0, .int 0, .int 0, .int 0, .null, .null, .null, .null, .null, .null, .null, .null, .null, .null, .null, .null])), true)) (by rw [up_self hq]) rfl ?_
  refine c_s (pc' := 1) (lv1 := [(0, .ref 13)]) (st' := [.ref 13]) l22_0 (fun _ => rfl) ?_
  refine c_s (pc' := 4) (lv1 := [(0, .ref 13)]) (st' := []) l22_1 (fun _ => rfl) ?_
  refine c_s (pc' := 5) (lv1 := [(0, .ref 13)]) (st' := [.ref 13]) l22_4 (fun _ => rfl) ?_
  refine c_v (pc' := 8) (w := bI ((400 : Nat) : Int)) (st' := [.ref 13]) l22_5 (fun _ => rfl) (congrArg Value.int (by decide)) ?_
  refine d_arr (pc' := 10) (m := 400) (q' := 14) (c := 15) (s := 12529) l22_8 rfl (by decide) rfl rfl ((up_ne (q := 13) (by decide)).trans ((hz 14 (by decide)).trans (b0_i (n := 400) rfl))) (by decide) (by decide) ?_
  refine c_pf (pc' := 13) (q0 := 12) (j := 0) (fs' := [.int 0, .int 0, .int 0, .int 0, .int 0, .int 0, .int 0, .ref 14, .null, .null, .null, .null, .null, .null, .null, .null, .null, .null, .null]) l22_10 rfl rfl (by decide) (by decide) rfl rfl ?_
  refine c_s (pc' := 14) (lv1 := [(0, .ref 13)]) (st' := [.ref 13]) l22_13 (fun _ => rfl) ?_
  refine c_v (pc' := 16) (w := bI ((7 : Nat) : Int)) (st' := [.ref 13]) l22_14 (fun _ => rfl) (congrArg Value.int (by decide)) ?_
  refine d_arr (pc' := 18) (m := 7) (q' := 15) (c := 14) (s := 12522) l22_16 rfl (by decide) rfl rfl ((up_ne (q := 13) (by decide)).trans ((hz 15 (by decide)).trans (b0_i (n := 7) rfl))) (by decide) (by decide) ?_
  refine c_pf (pc' := 21) (q0 := 12) (j := 0) (fs' := [.int 0, .int 0, .int 0, .int 0, .int 0, .int 0, .int 0, .ref 14, .ref 15, .null, .null, .null, .null, .null, .null, .null, .null, .null, .null]) l22_18 rfl rfl (by decide) (by decide) rfl rfl ?_
  refine c_s (pc' := 22) (lv1 := [(0, .ref 13)]) (st' := [.ref 13]) l22_21 (fun _ => rfl) ?_
  refine c_v (pc' := 24) (w := bI ((6 : Nat) : Int)) (st' := [.ref 13]) l22_22 (fun _ => rfl) (congrArg Value.int (by decide)) ?_
  refine d_arr (pc' := 26) (m := 6) (q' := 16) (c := 13) (s := 12516) l22_24 rfl (by decide) rfl rfl ((up_ne (q := 13) (by decide)).trans ((hz 16 (by decide)).trans (b0_i (n := 6) rfl))) (by decide) (by decide) ?_
  refine c_pf (pc' := 29) (q0 := 12) (j := 0) (fs' := [.int 0, .int 0, .int 0, .int 0, .int 0, .int 0, .int 0, .ref 14, .ref 15, .ref 16, .null, .null, .null, .null, .null, .null, .null, .null, .null]) l22_26 rfl rfl (by decide) (by decide) rfl rfl ?_
  refine c_s (pc' := 30) (lv1 := [(0, .ref 13)]) (st' := [.ref 13]) l22_29 (fun _ => rfl) ?_
  refine c_v (pc' := 33) (w := bI ((400 : Nat) : Int)) (st' := [.ref 13]) l22_30 (fun _ => rfl) (congrArg Value.int (by decide)) ?_
  refine d_arr (pc' := 35) (m := 400) (q' := 17) (c := 12) (s := 12116) l22_33 rfl (by decide) rfl rfl ((up_ne (q := 13) (by decide)).trans ((hz 17 (by decide)).trans (b0_i (n := 400) rfl))) (by decide) (by decide) ?_
  refine c_pf (pc' := 38) (q0 := 12) (j := 0) (fs' := [.int 0, .int 0, .int 0, .int 0, .int 0, .int 0, .int 0, .ref 14, .ref 15, .ref 16, .ref 17, .null, .null, .null, .null, .null, .null, .null, .null]) l22_35 rfl rfl (by decide) (by decide) rfl rfl ?_
  refine c_s (pc' := 39) (lv1 := [(0, .ref 13)]) (st' := [.ref 13]) l22_38 (fun _ => rfl) ?_
  refine c_v (pc' := 42) (w := bI ((400 : Nat) : Int)) (st' := [.ref 13]) l22_39 (fun _ => rfl) (congrArg Value.int (by decide)) ?_
  refine d_arr (pc' := 44) (m := 400) (q' := 18) (c := 11) (s := 11716) l22_42 rfl (by decide) rfl rfl ((up_ne (q := 13) (by decide)).trans ((hz 18 (by decide)).trans (b0_i (n := 400) rfl))) (by decide) (by decide) ?_
  refine c_pf (pc' := 47) (q0 := 12) (j := 0) (fs' := [.int 0, .int 0, .int 0, .int 0, .int 0, .int 0, .int 0, .ref 14, .ref 15, .ref 16, .ref 17, .ref 18, .null, .null, .null, .null, .null, .null, .null]) l22_44 rfl rfl (by decide) (by decide) rfl rfl ?_
  refine c_s (pc' := 48) (lv1 := [(0, .ref 13)]) (st' := [.ref 13]) l22_47 (fun _ => rfl) ?_
  refine c_v (pc' := 51) (w := bI ((400 : Nat) : Int)) (st' := [.ref 13]) l22_48 (fun _ => rfl) (congrArg Value.int (by decide)) ?_
  refine d_arr (pc' := 53) (m := 400) (q' := 19) (c := 10) (s := 11316) l22_51 rfl (by decide) rfl rfl ((up_ne (q := 13) (by decide)).trans ((hz 19 (by decide)).trans (b0_i (n := 400) rfl))) (by decide) (by decide) ?_
  refine c_pf (pc' := 56) (q0 := 12) (j := 0) (fs' := [.int 0, .int 0, .int 0, .int 0, .int 0, .int 0, .int 0, .ref 14, .ref 15, .ref 16, .ref 17, .ref 18, .ref 19, .null, .null, .null, .null, .null, .null]) l22_53 rfl rfl (by decide) (by decide) rfl rfl ?_
  refine c_s (pc' := 57) (lv1 := [(0, .ref 13)]) (st' := [.ref 13]) l22_56 (fun _ => rfl) ?_
  refine c_v (pc' := 60) (w := bI ((400 : Nat) : Int)) (st' := [.ref 13]) l22_57 (fun _ => rfl) (congrArg Value.int (by decide)) ?_
  refine d_arr (pc' := 62) (m := 400) (q' := 20) (c := 9) (s := 10916) l22_60 rfl (by decide) rfl rfl ((up_ne (q := 13) (by decide)).trans ((hz 20 (by decide)).trans (b0_i (n := 400) rfl))) (by decide) (by decide) ?_
  refine c_pf (pc' := 65) (q0 := 12) (j := 0) (fs' := [.int 0, .int 0, .int 0, .int 0, .int 0, .int 0, .int 0, .ref 14, .ref 15, .ref 16, .ref 17, .ref 18, .ref 19, .ref 20, .null, .null, .null, .null, .null]) l22_62 rfl rfl (by decide) (by decide) rfl rfl ?_
  refine c_s (pc' := 66) (lv1 := [(0, .ref 13)]) (st' := [.ref 13]) l22_65 (fun _ => rfl) ?_
  refine c_v (pc' := 69) (w := bI ((400 : Nat) : Int)) (st' := [.ref 13]) l22_66 (fun _ => rfl) (congrArg Value.int (by decide)) ?_
  refine d_arr (pc' := 71) (m := 400) (q' := 21) (c := 8) (s := 10516) l22_69 rfl (by decide) rfl rfl ((up_ne (q := 13) (by decide)).trans ((hz 21 (by decide)).trans (b0_i (n := 400) rfl))) (by decide) (by decide) ?_
  refine c_pf (pc' := 74) (q0 := 12) (j := 0) (fs' := [.int 0, .int 0, .int 0, .int 0, .int 0, .int 0, .int 0, .ref 14, .ref 15, .ref 16, .ref 17, .ref 18, .ref 19, .ref 20, .ref 21, .null, .null, .null, .null]) l22_71 rfl rfl (by decide) (by decide) rfl rfl ?_
  refine c_s (pc' := 75) (lv1 := [(0, .ref 13)]) (st' := [.ref 13]) l22_74 (fun _ => rfl) ?_
  refine c_v (pc' := 78) (w := bI ((3200 : Nat) : Int)) (st' := [.ref 13]) l22_75 (fun _ => rfl) (congrArg Value.int (by decide)) ?_
  refine d_arr (pc' := 80) (m := 3200) (q' := 22) (c := 7) (s := 7316) l22_78 rfl (by decide) rfl rfl ((up_ne (q := 13) (by decide)).trans ((hz 22 (by decide)).trans (b0_i (n := 3200) rfl))) (by decide) (by decide) ?_
  refine c_pf (pc' := 83) (q0 := 12) (j := 0) (fs' := [.int 0, .int 0, .int 0, .int 0, .int 0, .int 0, .int 0, .ref 14, .ref 15, .ref 16, .ref 17, .ref 18, .ref 19, .ref 20, .ref 21, .ref 22, .null, .null, .null]) l22_80 rfl rfl (by decide) (by decide) rfl rfl ?_
  refine c_s (pc' := 84) (lv1 := [(0, .ref 13)]) (st' := [.ref 13]) l22_83 (fun _ => rfl) ?_
  refine c_v (pc' := 87) (w := bI ((3200 : Nat) : Int)) (st' := [.ref 13]) l22_84 (fun _ => rfl) (congrArg Value.int (by decide)) ?_
  refine d_arr (pc' := 89) (m := 3200) (q' := 23) (c := 6) (s := 4116) l22_87 rfl (by decide) rfl rfl ((up_ne (q := 13) (by decide)).trans ((hz 23 (by decide)).trans (b0_i (n := 3200) rfl))) (by decide) (by decide) ?_
  refine c_pf (pc' := 92) (q0 := 12) (j := 0) (fs' := [.int 0, .int 0, .int 0, .int 0, .int 0, .int 0, .int 0, .ref 14, .ref 15, .ref 16, .ref 17, .ref 18, .ref 19, .ref 20, .ref 21, .ref 22, .ref 23, .null, .null]) l22_89 rfl rfl (by decide) (by decide) rfl rfl ?_
  refine c_s (pc' := 93) (lv1 := [(0, .ref 13)]) (st' := [.ref 13]) l22_92 (fun _ => rfl) ?_
  refine d_new (pc' := 96) (c := 5) (s := 4114) l22_93 (by decide) rfl (by decide) (by decide) ?_
  refine c_s (pc' := 97) (lv1 := [(0, .ref 13)]) (st' := [.ref 24, .ref 24, .ref 13]) l22_96 (fun _ => rfl) ?_
  refine c_v (pc' := 100) (w := bI ((400 : Nat) : Int)) (st' := [.ref 24, .ref 24, .ref 13]) l22_97 (fun _ => rfl) (congrArg Value.int (by decide)) ?_
  refine d_call (pc' := 103) (n' := 26) (c1 := 2) (s1 := 656) (c := 3) (s := 3458) l22_100 rfl (fun _ => trivial) (Nat.le_of_ble_eq_true rfl) (Nat.le_of_ble_eq_true rfl) rfl (k_24 (fun y hy => (up_ne (by omega)).trans ((up_ne (by omega)).trans (hz y (by omega)))) up_at) rfl (by decide) (by decide) ?_
  refine c_eq (M' := (26, ax_up h 13 (.inr (2, [.int 0, .int 0, .int 0, .int 0, .int 0, .int 0, .int 0, .ref 14, .ref 15, .ref 16, .ref 17, .ref 18, .ref 19, .ref 20, .ref 21, .ref 22, .ref 23, .null, .null])), true)) (by rw [c_done ((up_ne (q := 13) (by decide)).trans ((hz 24 (by decide)).trans (show bH b0 24 = .inr (0, [.ref 25, .ref 26]) from rfl)))]) rfl ?_
  refine c_pf (pc' := 106) (q0 := 12) (j := 0) (fs' := [.int 0, .int 0, .int 0, .int 0, .int 0, .int 0, .int 0, .ref 14, .ref 15, .ref 16, .ref 17, .ref 18, .ref 19, .ref 20, .ref 21, .ref 22, .ref 23, .ref 24, .null]) l22_103 rfl rfl (by decide) (by decide) rfl rfl ?_
  refine c_s (pc' := 107) (lv1 := [(0, .ref 13)]) (st' := [.ref 13]) l22_106 (fun _ => rfl) ?_
  refine d_new (pc' := 110) (c := 2) (s := 3456) l22_107 (by decide) rfl (by decide) (by decide) ?_
  refine c_s (pc' := 111) (lv1 := [(0, .ref 13)]) (st' := [.ref 27, .ref 27, .ref 13]) l22_110 (fun _ => rfl) ?_
  refine c_v (pc' := 114) (w := bI ((3200 : Nat) : Int)) (st' := [.ref 27, .ref 27, .ref 13]) l22_111 (fun _ => rfl) (congrArg Value.int (by decide)) ?_
  refine d_call (pc' := 117) (n' := 29) (c1 := 2) (s1 := 3456) (c := 0) (s := 0) l22_114 rfl (fun _ => trivial) (Nat.le_of_ble_eq_true rfl) (Nat.le_of_ble_eq_true rfl) rfl (k_27 (fun y hy => (up_ne (by omega)).trans ((up_ne (by omega)).trans (hz y (by omega)))) up_at) rfl (by decide) (by decide) ?_
  refine c_eq (M' := (29, ax_up h 13 (.inr (2, [.int 0, .int 0, .int 0, .int 0, .int 0, .int 0, .int 0, .ref 14, .ref 15, .ref 16, .ref 17, .ref 18, .ref 19, .ref 20, .ref 21, .ref 22, .ref 23, .ref 24, .null])), true)) (by rw [c_done ((up_ne (q := 13) (by decide)).trans ((hz 27 (by decide)).trans (show bH b0 27 = .inr (0, [.ref 28, .ref 29]) from rfl)))]) rfl ?_
  refine c_pf (pc' := 120) (q0 := 12) (j := 0) (fs' := [.int 0, .int 0, .int 0, .int 0, .int 0, .int 0, .int 0, .ref 14, .ref 15, .ref 16, .ref 17, .ref 18, .ref 19, .ref 20, .ref 21, .ref 22, .ref 23, .ref 24, .ref 27]) l22_117 rfl rfl (by decide) (by decide) rfl rfl ?_
  exact bRn.ret l22_120 rfl
theorem k_31 {L : Nat} {xs : Nat → Int32} {d : Nat} {h : ax_H} (hz : ∀ z, 31 < z → h z = bH b0 z) (hq : h 31 = .inr (7, [.int 0, .int 0, .null, .null, .null, .null, .null, .null, .null, .null, .null, .null, .null, .null, .null, .null])) : bRn L xs (d + 0) 76 0 [(0, .ref 31)] [] (31, h, true) (.inl none, (45, ax_up h 31 (.inr (7, [.int 0, .int 0, .ref 32, .ref 33, .ref 34, .ref 35, .ref 36, .ref 37, .ref 38, .ref 39, .ref 40, .ref 41, .ref 42, .ref 43, .ref 44, .ref 45])), true), 14, 16406) := by
  refine c_eq (M' := (31, ax_up h 31 (.inr (7, [.int 0, .int 0, .null, .null, .null, .null, .null, .null, .null, .null, .null, .null, .null, .null, .null, .null])), true)) (by rw [up_self hq]) rfl ?_
  refine c_s (pc' := 1) (lv1 := [(0, .ref 31)]) (st' := [.ref 31]) l76_0 (fun _ => rfl) ?_
  refine c_s (pc' := 4) (lv1 := [(0, .ref 31)]) (st' := []) l76_1 (fun _ => rfl) ?_
  refine c_s (pc' := 5) (lv1 := [(0, .ref 31)]) (st' := [.ref 31]) l76_4 (fun _ => rfl) ?_
  refine c_v (pc' := 7) (w := bI ((6 : Nat) : Int)) (st' := [.ref 31]) l76_5 (fun _ => rfl) (congrArg Value.int (by decide)) ?_
  refine d_arr (pc' := 9) (m := 6) (q' := 32) (c := 13) (s := 16400) l76_7 rfl (by decide) rfl rfl ((up_ne (q := 31) (by decide)).trans ((hz 32 (by decide)).trans (b0_i (n := 6) rfl))) (by decide) (by decide) ?_
  refine c_pf (pc' := 12) (q0 := 30) (j := 0) (fs' := [.int 0, .int 0, .ref 32, .null, .null, .null, .null, .null, .null, .null, .null, .null, .null, .null, .null, .null]) l76_9 rfl rfl (by decide) (by decide) rfl rfl ?_
  refine c_s (pc' := 13) (lv1 := [(0, .ref 31)]) (st' := [.ref 31]) l76_12 (fun _ => rfl) ?_
  refine c_v (pc' := 16) (w := bI ((400 : Nat) : Int)) (st' := [.ref 31]) l76_13 (fun _ => rfl) (congrArg Value.int (by decide)) ?_
  refine d_arr (pc' := 18) (m := 400) (q' := 33) (c := 12) (s := 16000) l76_16 rfl (by decide) rfl rfl ((up_ne (q := 31) (by decide)).trans ((hz 33 (by decide)).trans (b0_i (n := 400) rfl))) (by decide) (by decide) ?_
  refine c_pf (pc' := 21) (q0 := 30) (j := 0) (fs' := [.int 0, .int 0, .ref 32, .ref 33, .null, .null, .null, .null, .null, .null, .null, .null, .null, .null, .null, .null]) l76_18 rfl rfl (by decide) (by decide) rfl rfl ?_
  refine c_s (pc' := 22) (lv1 := [(0, .ref 31)]) (st' := [.ref 31]) l76_21 (fun _ => rfl) ?_
  refine c_v (pc' := 25) (w := bI ((400 : Nat) : Int)) (st' := [.ref 31]) l76_22 (fun _ => rfl) (congrArg Value.int (by decide)) ?_
  refine d_arr (pc' := 27) (m := 400) (q' := 34) (c := 11) (s := 15600) l76_25 rfl (by decide) rfl rfl ((up_ne (q := 31) (by decide)).trans ((hz 34 (by decide)).trans (b0_i (n := 400) rfl))) (by decide) (by decide) ?_
  refine c_pf (pc' := 30) (q0 := 30) (j := 0) (fs' := [.int 0, .int 0, .ref 32, .ref 33, .ref 34, .null, .null, .null, .null, .null, .null, .null, .null, .null, .null, .null]) l76_27 rfl rfl (by decide) (by decide) rfl rfl ?_
  refine c_s (pc' := 31) (lv1 := [(0, .ref 31)]) (st' := [.ref 31]) l76_30 (fun _ => rfl) ?_
  refine c_v (pc' := 34) (w := bI ((400 : Nat) : Int)) (st' := [.ref 31]) l76_31 (fun _ => rfl) (congrArg Value.int (by decide)) ?_
  refine d_arr (pc' := 36) (m := 400) (q' := 35) (c := 10) (s := 15200) l76_34 rfl (by decide) rfl rfl ((up_ne (q := 31) (by decide)).trans ((hz 35 (by decide)).trans (b0_i (n := 400) rfl))) (by decide) (by decide) ?_
  refine c_pf (pc' := 39) (q0 := 30) (j := 0) (fs' := [.int 0, .int 0, .ref 32, .ref 33, .ref 34, .ref 35, .null, .null, .null, .null, .null, .null, .null, .null, .null, .null]) l76_36 rfl rfl (by decide) (by decide) rfl rfl ?_
  refine c_s (pc' := 40) (lv1 := [(0, .ref 31)]) (st' := [.ref 31]) l76_39 (fun _ => rfl) ?_
  refine c_v (pc' := 43) (w := bI ((400 : Nat) : Int)) (st' := [.ref 31]) l76_40 (fun _ => rfl) (congrArg Value.int (by decide)) ?_
  refine d_arr (pc' := 45) (m := 400) (q' := 36) (c := 9) (s := 14800) l76_43 rfl (by decide) rfl rfl ((up_ne (q := 31) (by decide)).trans ((hz 36 (by decide)).trans (b0_i (n := 400) rfl))) (by decide) (by decide) ?_
  refine c_pf (pc' := 48) (q0 := 30) (j := 0) (fs' := [.int 0, .int 0, .ref 32, .ref 33, .ref 34, .ref 35, .ref 36, .null, .null, .null, .null, .null, .null, .null, .null, .null]) l76_45 rfl rfl (by decide) (by decide) rfl rfl ?_
  refine c_s (pc' := 49) (lv1 := [(0, .ref 31)]) (st' := [.ref 31]) l76_48 (fun _ => rfl) ?_
  refine c_v (pc' := 52) (w := bI ((400 : Nat) : Int)) (st' := [.ref 31]) l76_49 (fun _ => rfl) (congrArg Value.int (by decide)) ?_
  refine d_arr (pc' := 54) (m := 400) (q' := 37) (c := 8) (s := 14400) l76_52 rfl (by decide) rfl rfl ((up_ne (q := 31) (by decide)).trans ((hz 37 (by decide)).trans (b0_i (n := 400) rfl))) (by decide) (by decide) ?_
  refine c_pf (pc' := 57) (q0 := 30) (j := 0) (fs' := [.int 0, .int 0, .ref 32, .ref 33, .ref 34, .ref 35, .ref 36, .ref 37, .null, .null, .null, .null, .null, .null, .null, .null]) l76_54 rfl rfl (by decide) (by decide) rfl rfl ?_
  refine c_s (pc' := 58) (lv1 := [(0, .ref 31)]) (st' := [.ref 31]) l76_57 (fun _ => rfl) ?_
  refine c_v (pc' := 61) (w := bI ((400 : Nat) : Int)) (st' := [.ref 31]) l76_58 (fun _ => rfl) (congrArg Value.int (by decide)) ?_
  refine d_arr (pc' := 63) (m := 400) (q' := 38) (c := 7) (s := 14000) l76_61 rfl (by decide) rfl rfl ((up_ne (q := 31) (by decide)).trans ((hz 38 (by decide)).trans (b0_i (n := 400) rfl))) (by decide) (by decide) ?_
  refine c_pf (pc' := 66) (q0 := 30) (j := 0) (fs' := [.int 0, .int 0, .ref 32, .ref 33, .ref 34, .ref 35, .ref 36, .ref 37, .ref 38, .null, .null, .null, .null, .null, .null, .null]) l76_63 rfl rfl (by decide) (by decide) rfl rfl ?_
  refine c_s (pc' := 67) (lv1 := [(0, .ref 31)]) (st' := [.ref 31]) l76_66 (fun _ => rfl) ?_
  refine c_v (pc' := 70) (w := bI ((400 : Nat) : Int)) (st' := [.ref 31]) l76_67 (fun _ => rfl) (congrArg Value.int (by decide)) ?_
  refine d_arr (pc' := 72) (m := 400) (q' := 39) (c := 6) (s := 13600) l76_70 rfl (by decide) rfl rfl ((up_ne (q := 31) (by decide)).trans ((hz 39 (by decide)).trans (b0_i (n := 400) rfl))) (by decide) (by decide) ?_
  refine c_pf (pc' := 75) (q0 := 30) (j := 0) (fs' := [.int 0, .int 0, .ref 32, .ref 33, .ref 34, .ref 35, .ref 36, .ref 37, .ref 38, .ref 39, .null, .null, .null, .null, .null, .null]) l76_72 rfl rfl (by decide) (by decide) rfl rfl ?_
  refine c_s (pc' := 76) (lv1 := [(0, .ref 31)]) (st' := [.ref 31]) l76_75 (fun _ => rfl) ?_
  refine c_v (pc' := 79) (w := bI ((400 : Nat) : Int)) (st' := [.ref 31]) l76_76 (fun _ => rfl) (congrArg Value.int (by decide)) ?_
  refine d_arr (pc' := 81) (m := 400) (q' := 40) (c := 5) (s := 13200) l76_79 rfl (by decide) rfl rfl ((up_ne (q := 31) (by decide)).trans ((hz 40 (by decide)).trans (b0_i (n := 400) rfl))) (by decide) (by decide) ?_
  refine c_pf (pc' := 84) (q0 := 30) (j := 0) (fs' := [.int 0, .int 0, .ref 32, .ref 33, .ref 34, .ref 35, .ref 36, .ref 37, .ref 38, .ref 39, .ref 40, .null, .null, .null, .null, .null]) l76_81 rfl rfl (by decide) (by decide) rfl rfl ?_
  refine c_s (pc' := 85) (lv1 := [(0, .ref 31)]) (st' := [.ref 31]) l76_84 (fun _ => rfl) ?_
  refine c_v (pc' := 88) (w := bI ((400 : Nat) : Int)) (st' := [.ref 31]) l76_85 (fun _ => rfl) (congrArg Value.int (by decide)) ?_
  refine d_arr (pc' := 90) (m := 400) (q' := 41) (c := 4) (s := 12800) l76_88 rfl (by decide) rfl rfl ((up_ne (q := 31) (by decide)).trans ((hz 41 (by decide)).trans (b0_i (n := 400) rfl))) (by decide) (by decide) ?_
  refine c_pf (pc' := 93) (q0 := 30) (j := 0) (fs' := [.int 0, .int 0, .ref 32, .ref 33, .ref 34, .ref 35, .ref 36, .ref 37, .ref 38, .ref 39, .ref 40, .ref 41, .null, .null, .null, .null]) l76_90 rfl rfl (by decide) (by decide) rfl rfl ?_
  refine c_s (pc' := 94) (lv1 := [(0, .ref 31)]) (st' := [.ref 31]) l76_93 (fun _ => rfl) ?_
  refine c_v (pc' := 97) (w := bI ((3200 : Nat) : Int)) (st' := [.ref 31]) l76_94 (fun _ => rfl) (congrArg Value.int (by decide)) ?_
  refine d_arr (pc' := 99) (m := 3200) (q' := 42) (c := 3) (s := 9600) l76_97 rfl (by decide) rfl rfl ((up_ne (q := 31) (by decide)).trans ((hz 42 (by decide)).trans (b0_i (n := 3200) rfl))) (by decide) (by decide) ?_
  refine c_pf (pc' := 102) (q0 := 30) (j := 0) (fs' := [.int 0, .int 0, .ref 32, .ref 33, .ref 34, .ref 35, .ref 36, .ref 37, .ref 38, .ref 39, .ref 40, .ref 41, .ref 42, .null, .null, .null]) l76_99 rfl rfl (by decide) (by decide) rfl rfl ?_
  refine c_s (pc' := 103) (lv1 := [(0, .ref 31)]) (st' := [.ref 31]) l76_102 (fun _ => rfl) ?_
  refine c_v (pc' := 106) (w := bI ((3200 : Nat) : Int)) (st' := [.ref 31]) l76_103 (fun _ => rfl) (congrArg Value.int (by decide)) ?_
  refine d_arr (pc' := 108) (m := 3200) (q' := 43) (c := 2) (s := 6400) l76_106 rfl (by decide) rfl rfl ((up_ne (q := 31) (by decide)).trans ((hz 43 (by decide)).trans (b0_i (n := 3200) rfl))) (by decide) (by decide) ?_
  refine c_pf (pc' := 111) (q0 := 30) (j := 0) (fs' := [.int 0, .int 0, .ref 32, .ref 33, .ref 34, .ref 35, .ref 36, .ref 37, .ref 38, .ref 39, .ref 40, .ref 41, .ref 42, .ref 43, .null, .null]) l76_108 rfl rfl (by decide) (by decide) rfl rfl ?_
  refine c_s (pc' := 112) (lv1 := [(0, .ref 31)]) (st' := [.ref 31]) l76_111 (fun _ => rfl) ?_
  refine c_v (pc' := 115) (w := bI ((3200 : Nat) : Int)) (st' := [.ref 31]) l76_112 (fun _ => rfl) (congrArg Value.int (by decide)) ?_
  refine d_arr (pc' := 117) (m := 3200) (q' := 44) (c := 1) (s := 3200) l76_115 rfl (by decide) rfl rfl ((up_ne (q := 31) (by decide)).trans ((hz 44 (by decide)).trans (b0_l (n := 3200) rfl))) (by decide) (by decide) ?_
  refine c_pf (pc' := 120) (q0 := 30) (j := 0) (fs' := [.int 0, .int 0, .ref 32, .ref 33, .ref 34, .ref 35, .ref 36, .ref 37, .ref 38, .ref 39, .ref 40, .ref 41, .ref 42, .ref 43, .ref 44, .null]) l76_117 rfl rfl (by decide) (by decide) rfl rfl ?_
  refine c_s (pc' := 121) (lv1 := [(0, .ref 31)]) (st' := [.ref 31]) l76_120 (fun _ => rfl) ?_
  refine c_v (pc' := 124) (w := bI ((3200 : Nat) : Int)) (st' := [.ref 31]) l76_121 (fun _ => rfl) (congrArg Value.int (by decide)) ?_
  refine d_arr (pc' := 126) (m := 3200) (q' := 45) (c := 0) (s := 0) l76_124 rfl (by decide) rfl rfl ((up_ne (q := 31) (by decide)).trans ((hz 45 (by decide)).trans (b0_i (n := 3200) rfl))) (by decide) (by decide) ?_
  refine c_pf (pc' := 129) (q0 := 30) (j := 0) (fs' := [.int 0, .int 0, .ref 32, .ref 33, .ref 34, .ref 35, .ref 36, .ref 37, .ref 38, .ref 39, .ref 40, .ref 41, .ref 42, .ref 43, .ref 44, .ref 45]) l76_126 rfl rfl (by decide) (by decide) rfl rfl ?_
  exact bRn.ret l76_129 rfl
theorem k_47 {L : Nat} {xs : Nat → Int32} {d : Nat} {h : ax_H} (hz : ∀ z, 47 < z → h z = bH b0 z) (hq : h 47 = .inr (5, [.null, .int 0])) : bRn L xs (d + 0) 51 0 [(0, .ref 47), (1, bI ((0 : Nat) : Int))] [] (47, h, true) (.inl none, (48, ax_up h 47 (.inr (5, [.ref 48, .int 0])), true), 1, 0) := by
  refine c_eq (M' := (47, ax_up h 47 (.inr (5, [.null, .int 0])), true)) (by rw [up_self hq]) rfl ?_
  refine c_s (pc' := 1) (lv1 := [(0, .ref 47), (1, bI ((0 : Nat) : Int))]) (st' := [.ref 47]) l51_0 (fun _ => rfl) ?_
  refine c_s (pc' := 4) (lv1 := [(0, .ref 47), (1, bI ((0 : Nat) : Int))]) (st' := []) l51_1 (fun _ => rfl) ?_
  refine c_s (pc' := 5) (lv1 := [(0, .ref 47), (1, bI ((0 : Nat) : Int))]) (st' := [.ref 47]) l51_4 (fun _ => rfl) ?_
  refine c_s (pc' := 6) (lv1 := [(0, .ref 47), (1, bI ((0 : Nat) : Int))]) (st' := [bI ((0 : Nat) : Int), .ref 47]) l51_5 (fun _ => rfl) ?_
  refine c_v (pc' := 7) (w := bI ((0 : Nat) : Int)) (st' := [bI ((0 : Nat) : Int), .ref 47]) l51_6 (fun _ => rfl) (congrArg Value.int (by decide)) ?_
  refine c_v (pc' := 10) (w := bI ((0 : Nat) : Int)) (st' := [.ref 47]) l51_7 (fun _ => rfl) (congrArg Value.int (by decide)) ?_
  refine d_arr (pc' := 12) (m := 0) (q' := 48) (c := 0) (s := 0) l51_10 rfl (by decide) rfl rfl ((up_ne (q := 47) (by decide)).trans ((hz 48 (by decide)).trans (b0_b (n := 0) rfl))) (by decide) (by decide) ?_
  refine c_pf (pc' := 15) (q0 := 46) (j := 0) (fs' := [.ref 48, .int 0]) l51_12 rfl rfl (by decide) (by decide) rfl rfl ?_
  exact bRn.ret l51_15 rfl
theorem k_46 {L : Nat} {xs : Nat → Int32} {d : Nat} {h : ax_H} (hz : ∀ z, 46 < z → h z = bH b0 z) (hq : h 46 = .inr (1, [.int 0, .int 0, .int 0, .int 0, .int 0, .int 0, .null])) : bRn L xs (d + 1) 6 0 [(0, .ref 46)] [] (46, h, true) (.inl none, (48, ax_up h 46 (.inr (1, [.int 0, .int 0, .int 0, .int 0, .int 0, .int 0, .ref 47])), true), 2, 2) := by
  refine c_eq (M' := (46, ax_up h 46 (.inr (1, [.int 0, .int 0, .int 0, .int 0, .int 0, .int 0, .null])), true)) (by rw [up_self hq]) rfl ?_
  refine c_s (pc' := 1) (lv1 := [(0, .ref 46)]) (st' := [.ref 46]) l6_0 (fun _ => rfl) ?_
  refine c_s (pc' := 4) (lv1 := [(0, .ref 46)]) (st' := []) l6_1 (fun _ => rfl) ?_
  refine c_s (pc' := 5) (lv1 := [(0, .ref 46)]) (st' := [.ref 46]) l6_4 (fun _ => rfl) ?_
  refine d_new (pc' := 8) (c := 1) (s := 0) l6_5 (by decide) rfl (by decide) (by decide) ?_
  refine c_s (pc' := 9) (lv1 := [(0, .ref 46)]) (st' := [.ref 47, .ref 47, .ref 46]) l6_8 (fun _ => rfl) ?_
  refine c_v (pc' := 10) (w := bI ((0 : Nat) : Int)) (st' := [.ref 47, .ref 47, .ref 46]) l6_9 (fun _ => rfl) (congrArg Value.int (by decide)) ?_
  refine d_call (pc' := 13) (n' := 48) (c1 := 1) (s1 := 0) (c := 0) (s := 0) l6_10 rfl (fun _ => trivial) (Nat.le_of_ble_eq_true rfl) (Nat.le_of_ble_eq_true rfl) rfl (k_47 (fun y hy => (up_ne (by omega)).trans ((up_ne (by omega)).trans (hz y (by omega)))) up_at) rfl (by decide) (by decide) ?_
  refine c_eq (M' := (48, ax_up h 46 (.inr (1, [.int 0, .int 0, .int 0, .int 0, .int 0, .int 0, .null])), true)) (by rw [c_done ((up_ne (q := 46) (by decide)).trans ((hz 47 (by decide)).trans (show bH b0 47 = .inr (5, [.ref 48, .int 0]) from rfl)))]) rfl ?_
  refine c_pf (pc' := 16) (q0 := 45) (j := 0) (fs' := [.int 0, .int 0, .int 0, .int 0, .int 0, .int 0, .ref 47]) l6_13 rfl rfl (by decide) (by decide) rfl rfl ?_
  exact bRn.ret l6_16 rfl
theorem k_56 {L : Nat} {xs : Nat → Int32} {d : Nat} {h : ax_H} (hz : ∀ z, 56 < z → h z = bH b0 z) (hq : h 56 = .inr (0, [.null, .null])) : bRn L xs (d + 0) 0 0 [(0, .ref 56), (1, bI ((200 : Nat) : Int))] [] (56, h, true) (.inl none, (58, ax_up h 56 (.inr (0, [.ref 57, .ref 58])), true), 2, 456) := by
  refine c_eq (M' := (56, ax_up h 56 (.inr (0, [.null, .null])), true)) (by rw [up_self hq]) rfl ?_
  refine c_s (pc' := 1) (lv1 := [(0, .ref 56), (1, bI ((200 : Nat) : Int))]) (st' := [.ref 56]) l0_0 (fun _ => rfl) ?_
  refine c_s (pc' := 4) (lv1 := [(0, .ref 56), (1, bI ((200 : Nat) : Int))]) (st' := []) l0_1 (fun _ => rfl) ?_
  refine c_s (pc' := 5) (lv1 := [(0, .ref 56), (1, bI ((200 : Nat) : Int))]) (st' := [.ref 56]) l0_4 (fun _ => rfl) ?_
  refine c_v (pc' := 8) (w := bI ((256 : Nat) : Int)) (st' := [.ref 56]) l0_5 (fun _ => rfl) (congrArg Value.int (by decide)) ?_
  refine d_arr (pc' := 10) (m := 256) (q' := 57) (c := 1) (s := 200) l0_8 rfl (by decide) rfl rfl ((up_ne (q := 56) (by decide)).trans ((hz 57 (by decide)).trans (b0_i (n := 256) rfl))) (by decide) (by decide) ?_
  refine c_pf (pc' := 13) (q0 := 55) (j := 0) (fs' := [.ref 57, .null]) l0_10 rfl rfl (by decide) (by decide) rfl rfl ?_
  refine c_s (pc' := 14) (lv1 := [(0, .ref 56), (1, bI ((200 : Nat) : Int))]) (st' := [.ref 56]) l0_13 (fun _ => rfl) ?_
  refine c_s (pc' := 15) (lv1 := [(0, .ref 56), (1, bI ((200 : Nat) : Int))]) (st' := [bI ((200 : Nat) : Int), .ref 56]) l0_14 (fun _ => rfl) ?_
  refine c_v (pc' := 16) (w := bI ((0 : Nat) : Int)) (st' := [bI ((200 : Nat) : Int), .ref 56]) l0_15 (fun _ => rfl) (congrArg Value.int (by decide)) ?_
  refine c_v (pc' := 19) (w := bI ((200 : Nat) : Int)) (st' := [.ref 56]) l0_16 (fun _ => rfl) (congrArg Value.int (by decide)) ?_
  refine d_arr (pc' := 21) (m := 200) (q' := 58) (c := 0) (s := 0) l0_19 rfl (by decide) rfl rfl ((up_ne (q := 56) (by decide)).trans ((hz 58 (by decide)).trans (b0_i (n := 200) rfl))) (by decide) (by decide) ?_
  refine c_pf (pc' := 24) (q0 := 55) (j := 0) (fs' := [.ref 57, .ref 58]) l0_21 rfl rfl (by decide) (by decide) rfl rfl ?_
  exact bRn.ret l0_24 rfl
theorem k_49 {L : Nat} {xs : Nat → Int32} {d : Nat} {h : ax_H} (hz : ∀ z, 49 < z → h z = bH b0 z) (hq : h 49 = .inr (6, [.null, .null, .null, .null, .null, .int 0, .null, .null])) : bRn L xs (d + 1) 70 0 [(0, .ref 49)] [] (49, h, true) (.inl none, (58, ax_up h 49 (.inr (6, [.ref 50, .ref 51, .ref 52, .ref 53, .ref 54, .int 0, .ref 55, .ref 56])), true), 9, 4458) := by
  refine c_eq (M' := (49, ax_up h 49 (.inr (6, [.null, .null, .null, .null, .null, .int 0, .null, .null])), true)) (by rw [up_self hq]) rfl ?_
  refine c_s (pc' := 1) (lv1 := [(0, .ref 49)]) (st' := [.ref 49]) l70_0 (fun _ => rfl) ?_
  refine c_s (pc' := 4) (lv1 := [(0, .ref 49)]) (st' := []) l70_1 (fun _ => rfl) ?_
  refine c_s (pc' := 5) (lv1 := [(0, .ref 49)]) (st' := [.ref 49]) l70_4 (fun _ => rfl) ?_
  refine c_v (pc' := 8) (w := bI ((200 : Nat) : Int)) (st' := [.ref 49]) l70_5 (fun _ => rfl) (congrArg Value.int (by decide)) ?_
  refine d_arr (pc' := 10) (m := 200) (q' := 50) (c := 8) (s := 4258) l70_8 rfl (by decide) rfl rfl ((up_ne (q := 49) (by decide)).trans ((hz 50 (by decide)).trans (b0_i (n := 200) rfl))) (by decide) (by decide) ?_
  refine c_pf (pc' := 13) (q0 := 48) (j := 0) (fs' := [.ref 50, .null, .null, .null, .null, .int 0, .null, .null]) l70_10 rfl rfl (by decide) (by decide) rfl rfl ?_
  refine c_s (pc' := 14) (lv1 := [(0, .ref 49)]) (st' := [.ref 49]) l70_13 (fun _ => rfl) ?_
  refine c_v (pc' := 17) (w := bI ((200 : Nat) : Int)) (st' := [.ref 49]) l70_14 (fun _ => rfl) (congrArg Value.int (by decide)) ?_
  refine d_arr (pc' := 19) (m := 200) (q' := 51) (c := 7) (s := 4058) l70_17 rfl (by decide) rfl rfl ((up_ne (q := 49) (by decide)).trans ((hz 51 (by decide)).trans (b0_z (n := 200) rfl))) (by decide) (by decide) ?_
  refine c_pf (pc' := 22) (q0 := 48) (j := 0) (fs' := [.ref 50, .ref 51, .null, .null, .null, .int 0, .null, .null]) l70_19 rfl rfl (by decide) (by decide) rfl rfl ?_
  refine c_s (pc' := 23) (lv1 := [(0, .ref 49)]) (st' := [.ref 49]) l70_22 (fun _ => rfl) ?_
  refine c_v (pc' := 26) (w := bI ((200 : Nat) : Int)) (st' := [.ref 49]) l70_23 (fun _ => rfl) (congrArg Value.int (by decide)) ?_
  refine d_arr (pc' := 28) (m := 200) (q' := 52) (c := 6) (s := 3858) l70_26 rfl (by decide) rfl rfl ((up_ne (q := 49) (by decide)).trans ((hz 52 (by decide)).trans (b0_i (n := 200) rfl))) (by decide) (by decide) ?_
  refine c_pf (pc' := 31) (q0 := 48) (j := 0) (fs' := [.ref 50, .ref 51, .ref 52, .null, .null, .int 0, .null, .null]) l70_28 rfl rfl (by decide) (by decide) rfl rfl ?_
  refine c_s (pc' := 32) (lv1 := [(0, .ref 49)]) (st' := [.ref 49]) l70_31 (fun _ => rfl) ?_
  refine c_v (pc' := 35) (w := bI ((1600 : Nat) : Int)) (st' := [.ref 49]) l70_32 (fun _ => rfl) (congrArg Value.int (by decide)) ?_
  refine d_arr (pc' := 37) (m := 1600) (q' := 53) (c := 5) (s := 2258) l70_35 rfl (by decide) rfl rfl ((up_ne (q := 49) (by decide)).trans ((hz 53 (by decide)).trans (b0_i (n := 1600) rfl))) (by decide) (by decide) ?_
  refine c_pf (pc' := 40) (q0 := 48) (j := 0) (fs' := [.ref 50, .ref 51, .ref 52, .ref 53, .null, .int 0, .null, .null]) l70_37 rfl rfl (by decide) (by decide) rfl rfl ?_
  refine c_s (pc' := 41) (lv1 := [(0, .ref 49)]) (st' := [.ref 49]) l70_40 (fun _ => rfl) ?_
  refine c_v (pc' := 44) (w := bI ((1600 : Nat) : Int)) (st' := [.ref 49]) l70_41 (fun _ => rfl) (congrArg Value.int (by decide)) ?_
  refine d_arr (pc' := 46) (m := 1600) (q' := 54) (c := 4) (s := 658) l70_44 rfl (by decide) rfl rfl ((up_ne (q := 49) (by decide)).trans ((hz 54 (by decide)).trans (b0_i (n := 1600) rfl))) (by decide) (by decide) ?_
  refine c_pf (pc' := 49) (q0 := 48) (j := 0) (fs' := [.ref 50, .ref 51, .ref 52, .ref 53, .ref 54, .int 0, .null, .null]) l70_46 rfl rfl (by decide) (by decide) rfl rfl ?_
  refine c_s (pc' := 50) (lv1 := [(0, .ref 49)]) (st' := [.ref 49]) l70_49 (fun _ => rfl) ?_
  refine c_v (pc' := 53) (w := bI ((200 : Nat) : Int)) (st' := [.ref 49]) l70_50 (fun _ => rfl) (congrArg Value.int (by decide)) ?_
  refine d_arr (pc' := 55) (m := 200) (q' := 55) (c := 3) (s := 458) l70_53 rfl (by decide) rfl rfl ((up_ne (q := 49) (by decide)).trans ((hz 55 (by decide)).trans (b0_i (n := 200) rfl))) (by decide) (by decide) ?_
  refine c_pf (pc' := 58) (q0 := 48) (j := 0) (fs' := [.ref 50, .ref 51, .ref 52, .ref 53, .ref 54, .int 0, .ref 55, .null]) l70_55 rfl rfl (by decide) (by decide) rfl rfl ?_
  refine c_s (pc' := 59) (lv1 := [(0, .ref 49)]) (st' := [.ref 49]) l70_58 (fun _ => rfl) ?_
  refine d_new (pc' := 62) (c := 2) (s := 456) l70_59 (by decide) rfl (by decide) (by decide) ?_
  refine c_s (pc' := 63) (lv1 := [(0, .ref 49)]) (st' := [.ref 56, .ref 56, .ref 49]) l70_62 (fun _ => rfl) ?_
  refine c_v (pc' := 66) (w := bI ((200 : Nat) : Int)) (st' := [.ref 56, .ref 56, .ref 49]) l70_63 (fun _ => rfl) (congrArg Value.int (by decide)) ?_
  refine d_call (pc' := 69) (n' := 58) (c1 := 2) (s1 := 456) (c := 0) (s := 0) l70_66 rfl (fun _ => trivial) (Nat.le_of_ble_eq_true rfl) (Nat.le_of_ble_eq_true rfl) rfl (k_56 (fun y hy => (up_ne (by omega)).trans ((up_ne (by omega)).trans (hz y (by omega)))) up_at) rfl (by decide) (by decide) ?_
  refine c_eq (M' := (58, ax_up h 49 (.inr (6, [.ref 50, .ref 51, .ref 52, .ref 53, .ref 54, .int 0, .ref 55, .null])), true)) (by rw [c_done ((up_ne (q := 49) (by decide)).trans ((hz 56 (by decide)).trans (show bH b0 56 = .inr (0, [.ref 57, .ref 58]) from rfl)))]) rfl ?_
  refine c_pf (pc' := 72) (q0 := 48) (j := 0) (fs' := [.ref 50, .ref 51, .ref 52, .ref 53, .ref 54, .int 0, .ref 55, .ref 56]) l70_69 rfl rfl (by decide) (by decide) rfl rfl ?_
  exact bRn.ret l70_72 rfl
theorem k_30 {L : Nat} {xs : Nat → Int32} {d : Nat} {h : ax_H} (hz : ∀ z, 30 < z → h z = bH b0 z) (hq : h 30 = .inr (3, [.null, .null, .null, .int 0, .int 0, .null, .null])) : bRn L xs (d + 2) 39 0 [(0, .ref 30)] [] (30, h, true) (.inl none, (60, ax_up h 30 (.inr (3, [.ref 31, .ref 46, .ref 49, .int 0, .int 0, .ref 59, .ref 60])), true), 30, 24497) := by
  refine c_eq (M' := (30, ax_up h 30 (.inr (3, [.null, .null, .null, .int 0, .int 0, .null, .null])), true)) (by rw [up_self hq]) rfl ?_
  refine c_s (pc' := 1) (lv1 := [(0, .ref 30)]) (st' := [.ref 30]) l39_0 (fun _ => rfl) ?_
  refine c_s (pc' := 4) (lv1 := [(0, .ref 30)]) (st' := []) l39_1 (fun _ => rfl) ?_
  refine c_s (pc' := 5) (lv1 := [(0, .ref 30)]) (st' := [.ref 30]) l39_4 (fun _ => rfl) ?_
  refine d_new (pc' := 8) (c := 29) (s := 24481) l39_5 (by decide) rfl (by decide) (by decide) ?_
  refine c_s (pc' := 9) (lv1 := [(0, .ref 30)]) (st' := [.ref 31, .ref 31, .ref 30]) l39_8 (fun _ => rfl) ?_
  refine d_call (pc' := 12) (n' := 45) (c1 := 14) (s1 := 16406) (c := 15) (s := 8075) l39_9 rfl (fun _ => trivial) (Nat.le_of_ble_eq_true rfl) (Nat.le_of_ble_eq_true rfl) rfl (k_31 (fun y hy => (up_ne (by omega)).trans ((up_ne (by omega)).trans (hz y (by omega)))) up_at) rfl (by decide) (by decide) ?_
  refine c_eq (M' := (45, ax_up h 30 (.inr (3, [.null, .null, .null, .int 0, .int 0, .null, .null])), true)) (by rw [c_done ((up_ne (q := 30) (by decide)).trans ((hz 31 (by decide)).trans (show bH b0 31 = .inr (7, [.int 0, .int 0, .ref 32, .ref 33, .ref 34, .ref 35, .ref 36, .ref 37, .ref 38, .ref 39, .ref 40, .ref 41, .ref 42, .ref 43, .ref 44, .ref 45]) from rfl)))]) rfl ?_
  refine c_pf (pc' := 15) (q0 := 29) (j := 0) (fs' := [.ref 31, .null, .null, .int 0, .int 0, .null, .null]) l39_12 rfl rfl (by decide) (by decide) rfl rfl ?_
  refine c_s (pc' := 16) (lv1 := [(0, .ref 30)]) (st' := [.ref 30]) l39_15 (fun _ => rfl) ?_
  refine d_new (pc' := 19) (c := 14) (s := 8068) l39_16 (by decide) rfl (by decide) (by decide) ?_
  refine c_s (pc' := 20) (lv1 := [(0, .ref 30)]) (st' := [.ref 46, .ref 46, .ref 30]) l39_19 (fun _ => rfl) ?_
  refine d_call (pc' := 23) (n' := 48) (c1 := 2) (s1 := 2) (c := 12) (s := 8066) l39_20 rfl (fun _ => trivial) (Nat.le_of_ble_eq_true rfl) (Nat.le_of_ble_eq_true rfl) rfl (k_46 (fun y hy => (up_ne (by omega)).trans ((up_ne (by omega)).trans (hz y (by omega)))) up_at) rfl (by decide) (by decide) ?_
  refine c_eq (M' := (48, ax_up h 30 (.inr (3, [.ref 31, .null, .null, .int 0, .int 0, .null, .null])), true)) (by rw [c_done ((up_ne (q := 30) (by decide)).trans ((hz 46 (by decide)).trans (show bH b0 46 = .inr (1, [.int 0, .int 0, .int 0, .int 0, .int 0, .int 0, .ref 47]) from rfl)))]) rfl ?_
  refine c_pf (pc' := 26) (q0 := 29) (j := 0) (fs' := [.ref 31, .ref 46, .null, .int 0, .int 0, .null, .null]) l39_23 rfl rfl (by decide) (by decide) rfl rfl ?_
  refine c_s (pc' := 27) (lv1 := [(0, .ref 30)]) (st' := [.ref 30]) l39_26 (fun _ => rfl) ?_
  refine d_new (pc' := 30) (c := 11) (s := 8058) l39_27 (by decide) rfl (by decide) (by decide) ?_
  refine c_s (pc' := 31) (lv1 := [(0, .ref 30)]) (st' := [.ref 49, .ref 49, .ref 30]) l39_30 (fun _ => rfl) ?_
  refine d_call (pc' := 34) (n' := 58) (c1 := 9) (s1 := 4458) (c := 2) (s := 3600) l39_31 rfl (fun _ => trivial) (Nat.le_of_ble_eq_true rfl) (Nat.le_of_ble_eq_true rfl) rfl (k_49 (fun y hy => (up_ne (by omega)).trans ((up_ne (by omega)).trans (hz y (by omega)))) up_at) rfl (by decide) (by decide) ?_
  refine c_eq (M' := (58, ax_up h 30 (.inr (3, [.ref 31, .ref 46, .null, .int 0, .int 0, .null, .null])), true)) (by rw [c_done ((up_ne (q := 30) (by decide)).trans ((hz 49 (by decide)).trans (show bH b0 49 = .inr (6, [.ref 50, .ref 51, .ref 52, .ref 53, .ref 54, .int 0, .ref 55, .ref 56]) from rfl)))]) rfl ?_
  refine c_pf (pc' := 37) (q0 := 29) (j := 0) (fs' := [.ref 31, .ref 46, .ref 49, .int 0, .int 0, .null, .null]) l39_34 rfl rfl (by decide) (by decide) rfl rfl ?_
  refine c_s (pc' := 38) (lv1 := [(0, .ref 30)]) (st' := [.ref 30]) l39_37 (fun _ => rfl) ?_
  refine c_v (pc' := 41) (w := bI ((400 : Nat) : Int)) (st' := [.ref 30]) l39_38 (fun _ => rfl) (congrArg Value.int (by decide)) ?_
  refine d_arr (pc' := 43) (m := 400) (q' := 59) (c := 1) (s := 3200) l39_41 rfl (by decide) rfl rfl ((up_ne (q := 30) (by decide)).trans ((hz 59 (by decide)).trans (b0_i (n := 400) rfl))) (by decide) (by decide) ?_
  refine c_pf (pc' := 46) (q0 := 29) (j := 0) (fs' := [.ref 31, .ref 46, .ref 49, .int 0, .int 0, .ref 59, .null]) l39_43 rfl rfl (by decide) (by decide) rfl rfl ?_
  refine c_s (pc' := 47) (lv1 := [(0, .ref 30)]) (st' := [.ref 30]) l39_46 (fun _ => rfl) ?_
  refine c_v (pc' := 50) (w := bI ((3200 : Nat) : Int)) (st' := [.ref 30]) l39_47 (fun _ => rfl) (congrArg Value.int (by decide)) ?_
  refine d_arr (pc' := 52) (m := 3200) (q' := 60) (c := 0) (s := 0) l39_50 rfl (by decide) rfl rfl ((up_ne (q := 30) (by decide)).trans ((hz 60 (by decide)).trans (b0_i (n := 3200) rfl))) (by decide) (by decide) ?_
  refine c_pf (pc' := 55) (q0 := 29) (j := 0) (fs' := [.ref 31, .ref 46, .ref 49, .int 0, .int 0, .ref 59, .ref 60]) l39_52 rfl rfl (by decide) (by decide) rfl rfl ?_
  exact bRn.ret l39_55 rfl
theorem k_61 {L : Nat} {xs : Nat → Int32} {d : Nat} {h : ax_H} (hz : ∀ z, 61 < z → h z = bH b0 z) (hq : h 61 = .inr (7, [.int 0, .int 0, .null, .null, .null, .null, .null, .null, .null, .null, .null, .null, .null, .null, .null, .null])) : bRn L xs (d + 0) 76 0 [(0, .ref 61)] [] (61, h, true) (.inl none, (75, ax_up h 61 (.inr (7, [.int 0, .int 0, .ref 62, .ref 63, .ref 64, .ref 65, .ref 66, .ref 67, .ref 68, .ref 69, .ref 70, .ref 71, .ref 72, .ref 73, .ref 74, .ref 75])), true), 14, 16406) := by
  refine c_eq (M' := (61, ax_up h 61 (.inr (7, [.int 0, .int 0, .null, .null, .null, .null, .null, .null, .null, .null, .null, .null, .null, .null, .null, .null])), true)) (by rw [up_self hq]) rfl ?_
  refine c_s (pc' := 1) (lv1 := [(0, .ref 61)]) (st' := [.ref 61]) l76_0 (fun _ => rfl) ?_
  refine c_s (pc' := 4) (lv1 := [(0, .ref 61)]) (st' := []) l76_1 (fun _ => rfl) ?_
  refine c_s (pc' := 5) (lv1 := [(0, .ref 61)]) (st' := [.ref 61]) l76_4 (fun _ => rfl) ?_
  refine c_v (pc' := 7) (w := bI ((6 : Nat) : Int)) (st' := [.ref 61]) l76_5 (fun _ => rfl) (congrArg Value.int (by decide)) ?_
  refine d_arr (pc' := 9) (m := 6) (q' := 62) (c := 13) (s := 16400) l76_7 rfl (by decide) rfl rfl ((up_ne (q := 61) (by decide)).trans ((hz 62 (by decide)).trans (b0_i (n := 6) rfl))) (by decide) (by decide) ?_
  refine c_pf (pc' := 12) (q0 := 60) (j := 0) (fs' := [.int 0, .int 0, .ref 62, .null, .null, .null, .null, .null, .null, .null, .null, .null, .null, .null, .null, .null]) l76_9 rfl rfl (by decide) (by decide) rfl rfl ?_
  refine c_s (pc' := 13) (lv1 := [(0, .ref 61)]) (st' := [.ref 61]) l76_12 (fun _ => rfl) ?_
  refine c_v (pc' := 16) (w := bI ((400 : Nat) : Int)) (st' := [.ref 61]) l76_13 (fun _ => rfl) (congrArg Value.int (by decide)) ?_
  refine d_arr (pc' := 18) (m := 400) (q' := 63) (c := 12) (s := 16000) l76_16 rfl (by decide) rfl rfl ((up_ne (q := 61) (by decide)).trans ((hz 63 (by decide)).trans (b0_i (n := 400) rfl))) (by decide) (by decide) ?_
  refine c_pf (pc' := 21) (q0 := 60) (j := 0) (fs' := [.int 0, .int 0, .ref 62, .ref 63, .null, .null, .null, .null, .null, .null, .null, .null, .null, .null, .null, .null]) l76_18 rfl rfl (by decide) (by decide) rfl rfl ?_
  refine c_s (pc' := 22) (lv1 := [(0, .ref 61)]) (st' := [.ref 61]) l76_21 (fun _ => rfl) ?_
  refine c_v (pc' := 25) (w := bI ((400 : Nat) : Int)) (st' := [.ref 61]) l76_22 (fun _ => rfl) (congrArg Value.int (by decide)) ?_
  refine d_arr (pc' := 27) (m := 400) (q' := 64) (c := 11) (s := 15600) l76_25 rfl (by decide) rfl rfl ((up_ne (q := 61) (by decide)).trans ((hz 64 (by decide)).trans (b0_i (n := 400) rfl))) (by decide) (by decide) ?_
  refine c_pf (pc' := 30) (q0 := 60) (j := 0) (fs' := [.int 0, .int 0, .ref 62, .ref 63, .ref 64, .null, .null, .null, .null, .null, .null, .null, .null, .null, .null, .null]) l76_27 rfl rfl (by decide) (by decide) rfl rfl ?_
  refine c_s (pc' := 31) (lv1 := [(0, .ref 61)]) (st' := [.ref 61]) l76_30 (fun _ => rfl) ?_
  refine c_v (pc' := 34) (w := bI ((400 : Nat) : Int)) (st' := [.ref 61]) l76_31 (fun _ => rfl) (congrArg Value.int (by decide)) ?_
  refine d_arr (pc' := 36) (m := 400) (q' := 65) (c := 10) (s := 15200) l76_34 rfl (by decide) rfl rfl ((up_ne (q := 61) (by decide)).trans ((hz 65 (by decide)).trans (b0_i (n := 400) rfl))) (by decide) (by decide) ?_
  refine c_pf (pc' := 39) (q0 := 60) (j := 0) (fs' := [.int 0, .int 0, .ref 62, .ref 63, .ref 64, .ref 65, .null, .null, .null, .null, .null, .null, .null, .null, .null, .null]) l76_36 rfl rfl (by decide) (by decide) rfl rfl ?_
  refine c_s (pc' := 40) (lv1 := [(0, .ref 61)]) (st' := [.ref 61]) l76_39 (fun _ => rfl) ?_
  refine c_v (pc' := 43) (w := bI ((400 : Nat) : Int)) (st' := [.ref 61]) l76_40 (fun _ => rfl) (congrArg Value.int (by decide)) ?_
  refine d_arr (pc' := 45) (m := 400) (q' := 66) (c := 9) (s := 14800) l76_43 rfl (by decide) rfl rfl ((up_ne (q := 61) (by decide)).trans ((hz 66 (by decide)).trans (b0_i (n := 400) rfl))) (by decide) (by decide) ?_
  refine c_pf (pc' := 48) (q0 := 60) (j := 0) (fs' := [.int 0, .int 0, .ref 62, .ref 63, .ref 64, .ref 65, .ref 66, .null, .null, .null, .null, .null, .null, .null, .null, .null]) l76_45 rfl rfl (by decide) (by decide) rfl rfl ?_
  refine c_s (pc' := 49) (lv1 := [(0, .ref 61)]) (st' := [.ref 61]) l76_48 (fun _ => rfl) ?_
  refine c_v (pc' := 52) (w := bI ((400 : Nat) : Int)) (st' := [.ref 61]) l76_49 (fun _ => rfl) (congrArg Value.int (by decide)) ?_
  refine d_arr (pc' := 54) (m := 400) (q' := 67) (c := 8) (s := 14400) l76_52 rfl (by decide) rfl rfl ((up_ne (q := 61) (by decide)).trans ((hz 67 (by decide)).trans (b0_i (n := 400) rfl))) (by decide) (by decide) ?_
  refine c_pf (pc' := 57) (q0 := 60) (j := 0) (fs' := [.int 0, .int 0, .ref 62, .ref 63, .ref 64, .ref 65, .ref 66, .ref 67, .null, .null, .null, .null, .null, .null, .null, .null]) l76_54 rfl rfl (by decide) (by decide) rfl rfl ?_
  refine c_s (pc' := 58) (lv1 := [(0, .ref 61)]) (st' := [.ref 61]) l76_57 (fun _ => rfl) ?_
  refine c_v (pc' := 61) (w := bI ((400 : Nat) : Int)) (st' := [.ref 61]) l76_58 (fun _ => rfl) (congrArg Value.int (by decide)) ?_
  refine d_arr (pc' := 63) (m := 400) (q' := 68) (c := 7) (s := 14000) l76_61 rfl (by decide) rfl rfl ((up_ne (q := 61) (by decide)).trans ((hz 68 (by decide)).trans (b0_i (n := 400) rfl))) (by decide) (by decide) ?_
  refine c_pf (pc' := 66) (q0 := 60) (j := 0) (fs' := [.int 0, .int 0, .ref 62, .ref 63, .ref 64, .ref 65, .ref 66, .ref 67, .ref 68, .null, .null, .null, .null, .null, .null, .null]) l76_63 rfl rfl (by decide) (by decide) rfl rfl ?_
  refine c_s (pc' := 67) (lv1 := [(0, .ref 61)]) (st' := [.ref 61]) l76_66 (fun _ => rfl) ?_
  refine c_v (pc' := 70) (w := bI ((400 : Nat) : Int)) (st' := [.ref 61]) l76_67 (fun _ => rfl) (congrArg Value.int (by decide)) ?_
  refine d_arr (pc' := 72) (m := 400) (q' := 69) (c := 6) (s := 13600) l76_70 rfl (by decide) rfl rfl ((up_ne (q := 61) (by decide)).trans ((hz 69 (by decide)).trans (b0_i (n := 400) rfl))) (by decide) (by decide) ?_
  refine c_pf (pc' := 75) (q0 := 60) (j := 0) (fs' := [.int 0, .int 0, .ref 62, .ref 63, .ref 64, .ref 65, .ref 66, .ref 67, .ref 68, .ref 69, .null, .null, .null, .null, .null, .null]) l76_72 rfl rfl (by decide) (by decide) rfl rfl ?_
  refine c_s (pc' := 76) (lv1 := [(0, .ref 61)]) (st' := [.ref 61]) l76_75 (fun _ => rfl) ?_
  refine c_v (pc' := 79) (w := bI ((400 : Nat) : Int)) (st' := [.ref 61]) l76_76 (fun _ => rfl) (congrArg Value.int (by decide)) ?_
  refine d_arr (pc' := 81) (m := 400) (q' := 70) (c := 5) (s := 13200) l76_79 rfl (by decide) rfl rfl ((up_ne (q := 61) (by decide)).trans ((hz 70 (by decide)).trans (b0_i (n := 400) rfl))) (by decide) (by decide) ?_
  refine c_pf (pc' := 84) (q0 := 60) (j := 0) (fs' := [.int 0, .int 0, .ref 62, .ref 63, .ref 64, .ref 65, .ref 66, .ref 67, .ref 68, .ref 69, .ref 70, .null, .null, .null, .null, .null]) l76_81 rfl rfl (by decide) (by decide) rfl rfl ?_
  refine c_s (pc' := 85) (lv1 := [(0, .ref 61)]) (st' := [.ref 61]) l76_84 (fun _ => rfl) ?_
  refine c_v (pc' := 88) (w := bI ((400 : Nat) : Int)) (st' := [.ref 61]) l76_85 (fun _ => rfl) (congrArg Value.int (by decide)) ?_
  refine d_arr (pc' := 90) (m := 400) (q' := 71) (c := 4) (s := 12800) l76_88 rfl (by decide) rfl rfl ((up_ne (q := 61) (by decide)).trans ((hz 71 (by decide)).trans (b0_i (n := 400) rfl))) (by decide) (by decide) ?_
  refine c_pf (pc' := 93) (q0 := 60) (j := 0) (fs' := [.int 0, .int 0, .ref 62, .ref 63, .ref 64, .ref 65, .ref 66, .ref 67, .ref 68, .ref 69, .ref 70, .ref 71, .null, .null, .null, .null]) l76_90 rfl rfl (by decide) (by decide) rfl rfl ?_
  refine c_s (pc' := 94) (lv1 := [(0, .ref 61)]) (st' := [.ref 61]) l76_93 (fun _ => rfl) ?_
  refine c_v (pc' := 97) (w := bI ((3200 : Nat) : Int)) (st' := [.ref 61]) l76_94 (fun _ => rfl) (congrArg Value.int (by decide)) ?_
  refine d_arr (pc' := 99) (m := 3200) (q' := 72) (c := 3) (s := 9600) l76_97 rfl (by decide) rfl rfl ((up_ne (q := 61) (by decide)).trans ((hz 72 (by decide)).trans (b0_i (n := 3200) rfl))) (by decide) (by decide) ?_
  refine c_pf (pc' := 102) (q0 := 60) (j := 0) (fs' := [.int 0, .int 0, .ref 62, .ref 63, .ref 64, .ref 65, .ref 66, .ref 67, .ref 68, .ref 69, .ref 70, .ref 71, .ref 72, .null, .null, .null]) l76_99 rfl rfl (by decide) (by decide) rfl rfl ?_
  refine c_s (pc' := 103) (lv1 := [(0, .ref 61)]) (st' := [.ref 61]) l76_102 (fun _ => rfl) ?_
  refine c_v (pc' := 106) (w := bI ((3200 : Nat) : Int)) (st' := [.ref 61]) l76_103 (fun _ => rfl) (congrArg Value.int (by decide)) ?_
  refine d_arr (pc' := 108) (m := 3200) (q' := 73) (c := 2) (s := 6400) l76_106 rfl (by decide) rfl rfl ((up_ne (q := 61) (by decide)).trans ((hz 73 (by decide)).trans (b0_i (n := 3200) rfl))) (by decide) (by decide) ?_
  refine c_pf (pc' := 111) (q0 := 60) (j := 0) (fs' := [.int 0, .int 0, .ref 62, .ref 63, .ref 64, .ref 65, .ref 66, .ref 67, .ref 68, .ref 69, .ref 70, .ref 71, .ref 72, .ref 73, .null, .null]) l76_108 rfl rfl (by decide) (by decide) rfl rfl ?_
  refine c_s (pc' := 112) (lv1 := [(0, .ref 61)]) (st' := [.ref 61]) l76_111 (fun _ => rfl) ?_
  refine c_v (pc' := 115) (w := bI ((3200 : Nat) : Int)) (st' := [.ref 61]) l76_112 (fun _ => rfl) (congrArg Value.int (by decide)) ?_
  refine d_arr (pc' := 117) (m := 3200) (q' := 74) (c := 1) (s := 3200) l76_115 rfl (by decide) rfl rfl ((up_ne (q := 61) (by decide)).trans ((hz 74 (by decide)).trans (b0_l (n := 3200) rfl))) (by decide) (by decide) ?_
  refine c_pf (pc' := 120) (q0 := 60) (j := 0) (fs' := [.int 0, .int 0, .ref 62, .ref 63, .ref 64, .ref 65, .ref 66, .ref 67, .ref 68, .ref 69, .ref 70, .ref 71, .ref 72, .ref 73, .ref 74, .null]) l76_117 rfl rfl (by decide) (by decide) rfl rfl ?_
  refine c_s (pc' := 121) (lv1 := [(0, .ref 61)]) (st' := [.ref 61]) l76_120 (fun _ => rfl) ?_
  refine c_v (pc' := 124) (w := bI ((3200 : Nat) : Int)) (st' := [.ref 61]) l76_121 (fun _ => rfl) (congrArg Value.int (by decide)) ?_
  refine d_arr (pc' := 126) (m := 3200) (q' := 75) (c := 0) (s := 0) l76_124 rfl (by decide) rfl rfl ((up_ne (q := 61) (by decide)).trans ((hz 75 (by decide)).trans (b0_i (n := 3200) rfl))) (by decide) (by decide) ?_
  refine c_pf (pc' := 129) (q0 := 60) (j := 0) (fs' := [.int 0, .int 0, .ref 62, .ref 63, .ref 64, .ref 65, .ref 66, .ref 67, .ref 68, .ref 69, .ref 70, .ref 71, .ref 72, .ref 73, .ref 74, .ref 75]) l76_126 rfl rfl (by decide) (by decide) rfl rfl ?_
  exact bRn.ret l76_129 rfl
theorem k_1 {L : Nat} {xs : Nat → Int32} {d : Nat} {h : ax_H} (hz : ∀ z, 1 < z → h z = bH b0 z) (hq : h 1 = .inr (8, [.null, .null, .null, .null, .null, .null])) : bRn L xs (d + 3) 91 0 [(0, .ref 1)] [] (1, h, true) (.inl none, (75, ax_up h 1 (.inr (8, [.ref 2, .ref 4, .ref 6, .ref 13, .ref 30, .ref 61])), true), 74, 135887) := by
  refine c_eq (M' := (1, ax_up h 1 (.inr (8, [.null, .null, .null, .null, .null, .null])), true)) (by rw [up_self hq]) rfl ?_
  refine c_s (pc' := 1) (lv1 := [(0, .ref 1)]) (st' := [.ref 1]) l91_0 (fun _ => rfl) ?_
  refine c_s (pc' := 4) (lv1 := [(0, .ref 1)]) (st' := []) l91_1 (fun _ => rfl) ?_
  refine c_s (pc' := 5) (lv1 := [(0, .ref 1)]) (st' := [.ref 1]) l91_4 (fun _ => rfl) ?_
  refine d_new (pc' := 8) (c := 73) (s := 135885) l91_5 (by decide) rfl (by decide) (by decide) ?_
  refine c_s (pc' := 9) (lv1 := [(0, .ref 1)]) (st' := [.ref 2, .ref 2, .ref 1]) l91_8 (fun _ => rfl) ?_
  refine c_v (pc' := 12) (w := bI ((12000 : Nat) : Int)) (st' := [.ref 2, .ref 2, .ref 1]) l91_9 (fun _ => rfl) (congrArg Value.int (by decide)) ?_
  refine d_call (pc' := 15) (n' := 3) (c1 := 1) (s1 := 12000) (c := 72) (s := 123885) l91_12 rfl (fun _ => trivial) (Nat.le_of_ble_eq_true rfl) (Nat.le_of_ble_eq_true rfl) rfl (k_2 (fun y hy => (up_ne (by omega)).trans ((up_ne (by omega)).trans (hz y (by omega)))) up_at) rfl (by decide) (by decide) ?_
  refine c_eq (M' := (3, ax_up h 1 (.inr (8, [.null, .null, .null, .null, .null, .null])), true)) (by rw [c_done ((up_ne (q := 1) (by decide)).trans ((hz 2 (by decide)).trans (show bH b0 2 = .inr (5, [.ref 3, .int 0]) from rfl)))]) rfl ?_
  refine c_pf (pc' := 18) (q0 := 0) (j := 0) (fs' := [.ref 2, .null, .null, .null, .null, .null]) l91_15 rfl rfl (by decide) (by decide) rfl rfl ?_
  refine c_s (pc' := 19) (lv1 := [(0, .ref 1)]) (st' := [.ref 1]) l91_18 (fun _ => rfl) ?_
  refine d_new (pc' := 22) (c := 71) (s := 123883) l91_19 (by decide) rfl (by decide) (by decide) ?_
  refine c_s (pc' := 23) (lv1 := [(0, .ref 1)]) (st' := [.ref 4, .ref 4, .ref 1]) l91_22 (fun _ => rfl) ?_
  refine c_v (pc' := 26) (w := bI ((30000 : Nat) : Int)) (st' := [.ref 4, .ref 4, .ref 1]) l91_23 (fun _ => rfl) (congrArg Value.int (by decide)) ?_
  refine d_call (pc' := 29) (n' := 5) (c1 := 1) (s1 := 30000) (c := 70) (s := 93883) l91_26 rfl (fun _ => trivial) (Nat.le_of_ble_eq_true rfl) (Nat.le_of_ble_eq_true rfl) rfl (k_4 (fun y hy => (up_ne (by omega)).trans ((up_ne (by omega)).trans (hz y (by omega)))) up_at) rfl (by decide) (by decide) ?_
  refine c_eq (M' := (5, ax_up h 1 (.inr (8, [.ref 2, .null, .null, .null, .null, .null])), true)) (by rw [c_done ((up_ne (q := 1) (by decide)).trans ((hz 4 (by decide)).trans (show bH b0 4 = .inr (5, [.ref 5, .int 0]) from rfl)))]) rfl ?_
  refine c_pf (pc' := 32) (q0 := 0) (j := 0) (fs' := [.ref 2, .ref 4, .null, .null, .null, .null]) l91_29 rfl rfl (by decide) (by decide) rfl rfl ?_
  refine c_s (pc' := 33) (lv1 := [(0, .ref 1)]) (st' := [.ref 1]) l91_32 (fun _ => rfl) ?_
  refine d_new (pc' := 36) (c := 69) (s := 93880) l91_33 (by decide) rfl (by decide) (by decide) ?_
  refine c_s (pc' := 37) (lv1 := [(0, .ref 1)]) (st' := [.ref 6, .ref 6, .ref 1]) l91_36 (fun _ => rfl) ?_
  refine d_call (pc' := 40) (n' := 12) (c1 := 6) (s1 := 40006) (c := 63) (s := 53874) l91_37 rfl (fun _ => trivial) (Nat.le_of_ble_eq_true rfl) (Nat.le_of_ble_eq_true rfl) rfl (k_6 (fun y hy => (up_ne (by omega)).trans ((up_ne (by omega)).trans (hz y (by omega)))) up_at) rfl (by decide) (by decide) ?_
  refine c_eq (M' := (12, ax_up h 1 (.inr (8, [.ref 2, .ref 4, .null, .null, .null, .null])), true)) (by rw [c_done ((up_ne (q := 1) (by decide)).trans ((hz 6 (by decide)).trans (show bH b0 6 = .inr (4, [.ref 7, .ref 9, .ref 11]) from rfl)))]) rfl ?_
  refine c_pf (pc' := 43) (q0 := 0) (j := 0) (fs' := [.ref 2, .ref 4, .ref 6, .null, .null, .null]) l91_40 rfl rfl (by decide) (by decide) rfl rfl ?_
  refine c_s (pc' := 44) (lv1 := [(0, .ref 1)]) (st' := [.ref 1]) l91_43 (fun _ => rfl) ?_
  refine d_new (pc' := 47) (c := 62) (s := 53855) l91_44 (by decide) rfl (by decide) (by decide) ?_
  refine c_s (pc' := 48) (lv1 := [(0, .ref 1)]) (st' := [.ref 13, .ref 13, .ref 1]) l91_47 (fun _ => rfl) ?_
  refine d_call (pc' := 51) (n' := 29) (c1 := 16) (s1 := 12929) (c := 46) (s := 40926) l91_48 rfl (fun _ => trivial) (Nat.le_of_ble_eq_true rfl) (Nat.le_of_ble_eq_true rfl) rfl (k_13 (fun y hy => (up_ne (by omega)).trans ((up_ne (by omega)).trans (hz y (by omega)))) up_at) rfl (by decide) (by decide) ?_
  refine c_eq (M' := (29, ax_up h 1 (.inr (8, [.ref 2, .ref 4, .ref 6, .null, .null, .null])), true)) (by rw [c_done ((up_ne (q := 1) (by decide)).trans ((hz 13 (by decide)).trans (show bH b0 13 = .inr (2, [.int 0, .int 0, .int 0, .int 0, .int 0, .int 0, .int 0, .ref 14, .ref 15, .ref 16, .ref 17, .ref 18, .ref 19, .ref 20, .ref 21, .ref 22, .ref 23, .ref 24, .ref 27]) from rfl)))]) rfl ?_
  refine c_pf (pc' := 54) (q0 := 0) (j := 0) (fs' := [.ref 2, .ref 4, .ref 6, .ref 13, .null, .null]) l91_51 rfl rfl (by decide) (by decide) rfl rfl ?_
  refine c_s (pc' := 55) (lv1 := [(0, .ref 1)]) (st' := [.ref 1]) l91_54 (fun _ => rfl) ?_
  refine d_new (pc' := 58) (c := 45) (s := 40919) l91_55 (by decide) rfl (by decide) (by decide) ?_
  refine c_s (pc' := 59) (lv1 := [(0, .ref 1)]) (st' := [.ref 30, .ref 30, .ref 1]) l91_58 (fun _ => rfl) ?_
  refine d_call (pc' := 62) (n' := 60) (c1 := 30) (s1 := 24497) (c := 15) (s := 16422) l91_59 rfl (fun _ => trivial) (Nat.le_of_ble_eq_true rfl) (Nat.le_of_ble_eq_true rfl) rfl (k_30 (fun y hy => (up_ne (by omega)).trans ((up_ne (by omega)).trans (hz y (by omega)))) up_at) rfl (by decide) (by decide) ?_
  refine c_eq (M' := (60, ax_up h 1 (.inr (8, [.ref 2, .ref 4, .ref 6, .ref 13, .null, .null])), true)) (by rw [c_done ((up_ne (q := 1) (by decide)).trans ((hz 30 (by decide)).trans (show bH b0 30 = .inr (3, [.ref 31, .ref 46, .ref 49, .int 0, .int 0, .ref 59, .ref 60]) from rfl)))]) rfl ?_
  refine c_pf (pc' := 65) (q0 := 0) (j := 0) (fs' := [.ref 2, .ref 4, .ref 6, .ref 13, .ref 30, .null]) l91_62 rfl rfl (by decide) (by decide) rfl rfl ?_
  refine c_s (pc' := 66) (lv1 := [(0, .ref 1)]) (st' := [.ref 1]) l91_65 (fun _ => rfl) ?_
  refine d_new (pc' := 69) (c := 14) (s := 16406) l91_66 (by decide) rfl (by decide) (by decide) ?_
  refine c_s (pc' := 70) (lv1 := [(0, .ref 1)]) (st' := [.ref 61, .ref 61, .ref 1]) l91_69 (fun _ => rfl) ?_
  refine d_call (pc' := 73) (n' := 75) (c1 := 14) (s1 := 16406) (c := 0) (s := 0) l91_70 rfl (fun _ => trivial) (Nat.le_of_ble_eq_true rfl) (Nat.le_of_ble_eq_true rfl) rfl (k_61 (fun y hy => (up_ne (by omega)).trans ((up_ne (by omega)).trans (hz y (by omega)))) up_at) rfl (by decide) (by decide) ?_
  refine c_eq (M' := (75, ax_up h 1 (.inr (8, [.ref 2, .ref 4, .ref 6, .ref 13, .ref 30, .null])), true)) (by rw [c_done ((up_ne (q := 1) (by decide)).trans ((hz 61 (by decide)).trans (show bH b0 61 = .inr (7, [.int 0, .int 0, .ref 62, .ref 63, .ref 64, .ref 65, .ref 66, .ref 67, .ref 68, .ref 69, .ref 70, .ref 71, .ref 72, .ref 73, .ref 74, .ref 75]) from rfl)))]) rfl ?_
  refine c_pf (pc' := 76) (q0 := 0) (j := 0) (fs' := [.ref 2, .ref 4, .ref 6, .ref 13, .ref 30, .ref 61]) l91_73 rfl rfl (by decide) (by decide) rfl rfl ?_
  exact bRn.ret l91_76 rfl
theorem k_76 {L : Nat} {xs : Nat → Int32} {d : Nat} {h : ax_H} (hz : ∀ z, 76 < z → h z = bH b0 z) (hq : h 76 = .inr (9, [.int 0, .null, .int 0, .int 0, .null, .null, .null, .null, .null, .null, .null, .null, .null, .null, .null, .null, .null, .null, .null, .null, .null, .int 0, .int 0, .int 0, .null, .null, .int 0, .null, .null, .int 0, .null, .null, .int 0, .null, .null, .null, .int 0, .int 0, .int 0, .int 0, .int 0, .int 0, .int 0, .int 0, .null, .null, .null, .null, .null, .null, .null, .null, .int 0, .int 0, .long 0])) : bRn L xs (d + 0) 131 0 [(0, .ref 76)] [] (76, h, true) (.inl none, (111, ax_up h 76 (.inr (9, [.int 0, .ref 77, .int 0, .int 0, .ref 78, .ref 79, .ref 80, .ref 81, .ref 82, .ref 83, .ref 84, .ref 85, .ref 86, .ref 87, .ref 88, .ref 89, .ref 90, .ref 91, .ref 92, .ref 93, .ref 94, .int 0, .int 0, .int 0, .ref 95, .ref 96, .int 0, .ref 97, .ref 98, .int 0, .ref 99, .ref 100, .int 0, .ref 101, .ref 102, .ref 103, .int 0, .int 0, .int 0, .int 0, .int 0, .int 0, .int 0, .int 0, .ref 104, .ref 105, .ref 106, .ref 107, .ref 108, .ref 109, .ref 110, .ref 111, .int 0, .int 0, .long 0])), true), 35, 286429) := by
  refine c_eq (M' := (76, ax_up h 76 (.inr (9, [.int 0, .null, .int 0, .int 0, .null, .null, .null, .null, .null, .null, .null, .null, .null, .null, .null, .null, .null, .null, .null, .null, .null, .int 0, .int 0, .int 0, .null, .null, .int 0, .null, .null, .int 0, .null, .null, .int 0, .null, .null, .null, .int 0, .int 0, .int 0, .int 0, .int 0, .int 0, .int 0, .int 0, .null, .null, .null, .null, .null, .null, .null, .null, .int 0, .int 0, .long 0])), true)) (by rw [up_self hq]) rfl ?_
  refine c_s (pc' := 1) (lv1 := [(0, .ref 76)]) (st' := [.ref 76]) l131_0 (fun _ => rfl) ?_
  refine c_s (pc' := 4) (lv1 := [(0, .ref 76)]) (st' := []) l131_1 (fun _ => rfl) ?_
  refine c_s (pc' := 5) (lv1 := [(0, .ref 76)]) (st' := [.ref 76]) l131_4 (fun _ => rfl) ?_
  refine c_v (pc' := 8) (w := bI ((12000 : Nat) : Int)) (st' := [.ref 76]) l131_5 (fun _ => rfl) (congrArg Value.int (by decide)) ?_
  refine d_arr (pc' := 10) (m := 12000) (q' := 77) (c := 34) (s := 274429) l131_8 rfl (by decide) rfl rfl ((up_ne (q := 76) (by decide)).trans ((hz 77 (by decide)).trans (b0_b (n := 12000) rfl))) (by decide) (by decide) ?_
  refine c_pf (pc' := 13) (q0 := 75) (j := 0) (fs' := [.int 0, .ref 77, .int 0, .int 0, .null, .null, .null, .null, .null, .null, .null, .null, .null, .null, .null, .null, .null, .null, .null, .null, .null, .int 0, .int 0, .int 0, .null, .null, .int 0, .null, .null, .int 0, .null, .null, .int 0, .null, .null, .null, .int 0, .int 0, .int 0, .int 0, .int 0, .int 0, .int 0, .int 0, .null, .null, .null, .null, .null, .null, .null, .null, .int 0, .int 0, .long 0]) l131_10 rfl rfl (by decide) (by decide) rfl rfl ?_
  refine c_s (pc' := 14) (lv1 := [(0, .ref 76)]) (st' := [.ref 76]) l131_13 (fun _ => rfl) ?_
  refine c_v (pc' := 15) (w := bI ((2 : Nat) : Int)) (st' := [.ref 76]) l131_14 (fun _ => rfl) (congrArg Value.int (by decide)) ?_
  refine d_arr (pc' := 17) (m := 2) (q' := 78) (c := 33) (s := 274427) l131_15 rfl (by decide) rfl rfl ((up_ne (q := 76) (by decide)).trans ((hz 78 (by decide)).trans (b0_i (n := 2) rfl))) (by decide) (by decide) ?_
  refine c_pf (pc' := 20) (q0 := 75) (j := 0) (fs' := [.int 0, .ref 77, .int 0, .int 0, .ref 78, .null, .null, .null, .null, .null, .null, .null, .null, .null, .null, .null, .null, .null, .null, .null, .null, .int 0, .int 0, .int 0, .null, .null, .int 0, .null, .null, .int 0, .null, .null, .int 0, .null, .null, .null, .int 0, .int 0, .int 0, .int 0, .int 0, .int 0, .int 0, .int 0, .null, .null, .null, .null, .null, .null, .null, .null, .int 0, .int 0, .long 0]) l131_17 rfl rfl (by decide) (by decide) rfl rfl ?_
  refine c_s (pc' := 21) (lv1 := [(0, .ref 76)]) (st' := [.ref 76]) l131_20 (fun _ => rfl) ?_
  refine c_v (pc' := 22) (w := bI ((2 : Nat) : Int)) (st' := [.ref 76]) l131_21 (fun _ => rfl) (congrArg Value.int (by decide)) ?_
  refine d_arr (pc' := 24) (m := 2) (q' := 79) (c := 32) (s := 274425) l131_22 rfl (by decide) rfl rfl ((up_ne (q := 76) (by decide)).trans ((hz 79 (by decide)).trans (b0_i (n := 2) rfl))) (by decide) (by decide) ?_
  refine c_pf (pc' := 27) (q0 := 75) (j := 0) (fs' := [.int 0, .ref 77, .int 0, .int 0, .ref 78, .ref 79, .null, .null, .null, .null, .null, .null, .null, .null, .null, .null, .null, .null, .null, .null, .null, .int 0, .int 0, .int 0, .null, .null, .int 0, .null, .null, .int 0, .null, .null, .int 0, .null, .null, .null, .int 0, .int 0, .int 0, .int 0, .int 0, .int 0, .int 0, .int 0, .null, .null, .null, .null, .null, .null, .null, .null, .int 0, .int 0, .long 0]) l131_24 rfl rfl (by decide) (by decide) rfl rfl ?_
  refine c_s (pc' := 28) (lv1 := [(0, .ref 76)]) (st' := [.ref 76]) l131_27 (fun _ => rfl) ?_
  refine c_v (pc' := 30) (w := bI ((12 : Nat) : Int)) (st' := [.ref 76]) l131_28 (fun _ => rfl) (congrArg Value.int (by decide)) ?_
  refine d_arr (pc' := 32) (m := 12) (q' := 80) (c := 31) (s := 274413) l131_30 rfl (by decide) rfl rfl ((up_ne (q := 76) (by decide)).trans ((hz 80 (by decide)).trans (b0_i (n := 12) rfl))) (by decide) (by decide) ?_
  refine c_pf (pc' := 35) (q0 := 75) (j := 0) (fs' := [.int 0, .ref 77, .int 0, .int 0, .ref 78, .ref 79, .ref 80, .null, .null, .null, .null, .null, .null, .null, .null, .null, .null, .null, .null, .null, .null, .int 0, .int 0, .int 0, .null, .null, .int 0, .null, .null, .int 0, .null, .null, .int 0, .null, .null, .null, .int 0, .int 0, .int 0, .int 0, .int 0, .int 0, .int 0, .int 0, .null, .null, .null, .null, .null, .null, .null, .null, .int 0, .int 0, .long 0]) l131_32 rfl rfl (by decide) (by decide) rfl rfl ?_
  refine c_s (pc' := 36) (lv1 := [(0, .ref 76)]) (st' := [.ref 76]) l131_35 (fun _ => rfl) ?_
  refine c_v (pc' := 39) (w := bI ((800 : Nat) : Int)) (st' := [.ref 76]) l131_36 (fun _ => rfl) (congrArg Value.int (by decide)) ?_
  refine d_arr (pc' := 41) (m := 800) (q' := 81) (c := 30) (s := 273613) l131_39 rfl (by decide) rfl rfl ((up_ne (q := 76) (by decide)).trans ((hz 81 (by decide)).trans (b0_i (n := 800) rfl))) (by decide) (by decide) ?_
  refine c_pf (pc' := 44) (q0 := 75) (j := 0) (fs' := [.int 0, .ref 77, .int 0, .int 0, .ref 78, .ref 79, .ref 80, .ref 81, .null, .null, .null, .null, .null, .null, .null, .null, .null, .null, .null, .null, .null, .int 0, .int 0, .int 0, .null, .null, .int 0, .null, .null, .int 0, .null, .null, .int 0, .null, .null, .null, .int 0, .int 0, .int 0, .int 0, .int 0, .int 0, .int 0, .int 0, .null, .null, .null, .null, .null, .null, .null, .null, .int 0, .int 0, .long 0]) l131_41 rfl rfl (by decide) (by decide) rfl rfl ?_
  refine c_s (pc' := 45) (lv1 := [(0, .ref 76)]) (st' := [.ref 76]) l131_44 (fun _ => rfl) ?_
  refine c_v (pc' := 48) (w := bI ((800 : Nat) : Int)) (st' := [.ref 76]) l131_45 (fun _ => rfl) (congrArg Value.int (by decide)) ?_
  refine d_arr (pc' := 50) (m := 800) (q' := 82) (c := 29) (s := 272813) l131_48 rfl (by decide) rfl rfl ((up_ne (q := 76) (by decide)).trans ((hz 82 (by decide)).trans (b0_i (n := 800) rfl))) (by decide) (by decide) ?_
  refine c_pf (pc' := 53) (q0 := 75) (j := 0) (fs' := [.int 0, .ref 77, .int 0, .int 0, .ref 78, .ref 79, .ref 80, .ref 81, .ref 82, .null, .null, .null, .null, .null, .null, .null, .null, .null, .null, .null, .null, .int 0, .int 0, .int 0, .null, .null, .int 0, .null, .null, .int 0, .null, .null, .int 0, .null, .null, .null, .int 0, .int 0, .int 0, .int 0, .int 0, .int 0, .int 0, .int 0, .null, .null, .null, .null, .null, .null, .null, .null, .int 0, .int 0, .long 0]) l131_50 rfl rfl (by decide) (by decide) rfl rfl ?_
  refine c_s (pc' := 54) (lv1 := [(0, .ref 76)]) (st' := [.ref 76]) l131_53 (fun _ => rfl) ?_
  refine c_v (pc' := 57) (w := bI ((800 : Nat) : Int)) (st' := [.ref 76]) l131_54 (fun _ => rfl) (congrArg Value.int (by decide)) ?_
  refine d_arr (pc' := 59) (m := 800) (q' := 83) (c := 28) (s := 272013) l131_57 rfl (by decide) rfl rfl ((up_ne (q := 76) (by decide)).trans ((hz 83 (by decide)).trans (b0_i (n := 800) rfl))) (by decide) (by decide) ?_
  refine c_pf (pc' := 62) (q0 := 75) (j := 0) (fs' := [.int 0, .ref 77, .int 0, .int 0, .ref 78, .ref 79, .ref 80, .ref 81, .ref 82, .ref 83, .null, .null, .null, .null, .null, .null, .null, .null, .null, .null, .null, .int 0, .int 0, .int 0, .null, .null, .int 0, .null, .null, .int 0, .null, .null, .int 0, .null, .null, .null, .int 0, .int 0, .int 0, .int 0, .int 0, .int 0, .int 0, .int 0, .null, .null, .null, .null, .null, .null, .null, .null, .int 0, .int 0, .long 0]) l131_59 rfl rfl (by decide) (by decide) rfl rfl ?_
  refine c_s (pc' := 63) (lv1 := [(0, .ref 76)]) (st' := [.ref 76]) l131_62 (fun _ => rfl) ?_
  refine c_v (pc' := 66) (w := bI ((800 : Nat) : Int)) (st' := [.ref 76]) l131_63 (fun _ => rfl) (congrArg Value.int (by decide)) ?_
  refine d_arr (pc' := 68) (m := 800) (q' := 84) (c := 27) (s := 271213) l131_66 rfl (by decide) rfl rfl ((up_ne (q := 76) (by decide)).trans ((hz 84 (by decide)).trans (b0_i (n := 800) rfl))) (by decide) (by decide) ?_
  refine c_pf (pc' := 71) (q0 := 75) (j := 0) (fs' := [.int 0, .ref 77, .int 0, .int 0, .ref 78, .ref 79, .ref 80, .ref 81, .ref 82, .ref 83, .ref 84, .null, .null, .null, .null, .null, .null, .null, .null, .null, .null, .int 0, .int 0, .int 0, .null, .null, .int 0, .null, .null, .int 0, .null, .null, .int 0, .null, .null, .null, .int 0, .int 0, .int 0, .int 0, .int 0, .int 0, .int 0, .int 0, .null, .null, .null, .null, .null, .null, .null, .null, .int 0, .int 0, .long 0]) l131_68 rfl rfl (by decide) (by decide) rfl rfl ?_
  refine c_s (pc' := 72) (lv1 := [(0, .ref 76)]) (st' := [.ref 76]) l131_71 (fun _ => rfl) ?_
  refine c_v (pc' := 75) (w := bI ((6400 : Nat) : Int)) (st' := [.ref 76]) l131_72 (fun _ => rfl) (congrArg Value.int (by decide)) ?_
  refine d_arr (pc' := 77) (m := 6400) (q' := 85) (c := 26) (s := 264813) l131_75 rfl (by decide) rfl rfl ((up_ne (q := 76) (by decide)).trans ((hz 85 (by decide)).trans (b0_i (n := 6400) rfl))) (by decide) (by decide) ?_
  refine c_pf (pc' := 80) (q0 := 75) (j := 0) (fs' := [.int 0, .ref 77, .int 0, .int 0, .ref 78, .ref 79, .ref 80, .ref 81, .ref 82, .ref 83, .ref 84, .ref 85, .null, .null, .null, .null, .null, .null, .null, .null, .null, .int 0, .int 0, .int 0, .null, .null, .int 0, .null, .null, .int 0, .null, .null, .int 0, .null, .null, .null, .int 0, .int 0, .int 0, .int 0, .int 0, .int 0, .int 0, .int 0, .null, .null, .null, .null, .null, .null, .null, .null, .int 0, .int 0, .long 0]) l131_77 rfl rfl (by decide) (by decide) rfl rfl ?_
  refine c_s (pc' := 81) (lv1 := [(0, .ref 76)]) (st' := [.ref 76]) l131_80 (fun _ => rfl) ?_
  refine c_v (pc' := 84) (w := bI ((6400 : Nat) : Int)) (st' := [.ref 76]) l131_81 (fun _ => rfl) (congrArg Value.int (by decide)) ?_
  refine d_arr (pc' := 86) (m := 6400) (q' := 86) (c := 25) (s := 258413) l131_84 rfl (by decide) rfl rfl ((up_ne (q := 76) (by decide)).trans ((hz 86 (by decide)).trans (b0_i (n := 6400) rfl))) (by decide) (by decide) ?_
  refine c_pf (pc' := 89) (q0 := 75) (j := 0) (fs' := [.int 0, .ref 77, .int 0, .int 0, .ref 78, .ref 79, .ref 80, .ref 81, .ref 82, .ref 83, .ref 84, .ref 85, .ref 86, .null, .null, .null, .null, .null, .null, .null, .null, .int 0, .int 0, .int 0, .null, .null, .int 0, .null, .null, .int 0, .null, .null, .int 0, .null, .null, .null, .int 0, .int 0, .int 0, .int 0, .int 0, .int 0, .int 0, .int 0, .null, .null, .null, .null, .null, .null, .null, .null, .int 0, .int 0, .long 0]) l131_86 rfl rfl (by decide) (by decide) rfl rfl ?_
  refine c_s (pc' := 90) (lv1 := [(0, .ref 76)]) (st' := [.ref 76]) l131_89 (fun _ => rfl) ?_
  refine c_v (pc' := 93) (w := bI ((6400 : Nat) : Int)) (st' := [.ref 76]) l131_90 (fun _ => rfl) (congrArg Value.int (by decide)) ?_
  refine d_arr (pc' := 95) (m := 6400) (q' := 87) (c := 24) (s := 252013) l131_93 rfl (by decide) rfl rfl ((up_ne (q := 76) (by decide)).trans ((hz 87 (by decide)).trans (b0_l (n := 6400) rfl))) (by decide) (by decide) ?_
  refine c_pf (pc' := 98) (q0 := 75) (j := 0) (fs' := [.int 0, .ref 77, .int 0, .int 0, .ref 78, .ref 79, .ref 80, .ref 81, .ref 82, .ref 83, .ref 84, .ref 85, .ref 86, .ref 87, .null, .null, .null, .null, .null, .null, .null, .int 0, .int 0, .int 0, .null, .null, .int 0, .null, .null, .int 0, .null, .null, .int 0, .null, .null, .null, .int 0, .int 0, .int 0, .int 0, .int 0, .int 0, .int 0, .int 0, .null, .null, .null, .null, .null, .null, .null, .null, .int 0, .int 0, .long 0]) l131_95 rfl rfl (by decide) (by decide) rfl rfl ?_
  refine c_s (pc' := 99) (lv1 := [(0, .ref 76)]) (st' := [.ref 76]) l131_98 (fun _ => rfl) ?_
  refine c_v (pc' := 102) (w := bI ((6400 : Nat) : Int)) (st' := [.ref 76]) l131_99 (fun _ => rfl) (congrArg Value.int (by decide)) ?_
  refine d_arr (pc' := 104) (m := 6400) (q' := 88) (c := 23) (s := 245613) l131_102 rfl (by decide) rfl rfl ((up_ne (q := 76) (by decide)).trans ((hz 88 (by decide)).trans (b0_i (n := 6400) rfl))) (by decide) (by decide) ?_
  refine c_pf (pc' := 107) (q0 := 75) (j := 0) (fs' := [.int 0, .ref 77, .int 0, .int 0, .ref 78, .ref 79, .ref 80, .ref 81, .ref 82, .ref 83, .ref 84, .ref 85, .ref 86, .ref 87, .ref 88, .null, .null, .null, .null, .null, .null, .int 0, .int 0, .int 0, .null, .null, .int 0, .null, .null, .int 0, .null, .null, .int 0, .null, .null, .null, .int 0, .int 0, .int 0, .int 0, .int 0, .int 0, .int 0, .int 0, .null, .null, .null, .null, .null, .null, .null, .null, .int 0, .int 0, .long 0]) l131_104 rfl rfl (by decide) (by decide) rfl rfl ?_
  refine c_s (pc' := 108) (lv1 := [(0, .ref 76)]) (st' := [.ref 76]) l131_107 (fun _ => rfl) ?_
  refine c_v (pc' := 111) (w := bI ((6400 : Nat) : Int)) (st' := [.ref 76]) l131_108 (fun _ => rfl) (congrArg Value.int (by decide)) ?_
  refine d_arr (pc' := 113) (m := 6400) (q' := 89) (c := 22) (s := 239213) l131_111 rfl (by decide) rfl rfl ((up_ne (q := 76) (by decide)).trans ((hz 89 (by decide)).trans (b0_i (n := 6400) rfl))) (by decide) (by decide) ?_
  refine c_pf (pc' := 116) (q0 := 75) (j := 0) (fs' := [.int 0, .ref 77, .int 0, .int 0, .ref 78, .ref 79, .ref 80, .ref 81, .ref 82, .ref 83, .ref 84, .ref 85, .ref 86, .ref 87, .ref 88, .ref 89, .null, .null, .null, .null, .null, .int 0, .int 0, .int 0, .null, .null, .int 0, .null, .null, .int 0, .null, .null, .int 0, .null, .null, .null, .int 0, .int 0, .int 0, .int 0, .int 0, .int 0, .int 0, .int 0, .null, .null, .null, .null, .null, .null, .null, .null, .int 0, .int 0, .long 0]) l131_113 rfl rfl (by decide) (by decide) rfl rfl ?_
  refine c_s (pc' := 117) (lv1 := [(0, .ref 76)]) (st' := [.ref 76]) l131_116 (fun _ => rfl) ?_
  refine c_v (pc' := 118) (w := bI ((2 : Nat) : Int)) (st' := [.ref 76]) l131_117 (fun _ => rfl) (congrArg Value.int (by decide)) ?_
  refine d_arr (pc' := 120) (m := 2) (q' := 90) (c := 21) (s := 239211) l131_118 rfl (by decide) rfl rfl ((up_ne (q := 76) (by decide)).trans ((hz 90 (by decide)).trans (b0_i (n := 2) rfl))) (by decide) (by decide) ?_
  refine c_pf (pc' := 123) (q0 := 75) (j := 0) (fs' := [.int 0, .ref 77, .int 0, .int 0, .ref 78, .ref 79, .ref 80, .ref 81, .ref 82, .ref 83, .ref 84, .ref 85, .ref 86, .ref 87, .ref 88, .ref 89, .ref 90, .null, .null, .null, .null, .int 0, .int 0, .int 0, .null, .null, .int 0, .null, .null, .int 0, .null, .null, .int 0, .null, .null, .null, .int 0, .int 0, .int 0, .int 0, .int 0, .int 0, .int 0, .int 0, .null, .null, .null, .null, .null, .null, .null, .null, .int 0, .int 0, .long 0]) l131_120 rfl rfl (by decide) (by decide) rfl rfl ?_
  refine c_s (pc' := 124) (lv1 := [(0, .ref 76)]) (st' := [.ref 76]) l131_123 (fun _ => rfl) ?_
  refine c_v (pc' := 125) (w := bI ((2 : Nat) : Int)) (st' := [.ref 76]) l131_124 (fun _ => rfl) (congrArg Value.int (by decide)) ?_
  refine d_arr (pc' := 127) (m := 2) (q' := 91) (c := 20) (s := 239209) l131_125 rfl (by decide) rfl rfl ((up_ne (q := 76) (by decide)).trans ((hz 91 (by decide)).trans (b0_i (n := 2) rfl))) (by decide) (by decide) ?_
  refine c_pf (pc' := 130) (q0 := 75) (j := 0) (fs' := [.int 0, .ref 77, .int 0, .int 0, .ref 78, .ref 79, .ref 80, .ref 81, .ref 82, .ref 83, .ref 84, .ref 85, .ref 86, .ref 87, .ref 88, .ref 89, .ref 90, .ref 91, .null, .null, .null, .int 0, .int 0, .int 0, .null, .null, .int 0, .null, .null, .int 0, .null, .null, .int 0, .null, .null, .null, .int 0, .int 0, .int 0, .int 0, .int 0, .int 0, .int 0, .int 0, .null, .null, .null, .null, .null, .null, .null, .null, .int 0, .int 0, .long 0]) l131_127 rfl rfl (by decide) (by decide) rfl rfl ?_
  refine c_s (pc' := 131) (lv1 := [(0, .ref 76)]) (st' := [.ref 76]) l131_130 (fun _ => rfl) ?_
  refine c_v (pc' := 133) (w := bI ((180000 : Nat) : Int)) (st' := [.ref 76]) l131_131 (fun _ => rfl) (congrArg Value.int (by decide)) ?_
  refine d_arr (pc' := 135) (m := 180000) (q' := 92) (c := 19) (s := 59209) l131_133 rfl (by decide) rfl rfl ((up_ne (q := 76) (by decide)).trans ((hz 92 (by decide)).trans (b0_b (n := 180000) rfl))) (by decide) (by decide) ?_
  refine c_pf (pc' := 138) (q0 := 75) (j := 0) (fs' := [.int 0, .ref 77, .int 0, .int 0, .ref 78, .ref 79, .ref 80, .ref 81, .ref 82, .ref 83, .ref 84, .ref 85, .ref 86, .ref 87, .ref 88, .ref 89, .ref 90, .ref 91, .ref 92, .null, .null, .int 0, .int 0, .int 0, .null, .null, .int 0, .null, .null, .int 0, .null, .null, .int 0, .null, .null, .null, .int 0, .int 0, .int 0, .int 0, .int 0, .int 0, .int 0, .int 0, .null, .null, .null, .null, .null, .null, .null, .null, .int 0, .int 0, .long 0]) l131_135 rfl rfl (by decide) (by decide) rfl rfl ?_
  refine c_s (pc' := 139) (lv1 := [(0, .ref 76)]) (st' := [.ref 76]) l131_138 (fun _ => rfl) ?_
  refine c_v (pc' := 141) (w := bI ((40000 : Nat) : Int)) (st' := [.ref 76]) l131_139 (fun _ => rfl) (congrArg Value.int (by decide)) ?_
  refine d_arr (pc' := 143) (m := 40000) (q' := 93) (c := 18) (s := 19209) l131_141 rfl (by decide) rfl rfl ((up_ne (q := 76) (by decide)).trans ((hz 93 (by decide)).trans (b0_b (n := 40000) rfl))) (by decide) (by decide) ?_
  refine c_pf (pc' := 146) (q0 := 75) (j := 0) (fs' := [.int 0, .ref 77, .int 0, .int 0, .ref 78, .ref 79, .ref 80, .ref 81, .ref 82, .ref 83, .ref 84, .ref 85, .ref 86, .ref 87, .ref 88, .ref 89, .ref 90, .ref 91, .ref 92, .ref 93, .null, .int 0, .int 0, .int 0, .null, .null, .int 0, .null, .null, .int 0, .null, .null, .int 0, .null, .null, .null, .int 0, .int 0, .int 0, .int 0, .int 0, .int 0, .int 0, .int 0, .null, .null, .null, .null, .null, .null, .null, .null, .int 0, .int 0, .long 0]) l131_143 rfl rfl (by decide) (by decide) rfl rfl ?_
  refine c_s (pc' := 147) (lv1 := [(0, .ref 76)]) (st' := [.ref 76]) l131_146 (fun _ => rfl) ?_
  refine c_v (pc' := 148) (w := bI ((3 : Nat) : Int)) (st' := [.ref 76]) l131_147 (fun _ => rfl) (congrArg Value.int (by decide)) ?_
  refine d_arr (pc' := 150) (m := 3) (q' := 94) (c := 17) (s := 19206) l131_148 rfl (by decide) rfl rfl ((up_ne (q := 76) (by decide)).trans ((hz 94 (by decide)).trans (b0_i (n := 3) rfl))) (by decide) (by decide) ?_
  refine c_pf (pc' := 153) (q0 := 75) (j := 0) (fs' := [.int 0, .ref 77, .int 0, .int 0, .ref 78, .ref 79, .ref 80, .ref 81, .ref 82, .ref 83, .ref 84, .ref 85, .ref 86, .ref 87, .ref 88, .ref 89, .ref 90, .ref 91, .ref 92, .ref 93, .ref 94, .int 0, .int 0, .int 0, .null, .null, .int 0, .null, .null, .int 0, .null, .null, .int 0, .null, .null, .null, .int 0, .int 0, .int 0, .int 0, .int 0, .int 0, .int 0, .int 0, .null, .null, .null, .null, .null, .null, .null, .null, .int 0, .int 0, .long 0]) l131_150 rfl rfl (by decide) (by decide) rfl rfl ?_
  refine c_s (pc' := 154) (lv1 := [(0, .ref 76)]) (st' := [.ref 76]) l131_153 (fun _ => rfl) ?_
  refine c_v (pc' := 157) (w := bI ((400 : Nat) : Int)) (st' := [.ref 76]) l131_154 (fun _ => rfl) (congrArg Value.int (by decide)) ?_
  refine d_arr (pc' := 159) (m := 400) (q' := 95) (c := 16) (s := 18806) l131_157 rfl (by decide) rfl rfl ((up_ne (q := 76) (by decide)).trans ((hz 95 (by decide)).trans (b0_i (n := 400) rfl))) (by decide) (by decide) ?_
  refine c_pf (pc' := 162) (q0 := 75) (j := 0) (fs' := [.int 0, .ref 77, .int 0, .int 0, .ref 78, .ref 79, .ref 80, .ref 81, .ref 82, .ref 83, .ref 84, .ref 85, .ref 86, .ref 87, .ref 88, .ref 89, .ref 90, .ref 91, .ref 92, .ref 93, .ref 94, .int 0, .int 0, .int 0, .ref 95, .null, .int 0, .null, .null, .int 0, .null, .null, .int 0, .null, .null, .null, .int 0, .int 0, .int 0, .int 0, .int 0, .int 0, .int 0, .int 0, .null, .null, .null, .null, .null, .null, .null, .null, .int 0, .int 0, .long 0]) l131_159 rfl rfl (by decide) (by decide) rfl rfl ?_
  refine c_s (pc' := 163) (lv1 := [(0, .ref 76)]) (st' := [.ref 76]) l131_162 (fun _ => rfl) ?_
  refine c_v (pc' := 166) (w := bI ((400 : Nat) : Int)) (st' := [.ref 76]) l131_163 (fun _ => rfl) (congrArg Value.int (by decide)) ?_
  refine d_arr (pc' := 168) (m := 400) (q' := 96) (c := 15) (s := 18406) l131_166 rfl (by decide) rfl rfl ((up_ne (q := 76) (by decide)).trans ((hz 96 (by decide)).trans (b0_i (n := 400) rfl))) (by decide) (by decide) ?_
  refine c_pf (pc' := 171) (q0 := 75) (j := 0) (fs' := [.int 0, .ref 77, .int 0, .int 0, .ref 78, .ref 79, .ref 80, .ref 81, .ref 82, .ref 83, .ref 84, .ref 85, .ref 86, .ref 87, .ref 88, .ref 89, .ref 90, .ref 91, .ref 92, .ref 93, .ref 94, .int 0, .int 0, .int 0, .ref 95, .ref 96, .int 0, .null, .null, .int 0, .null, .null, .int 0, .null, .null, .null, .int 0, .int 0, .int 0, .int 0, .int 0, .int 0, .int 0, .int 0, .null, .null, .null, .null, .null, .null, .null, .null, .int 0, .int 0, .long 0]) l131_168 rfl rfl (by decide) (by decide) rfl rfl ?_
  refine c_s (pc' := 172) (lv1 := [(0, .ref 76)]) (st' := [.ref 76]) l131_171 (fun _ => rfl) ?_
  refine c_v (pc' := 175) (w := bI ((400 : Nat) : Int)) (st' := [.ref 76]) l131_172 (fun _ => rfl) (congrArg Value.int (by decide)) ?_
  refine d_arr (pc' := 177) (m := 400) (q' := 97) (c := 14) (s := 18006) l131_175 rfl (by decide) rfl rfl ((up_ne (q := 76) (by decide)).trans ((hz 97 (by decide)).trans (b0_i (n := 400) rfl))) (by decide) (by decide) ?_
  refine c_pf (pc' := 180) (q0 := 75) (j := 0) (fs' := [.int 0, .ref 77, .int 0, .int 0, .ref 78, .ref 79, .ref 80, .ref 81, .ref 82, .ref 83, .ref 84, .ref 85, .ref 86, .ref 87, .ref 88, .ref 89, .ref 90, .ref 91, .ref 92, .ref 93, .ref 94, .int 0, .int 0, .int 0, .ref 95, .ref 96, .int 0, .ref 97, .null, .int 0, .null, .null, .int 0, .null, .null, .null, .int 0, .int 0, .int 0, .int 0, .int 0, .int 0, .int 0, .int 0, .null, .null, .null, .null, .null, .null, .null, .null, .int 0, .int 0, .long 0]) l131_177 rfl rfl (by decide) (by decide) rfl rfl ?_
  refine c_s (pc' := 181) (lv1 := [(0, .ref 76)]) (st' := [.ref 76]) l131_180 (fun _ => rfl) ?_
  refine c_v (pc' := 184) (w := bI ((400 : Nat) : Int)) (st' := [.ref 76]) l131_181 (fun _ => rfl) (congrArg Value.int (by decide)) ?_
  refine d_arr (pc' := 186) (m := 400) (q' := 98) (c := 13) (s := 17606) l131_184 rfl (by decide) rfl rfl ((up_ne (q := 76) (by decide)).trans ((hz 98 (by decide)).trans (b0_i (n := 400) rfl))) (by decide) (by decide) ?_
  refine c_pf (pc' := 189) (q0 := 75) (j := 0) (fs' := [.int 0, .ref 77, .int 0, .int 0, .ref 78, .ref 79, .ref 80, .ref 81, .ref 82, .ref 83, .ref 84, .ref 85, .ref 86, .ref 87, .ref 88, .ref 89, .ref 90, .ref 91, .ref 92, .ref 93, .ref 94, .int 0, .int 0, .int 0, .ref 95, .ref 96, .int 0, .ref 97, .ref 98, .int 0, .null, .null, .int 0, .null, .null, .null, .int 0, .int 0, .int 0, .int 0, .int 0, .int 0, .int 0, .int 0, .null, .null, .null, .null, .null, .null, .null, .null, .int 0, .int 0, .long 0]) l131_186 rfl rfl (by decide) (by decide) rfl rfl ?_
  refine c_s (pc' := 190) (lv1 := [(0, .ref 76)]) (st' := [.ref 76]) l131_189 (fun _ => rfl) ?_
  refine c_v (pc' := 193) (w := bI ((3200 : Nat) : Int)) (st' := [.ref 76]) l131_190 (fun _ => rfl) (congrArg Value.int (by decide)) ?_
  refine d_arr (pc' := 195) (m := 3200) (q' := 99) (c := 12) (s := 14406) l131_193 rfl (by decide) rfl rfl ((up_ne (q := 76) (by decide)).trans ((hz 99 (by decide)).trans (b0_i (n := 3200) rfl))) (by decide) (by decide) ?_
  refine c_pf (pc' := 198) (q0 := 75) (j := 0) (fs' := [.int 0, .ref 77, .int 0, .int 0, .ref 78, .ref 79, .ref 80, .ref 81, .ref 82, .ref 83, .ref 84, .ref 85, .ref 86, .ref 87, .ref 88, .ref 89, .ref 90, .ref 91, .ref 92, .ref 93, .ref 94, .int 0, .int 0, .int 0, .ref 95, .ref 96, .int 0, .ref 97, .ref 98, .int 0, .ref 99, .null, .int 0, .null, .null, .null, .int 0, .int 0, .int 0, .int 0, .int 0, .int 0, .int 0, .int 0, .null, .null, .null, .null, .null, .null, .null, .null, .int 0, .int 0, .long 0]) l131_195 rfl rfl (by decide) (by decide) rfl rfl ?_
  refine c_s (pc' := 199) (lv1 := [(0, .ref 76)]) (st' := [.ref 76]) l131_198 (fun _ => rfl) ?_
  refine c_v (pc' := 202) (w := bI ((3200 : Nat) : Int)) (st' := [.ref 76]) l131_199 (fun _ => rfl) (congrArg Value.int (by decide)) ?_
  refine d_arr (pc' := 204) (m := 3200) (q' := 100) (c := 11) (s := 11206) l131_202 rfl (by decide) rfl rfl ((up_ne (q := 76) (by decide)).trans ((hz 100 (by decide)).trans (b0_i (n := 3200) rfl))) (by decide) (by decide) ?_
  refine c_pf (pc' := 207) (q0 := 75) (j := 0) (fs' := [.int 0, .ref 77, .int 0, .int 0, .ref 78, .ref 79, .ref 80, .ref 81, .ref 82, .ref 83, .ref 84, .ref 85, .ref 86, .ref 87, .ref 88, .ref 89, .ref 90, .ref 91, .ref 92, .ref 93, .ref 94, .int 0, .int 0, .int 0, .ref 95, .ref 96, .int 0, .ref 97, .ref 98, .int 0, .ref 99, .ref 100, .int 0, .null, .null, .null, .int 0, .int 0, .int 0, .int 0, .int 0, .int 0, .int 0, .int 0, .null, .null, .null, .null, .null, .null, .null, .null, .int 0, .int 0, .long 0]) l131_204 rfl rfl (by decide) (by decide) rfl rfl ?_
  refine c_s (pc' := 208) (lv1 := [(0, .ref 76)]) (st' := [.ref 76]) l131_207 (fun _ => rfl) ?_
  refine c_v (pc' := 211) (w := bI ((400 : Nat) : Int)) (st' := [.ref 76]) l131_208 (fun _ => rfl) (congrArg Value.int (by decide)) ?_
  refine d_arr (pc' := 213) (m := 400) (q' := 101) (c := 10) (s := 10806) l131_211 rfl (by decide) rfl rfl ((up_ne (q := 76) (by decide)).trans ((hz 101 (by decide)).trans (b0_i (n := 400) rfl))) (by decide) (by decide) ?_
  refine c_pf (pc' := 216) (q0 := 75) (j := 0) (fs' := [.int 0, .ref 77, .int 0, .int 0, .ref 78, .ref 79, .ref 80, .ref 81, .ref 82, .ref 83, .ref 84, .ref 85, .ref 86, .ref 87, .ref 88, .ref 89, .ref 90, .ref 91, .ref 92, .ref 93, .ref 94, .int 0, .int 0, .int 0, .ref 95, .ref 96, .int 0, .ref 97, .ref 98, .int 0, .ref 99, .ref 100, .int 0, .ref 101, .null, .null, .int 0, .int 0, .int 0, .int 0, .int 0, .int 0, .int 0, .int 0, .null, .null, .null, .null, .null, .null, .null, .null, .int 0, .int 0, .long 0]) l131_213 rfl rfl (by decide) (by decide) rfl rfl ?_
  refine c_s (pc' := 217) (lv1 := [(0, .ref 76)]) (st' := [.ref 76]) l131_216 (fun _ => rfl) ?_
  refine c_v (pc' := 220) (w := bI ((3200 : Nat) : Int)) (st' := [.ref 76]) l131_217 (fun _ => rfl) (congrArg Value.int (by decide)) ?_
  refine d_arr (pc' := 222) (m := 3200) (q' := 102) (c := 9) (s := 7606) l131_220 rfl (by decide) rfl rfl ((up_ne (q := 76) (by decide)).trans ((hz 102 (by decide)).trans (b0_i (n := 3200) rfl))) (by decide) (by decide) ?_
  refine c_pf (pc' := 225) (q0 := 75) (j := 0) (fs' := [.int 0, .ref 77, .int 0, .int 0, .ref 78, .ref 79, .ref 80, .ref 81, .ref 82, .ref 83, .ref 84, .ref 85, .ref 86, .ref 87, .ref 88, .ref 89, .ref 90, .ref 91, .ref 92, .ref 93, .ref 94, .int 0, .int 0, .int 0, .ref 95, .ref 96, .int 0, .ref 97, .ref 98, .int 0, .ref 99, .ref 100, .int 0, .ref 101, .ref 102, .null, .int 0, .int 0, .int 0, .int 0, .int 0, .int 0, .int 0, .int 0, .null, .null, .null, .null, .null, .null, .null, .null, .int 0, .int 0, .long 0]) l131_222 rfl rfl (by decide) (by decide) rfl rfl ?_
  refine c_s (pc' := 226) (lv1 := [(0, .ref 76)]) (st' := [.ref 76]) l131_225 (fun _ => rfl) ?_
  refine c_v (pc' := 228) (w := bI ((6 : Nat) : Int)) (st' := [.ref 76]) l131_226 (fun _ => rfl) (congrArg Value.int (by decide)) ?_
  refine d_arr (pc' := 230) (m := 6) (q' := 103) (c := 8) (s := 7600) l131_228 rfl (by decide) rfl rfl ((up_ne (q := 76) (by decide)).trans ((hz 103 (by decide)).trans (b0_i (n := 6) rfl))) (by decide) (by decide) ?_
  refine c_pf (pc' := 233) (q0 := 75) (j := 0) (fs' := [.int 0, .ref 77, .int 0, .int 0, .ref 78, .ref 79, .ref 80, .ref 81, .ref 82, .ref 83, .ref 84, .ref 85, .ref 86, .ref 87, .ref 88, .ref 89, .ref 90, .ref 91, .ref 92, .ref 93, .ref 94, .int 0, .int 0, .int 0, .ref 95, .ref 96, .int 0, .ref 97, .ref 98, .int 0, .ref 99, .ref 100, .int 0, .ref 101, .ref 102, .ref 103, .int 0, .int 0, .int 0, .int 0, .int 0, .int 0, .int 0, .int 0, .null, .null, .null, .null, .null, .null, .null, .null, .int 0, .int 0, .long 0]) l131_230 rfl rfl (by decide) (by decide) rfl rfl ?_
  refine c_s (pc' := 234) (lv1 := [(0, .ref 76)]) (st' := [.ref 76]) l131_233 (fun _ => rfl) ?_
  refine c_v (pc' := 237) (w := bI ((200 : Nat) : Int)) (st' := [.ref 76]) l131_234 (fun _ => rfl) (congrArg Value.int (by decide)) ?_
  refine d_arr (pc' := 239) (m := 200) (q' := 104) (c := 7) (s := 7400) l131_237 rfl (by decide) rfl rfl ((up_ne (q := 76) (by decide)).trans ((hz 104 (by decide)).trans (b0_i (n := 200) rfl))) (by decide) (by decide) ?_
  refine c_pf (pc' := 242) (q0 := 75) (j := 0) (fs' := [.int 0, .ref 77, .int 0, .int 0, .ref 78, .ref 79, .ref 80, .ref 81, .ref 82, .ref 83, .ref 84, .ref 85, .ref 86, .ref 87, .ref 88, .ref 89, .ref 90, .ref 91, .ref 92, .ref 93, .ref 94, .int 0, .int 0, .int 0, .ref 95, .ref 96, .int 0, .ref 97, .ref 98, .int 0, .ref 99, .ref 100, .int 0, .ref 101, .ref 102, .ref 103, .int 0, .int 0, .int 0, .int 0, .int 0, .int 0, .int 0, .int 0, .ref 104, .null, .null, .null, .null, .null, .null, .null, .int 0, .int 0, .long 0]) l131_239 rfl rfl (by decide) (by decide) rfl rfl ?_
  refine c_s (pc' := 243) (lv1 := [(0, .ref 76)]) (st' := [.ref 76]) l131_242 (fun _ => rfl) ?_
  refine c_v (pc' := 246) (w := bI ((200 : Nat) : Int)) (st' := [.ref 76]) l131_243 (fun _ => rfl) (congrArg Value.int (by decide)) ?_
  refine d_arr (pc' := 248) (m := 200) (q' := 105) (c := 6) (s := 7200) l131_246 rfl (by decide) rfl rfl ((up_ne (q := 76) (by decide)).trans ((hz 105 (by decide)).trans (b0_i (n := 200) rfl))) (by decide) (by decide) ?_
  refine c_pf (pc' := 251) (q0 := 75) (j := 0) (fs' := [.int 0, .ref 77, .int 0, .int 0, .ref 78, .ref 79, .ref 80, .ref 81, .ref 82, .ref 83, .ref 84, .ref 85, .ref 86, .ref 87, .ref 88, .ref 89, .ref 90, .ref 91, .ref 92, .ref 93, .ref 94, .int 0, .int 0, .int 0, .ref 95, .ref 96, .int 0, .ref 97, .ref 98, .int 0, .ref 99, .ref 100, .int 0, .ref 101, .ref 102, .ref 103, .int 0, .int 0, .int 0, .int 0, .int 0, .int 0, .int 0, .int 0, .ref 104, .ref 105, .null, .null, .null, .null, .null, .null, .int 0, .int 0, .long 0]) l131_248 rfl rfl (by decide) (by decide) rfl rfl ?_
  refine c_s (pc' := 252) (lv1 := [(0, .ref 76)]) (st' := [.ref 76]) l131_251 (fun _ => rfl) ?_
  refine c_v (pc' := 255) (w := bI ((200 : Nat) : Int)) (st' := [.ref 76]) l131_252 (fun _ => rfl) (congrArg Value.int (by decide)) ?_
  refine d_arr (pc' := 257) (m := 200) (q' := 106) (c := 5) (s := 7000) l131_255 rfl (by decide) rfl rfl ((up_ne (q := 76) (by decide)).trans ((hz 106 (by decide)).trans (b0_z (n := 200) rfl))) (by decide) (by decide) ?_
  refine c_pf (pc' := 260) (q0 := 75) (j := 0) (fs' := [.int 0, .ref 77, .int 0, .int 0, .ref 78, .ref 79, .ref 80, .ref 81, .ref 82, .ref 83, .ref 84, .ref 85, .ref 86, .ref 87, .ref 88, .ref 89, .ref 90, .ref 91, .ref 92, .ref 93, .ref 94, .int 0, .int 0, .int 0, .ref 95, .ref 96, .int 0, .ref 97, .ref 98, .int 0, .ref 99, .ref 100, .int 0, .ref 101, .ref 102, .ref 103, .int 0, .int 0, .int 0, .int 0, .int 0, .int 0, .int 0, .int 0, .ref 104, .ref 105, .ref 106, .null, .null, .null, .null, .null, .int 0, .int 0, .long 0]) l131_257 rfl rfl (by decide) (by decide) rfl rfl ?_
  refine c_s (pc' := 261) (lv1 := [(0, .ref 76)]) (st' := [.ref 76]) l131_260 (fun _ => rfl) ?_
  refine c_v (pc' := 264) (w := bI ((200 : Nat) : Int)) (st' := [.ref 76]) l131_261 (fun _ => rfl) (congrArg Value.int (by decide)) ?_
  refine d_arr (pc' := 266) (m := 200) (q' := 107) (c := 4) (s := 6800) l131_264 rfl (by decide) rfl rfl ((up_ne (q := 76) (by decide)).trans ((hz 107 (by decide)).trans (b0_i (n := 200) rfl))) (by decide) (by decide) ?_
  refine c_pf (pc' := 269) (q0 := 75) (j := 0) (fs' := [.int 0, .ref 77, .int 0, .int 0, .ref 78, .ref 79, .ref 80, .ref 81, .ref 82, .ref 83, .ref 84, .ref 85, .ref 86, .ref 87, .ref 88, .ref 89, .ref 90, .ref 91, .ref 92, .ref 93, .ref 94, .int 0, .int 0, .int 0, .ref 95, .ref 96, .int 0, .ref 97, .ref 98, .int 0, .ref 99, .ref 100, .int 0, .ref 101, .ref 102, .ref 103, .int 0, .int 0, .int 0, .int 0, .int 0, .int 0, .int 0, .int 0, .ref 104, .ref 105, .ref 106, .ref 107, .null, .null, .null, .null, .int 0, .int 0, .long 0]) l131_266 rfl rfl (by decide) (by decide) rfl rfl ?_
  refine c_s (pc' := 270) (lv1 := [(0, .ref 76)]) (st' := [.ref 76]) l131_269 (fun _ => rfl) ?_
  refine c_v (pc' := 273) (w := bI ((1600 : Nat) : Int)) (st' := [.ref 76]) l131_270 (fun _ => rfl) (congrArg Value.int (by decide)) ?_
  refine d_arr (pc' := 275) (m := 1600) (q' := 108) (c := 3) (s := 5200) l131_273 rfl (by decide) rfl rfl ((up_ne (q := 76) (by decide)).trans ((hz 108 (by decide)).trans (b0_i (n := 1600) rfl))) (by decide) (by decide) ?_
  refine c_pf (pc' := 278) (q0 := 75) (j := 0) (fs' := [.int 0, .ref 77, .int 0, .int 0, .ref 78, .ref 79, .ref 80, .ref 81, .ref 82, .ref 83, .ref 84, .ref 85, .ref 86, .ref 87, .ref 88, .ref 89, .ref 90, .ref 91, .ref 92, .ref 93, .ref 94, .int 0, .int 0, .int 0, .ref 95, .ref 96, .int 0, .ref 97, .ref 98, .int 0, .ref 99, .ref 100, .int 0, .ref 101, .ref 102, .ref 103, .int 0, .int 0, .int 0, .int 0, .int 0, .int 0, .int 0, .int 0, .ref 104, .ref 105, .ref 106, .ref 107, .ref 108, .null, .null, .null, .int 0, .int 0, .long 0]) l131_275 rfl rfl (by decide) (by decide) rfl rfl ?_
  refine c_s (pc' := 279) (lv1 := [(0, .ref 76)]) (st' := [.ref 76]) l131_278 (fun _ => rfl) ?_
  refine c_v (pc' := 282) (w := bI ((1600 : Nat) : Int)) (st' := [.ref 76]) l131_279 (fun _ => rfl) (congrArg Value.int (by decide)) ?_
  refine d_arr (pc' := 284) (m := 1600) (q' := 109) (c := 2) (s := 3600) l131_282 rfl (by decide) rfl rfl ((up_ne (q := 76) (by decide)).trans ((hz 109 (by decide)).trans (b0_i (n := 1600) rfl))) (by decide) (by decide) ?_
  refine c_pf (pc' := 287) (q0 := 75) (j := 0) (fs' := [.int 0, .ref 77, .int 0, .int 0, .ref 78, .ref 79, .ref 80, .ref 81, .ref 82, .ref 83, .ref 84, .ref 85, .ref 86, .ref 87, .ref 88, .ref 89, .ref 90, .ref 91, .ref 92, .ref 93, .ref 94, .int 0, .int 0, .int 0, .ref 95, .ref 96, .int 0, .ref 97, .ref 98, .int 0, .ref 99, .ref 100, .int 0, .ref 101, .ref 102, .ref 103, .int 0, .int 0, .int 0, .int 0, .int 0, .int 0, .int 0, .int 0, .ref 104, .ref 105, .ref 106, .ref 107, .ref 108, .ref 109, .null, .null, .int 0, .int 0, .long 0]) l131_284 rfl rfl (by decide) (by decide) rfl rfl ?_
  refine c_s (pc' := 288) (lv1 := [(0, .ref 76)]) (st' := [.ref 76]) l131_287 (fun _ => rfl) ?_
  refine c_v (pc' := 291) (w := bI ((400 : Nat) : Int)) (st' := [.ref 76]) l131_288 (fun _ => rfl) (congrArg Value.int (by decide)) ?_
  refine d_arr (pc' := 293) (m := 400) (q' := 110) (c := 1) (s := 3200) l131_291 rfl (by decide) rfl rfl ((up_ne (q := 76) (by decide)).trans ((hz 110 (by decide)).trans (b0_i (n := 400) rfl))) (by decide) (by decide) ?_
  refine c_pf (pc' := 296) (q0 := 75) (j := 0) (fs' := [.int 0, .ref 77, .int 0, .int 0, .ref 78, .ref 79, .ref 80, .ref 81, .ref 82, .ref 83, .ref 84, .ref 85, .ref 86, .ref 87, .ref 88, .ref 89, .ref 90, .ref 91, .ref 92, .ref 93, .ref 94, .int 0, .int 0, .int 0, .ref 95, .ref 96, .int 0, .ref 97, .ref 98, .int 0, .ref 99, .ref 100, .int 0, .ref 101, .ref 102, .ref 103, .int 0, .int 0, .int 0, .int 0, .int 0, .int 0, .int 0, .int 0, .ref 104, .ref 105, .ref 106, .ref 107, .ref 108, .ref 109, .ref 110, .null, .int 0, .int 0, .long 0]) l131_293 rfl rfl (by decide) (by decide) rfl rfl ?_
  refine c_s (pc' := 297) (lv1 := [(0, .ref 76)]) (st' := [.ref 76]) l131_296 (fun _ => rfl) ?_
  refine c_v (pc' := 300) (w := bI ((3200 : Nat) : Int)) (st' := [.ref 76]) l131_297 (fun _ => rfl) (congrArg Value.int (by decide)) ?_
  refine d_arr (pc' := 302) (m := 3200) (q' := 111) (c := 0) (s := 0) l131_300 rfl (by decide) rfl rfl ((up_ne (q := 76) (by decide)).trans ((hz 111 (by decide)).trans (b0_i (n := 3200) rfl))) (by decide) (by decide) ?_
  refine c_pf (pc' := 305) (q0 := 75) (j := 0) (fs' := [.int 0, .ref 77, .int 0, .int 0, .ref 78, .ref 79, .ref 80, .ref 81, .ref 82, .ref 83, .ref 84, .ref 85, .ref 86, .ref 87, .ref 88, .ref 89, .ref 90, .ref 91, .ref 92, .ref 93, .ref 94, .int 0, .int 0, .int 0, .ref 95, .ref 96, .int 0, .ref 97, .ref 98, .int 0, .ref 99, .ref 100, .int 0, .ref 101, .ref 102, .ref 103, .int 0, .int 0, .int 0, .int 0, .int 0, .int 0, .int 0, .int 0, .ref 104, .ref 105, .ref 106, .ref 107, .ref 108, .ref 109, .ref 110, .ref 111, .int 0, .int 0, .long 0]) l131_302 rfl rfl (by decide) (by decide) rfl rfl ?_
  exact bRn.ret l131_305 rfl
end CB
