/-! The blocks by method and number. -/
/-! 0: DiceLaw.<init>()V -/
theorem eL0 : eL (mOf 0) = 2 := rfl
theorem b0_0 : blk 0 0 = [(.aload 0, 0), (.monitorexit, 0), (.aload 0, 0), (.new 8, 2), (.dup, 0), (.invokeinterface 258 1, 8), (.instanceof 10, 0), (.aload 0, 0), (.iconst (4), 0), (.anewarray 8, 0), (.instanceof 10, 1), (.aload 0, 0), (.new 6, 2), (.dup, 0), (.invokeinterface 241 1, 6), (.instanceof 10, 3), (.aload 0, 0), (.new 7, 6), (.dup, 0), (.invokeinterface 244 1, 7), (.instanceof 10, 4), (.aload 0, 0), (.iconst (6), 0), (.newarray .int, 0), (.instanceof 10, 5), (.aload 0, 0), (.new 0, 3), (.dup, 0), (.invokeinterface 189 1, 0), (.instanceof 10, 6), (.aload 0, 0), (.new 3, 10), (.dup, 0), (.invokeinterface 216 1, 3), (.instanceof 10, 7), (.aload 0, 0), (.new 0, 3), (.dup, 0), (.invokeinterface 189 1, 0), (.instanceof 10, 8), (.aload 0, 0), (.new 3, 10), (.dup, 0), (.invokeinterface 216 1, 3), (.instanceof 10, 9), (.aload 0, 0), (.iconst (6), 0), (.newarray .int, 0), (.dup, 0), (.iconst (0), 0), (.iconst (2), 0), (.iastore, 0), (.dup, 0), (.iconst (1), 0), (.iconst (2), 0), (.iastore, 0), (.dup, 0), (.iconst (2), 0), (.iconst (2), 0), (.iastore, 0), (.dup, 0), (.iconst (3), 0), (.iconst (2), 0), (.iastore, 0), (.dup, 0), (.iconst (4), 0), (.iconst (2), 0), (.iastore, 0), (.dup, 0), (.iconst (5), 0), (.iconst (2), 0), (.iastore, 0), (.instanceof 10, 11), (.aload 0, 0), (.iconst (6), 0), (.newarray .int, 0), (.instanceof 10, 12), (.aload 0, 0), (.new 4, 4), (.dup, 0), (.invokeinterface 232 1, 4), (.instanceof 10, 13), (.aload 0, 0), (.new 1, 15), (.dup, 0), (.invokeinterface 195 1, 1), (.instanceof 10, 14), (.aload 0, 0), (.aload 0, 0), (.checkcast 10, 14), (.checkcast 1, 0), (.instanceof 10, 15), (.iconst (0), 0), (.istore 1, 0), (.jsr 1, 0)] := rfl
theorem b0_1 : blk 0 1 = [(.iload 1, 0), (.aload 0, 0), (.checkcast 10, 1), (.arraylength, 0), (.if_icmp .ge 2, 0), (.aload 0, 0), (.checkcast 10, 1), (.iload 1, 0), (.new 8, 2), (.dup, 0), (.invokeinterface 258 1, 8), (.aastore, 0), (.iinc 1 (1), 0), (.goto 1, 0)] := rfl
theorem b0_2 : blk 0 2 = [(.return_, 0)] := rfl
/-! 1: DiceLaw.feed(IIIII)I -/
theorem eL1 : eL (mOf 1) = 7 := rfl
theorem b1_0 : blk 1 0 = [(.iload 1, 0), (.invokestatic 70, 1), (.iload 2, 0), (.invokestatic 70, 1), (.iadd, 0), (.iload 3, 0), (.invokestatic 70, 1), (.iadd, 0), (.iload 4, 0), (.invokestatic 70, 1), (.iadd, 0), (.iload 5, 0), (.invokestatic 70, 1), (.iadd, 0), (.istore 6, 0), (.aload 0, 0), (.checkcast 10, 0), (.getfield 8, 1), (.iload 6, 0), (.iadd, 0), (.iconst (120), 0), (.if_icmp .le 1, 0), (.iconst (-1), 0), (.ireturn, 0)] := rfl
theorem b1_1 : blk 1 1 = [(.aload 0, 0), (.checkcast 10, 0), (.iload 1, 0), (.invokeinterface 259 2, 8), (.aload 0, 0), (.checkcast 10, 0), (.iload 2, 0), (.invokeinterface 259 2, 8), (.aload 0, 0), (.checkcast 10, 0), (.iload 3, 0), (.invokeinterface 259 2, 8), (.aload 0, 0), (.checkcast 10, 0), (.iload 4, 0), (.invokeinterface 259 2, 8), (.aload 0, 0), (.checkcast 10, 0), (.iload 5, 0), (.invokeinterface 259 2, 8), (.aload 0, 0), (.checkcast 10, 0), (.getfield 8, 1), (.ireturn, 0)] := rfl
/-! 2: DiceLaw.end(I)Z -/
theorem eL2 : eL (mOf 2) = 2 := rfl
theorem b2_0 : blk 2 0 = [(.iload 1, 0), (.ifCond .lt 1, 0), (.iload 1, 0), (.aload 0, 0), (.checkcast 10, 0), (.getfield 8, 1), (.if_icmp .le 2, 0), (.jsr 1, 0)] := rfl
theorem b2_1 : blk 2 1 = [(.iconst (0), 0), (.ireturn, 1)] := rfl
theorem b2_2 : blk 2 2 = [(.aload 0, 0), (.checkcast 10, 0), (.iload 1, 0), (.putfield 8, 1), (.iconst (1), 0), (.ireturn, 1)] := rfl
/-! 3: DiceLaw.fault(I)I -/
theorem eL3 : eL (mOf 3) = 2 := rfl
theorem b3_0 : blk 3 0 = [(.iload 1, 0), (.ifCond .ne 1, 0), (.aload 0, 0), (.checkcast 10, 3), (.aload 0, 0), (.checkcast 10, 0), (.invokeinterface 242 2, 6), (.ireturn, 0)] := rfl
theorem b3_1 : blk 3 1 = [(.iload 1, 0), (.iconst (1), 0), (.if_icmp .ne 2, 0), (.aload 0, 0), (.checkcast 10, 4), (.aload 0, 0), (.checkcast 10, 0), (.aload 0, 0), (.checkcast 10, 5), (.invokeinterface 245 3, 7), (.goto 3, 0)] := rfl
theorem b3_2 : blk 3 2 = [(.iconst (-2), 0), (.jsr 3, 0)] := rfl
theorem b3_3 : blk 3 3 = [(.ireturn, 0)] := rfl
/-! 4: DiceLaw.text(I)I -/
theorem eL4 : eL (mOf 4) = 3 := rfl
theorem b4_0 : blk 4 0 = [(.iconst (-1), 0), (.istore 2, 0), (.iload 1, 0), (.ifCond .ne 1, 0), (.aload 0, 0), (.invokeinterface 5 1, 10), (.istore 2, 0), (.goto 2, 0)] := rfl
theorem b4_1 : blk 4 1 = [(.iload 1, 0), (.iconst (1), 0), (.if_icmp .ne 2, 0), (.aload 0, 0), (.invokeinterface 6 1, 10), (.istore 2, 0), (.jsr 2, 0)] := rfl
theorem b4_2 : blk 4 2 = [(.iload 2, 0), (.iconst (-1), 0), (.if_icmp .eq 3, 0), (.aload 0, 0), (.checkcast 10, 0), (.iconst (0), 0), (.putfield 8, 1), (.jsr 3, 0)] := rfl
theorem b4_3 : blk 4 3 = [(.iload 2, 0), (.ireturn, 0)] := rfl
/-! 5: DiceLaw.takeLaw()I -/
theorem eL5 : eL (mOf 5) = 1 := rfl
theorem b5_0 : blk 5 0 = [(.aload 0, 0), (.checkcast 10, 3), (.aload 0, 0), (.checkcast 10, 0), (.invokeinterface 242 2, 6), (.iconst (-1), 0), (.if_icmp .ne 1, 0), (.aload 0, 0), (.checkcast 10, 6), (.getfield 0, 0), (.iconst (5), 0), (.if_icmp .ge 1, 0), (.aload 0, 0), (.checkcast 10, 7), (.getfield 3, 2), (.ifCond .le 2, 0), (.jsr 1, 0)] := rfl
theorem b5_1 : blk 5 1 = [(.iconst (-1), 0), (.ireturn, 0)] := rfl
theorem b5_2 : blk 5 2 = [(.aload 0, 0), (.checkcast 10, 6), (.aload 0, 0), (.checkcast 10, 3), (.checkcast 6, 1), (.invokeinterface 190 2, 0), (.aload 0, 0), (.checkcast 10, 6), (.getfield 0, 0), (.iconst (1), 0), (.isub, 0), (.ireturn, 0)] := rfl
/-! 6: DiceLaw.takeRule()I -/
theorem eL6 : eL (mOf 6) = 2 := rfl
theorem b6_0 : blk 6 0 = [(.aload 0, 0), (.getfield 10, 2), (.ifCond .lt 1, 0), (.aload 0, 0), (.getfield 10, 2), (.aload 0, 0), (.checkcast 10, 1), (.arraylength, 0), (.if_icmp .ge 1, 0), (.aload 0, 0), (.checkcast 10, 1), (.aload 0, 0), (.getfield 10, 2), (.aaload, 0), (.goto 2, 0)] := rfl
theorem b6_1 : blk 6 1 = [(.aconst_null, 0), (.jsr 2, 0)] := rfl
theorem b6_2 : blk 6 2 = [(.astore 1, 0), (.aload 1, 0), (.ifnull 3, 0), (.aload 0, 0), (.checkcast 10, 4), (.aload 0, 0), (.checkcast 10, 0), (.aload 0, 0), (.checkcast 10, 5), (.invokeinterface 245 3, 7), (.iconst (-1), 0), (.if_icmp .eq 4, 0), (.jsr 3, 0)] := rfl
theorem b6_3 : blk 6 3 = [(.iconst (-1), 0), (.ireturn, 0)] := rfl
theorem b6_4 : blk 6 4 = [(.aload 1, 0), (.aload 0, 0), (.checkcast 10, 0), (.invokeinterface 260 2, 8), (.aload 0, 0), (.dup, 0), (.getfield 10, 2), (.iconst (1), 0), (.iadd, 0), (.putfield 10, 2), (.aload 0, 0), (.getfield 10, 2), (.iconst (1), 0), (.isub, 0), (.ireturn, 0)] := rfl
/-! 8: DiceLaw.weigh(IIIIIII)Z -/
theorem eL8 : eL (mOf 8) = 8 := rfl
theorem b8_0 : blk 8 0 = [(.aload 0, 0), (.checkcast 10, 6), (.iload 1, 0), (.iconst (0), 0), (.invokeinterface 191 3, 0), (.ifCond .eq 1, 0), (.aload 0, 0), (.iload 2, 0), (.iload 3, 0), (.iload 4, 0), (.iload 5, 0), (.iload 6, 0), (.iload 7, 0), (.invokeinterface 9 7, 10), (.ifCond .ne 2, 0), (.jsr 1, 0)] := rfl
theorem b8_1 : blk 8 1 = [(.iconst (0), 0), (.ireturn, 1)] := rfl
theorem b8_2 : blk 8 2 = [(.aload 0, 0), (.checkcast 10, 12), (.iconst (0), 0), (.aload 0, 0), (.checkcast 10, 6), (.checkcast 0, 2), (.iload 1, 0), (.iconst (6), 0), (.imul, 0), (.iconst (6), 0), (.invokestatic 67, 5), (.iconst (1), 0), (.ireturn, 1)] := rfl
/-! 9: DiceLaw.isWeighed(IIIIII)Z -/
theorem eL9 : eL (mOf 9) = 12 := rfl
theorem b9_0 : blk 9 0 = [(.aload 0, 0), (.checkcast 10, 12), (.iconst (0), 0), (.iload 1, 0), (.invokestatic 63, 3), (.aload 0, 0), (.checkcast 10, 12), (.iconst (1), 0), (.iload 2, 0), (.invokestatic 63, 3), (.aload 0, 0), (.checkcast 10, 12), (.iconst (2), 0), (.iload 3, 0), (.invokestatic 63, 3), (.aload 0, 0), (.checkcast 10, 12), (.iconst (3), 0), (.iload 4, 0), (.invokestatic 63, 3), (.aload 0, 0), (.checkcast 10, 12), (.iconst (4), 0), (.iload 5, 0), (.invokestatic 63, 3), (.aload 0, 0), (.checkcast 10, 12), (.iconst (5), 0), (.iload 6, 0), (.invokestatic 63, 3), (.iconst (0), 0), (.istore 7, 0), (.aload 0, 0), (.checkcast 10, 12), (.astore 8, 0), (.aload 8, 0), (.arraylength, 0), (.istore 9, 0), (.iconst (0), 0), (.istore 10, 0), (.jsr 1, 0)] := rfl
theorem b9_1 : blk 9 1 = [(.iload 10, 0), (.iload 9, 0), (.if_icmp .ge 4, 0), (.aload 8, 0), (.iload 10, 0), (.iaload, 0), (.istore 11, 0), (.iload 11, 0), (.ifCond .lt 2, 0), (.iload 11, 0), (.iconst (12), 0), (.if_icmp .le 3, 0), (.jsr 2, 0)] := rfl
theorem b9_2 : blk 9 2 = [(.iconst (0), 0), (.ireturn, 1)] := rfl
theorem b9_3 : blk 9 3 = [(.iload 7, 0), (.iload 11, 0), (.iadd, 0), (.istore 7, 0), (.iinc 10 (1), 0), (.goto 1, 0)] := rfl
theorem b9_4 : blk 9 4 = [(.iload 7, 0), (.iconst (12), 0), (.if_icmp .ne 5, 0), (.iconst (1), 0), (.goto 6, 0)] := rfl
theorem b9_5 : blk 9 5 = [(.iconst (0), 0), (.jsr 6, 0)] := rfl
theorem b9_6 : blk 9 6 = [(.ireturn, 1)] := rfl
/-! 10: DiceLaw.weight(II)I -/
theorem eL10 : eL (mOf 10) = 3 := rfl
theorem b10_0 : blk 10 0 = [(.aload 0, 0), (.checkcast 10, 6), (.iload 1, 0), (.iload 2, 0), (.invokeinterface 191 3, 0), (.ifCond .eq 1, 0), (.aload 0, 0), (.checkcast 10, 6), (.iload 1, 0), (.iload 2, 0), (.invokeinterface 193 3, 0), (.goto 2, 0)] := rfl
theorem b10_1 : blk 10 1 = [(.iconst (-1), 0), (.jsr 2, 0)] := rfl
theorem b10_2 : blk 10 2 = [(.ireturn, 0)] := rfl
/-! 11: DiceLaw.amend(III)Z -/
theorem eL11 : eL (mOf 11) = 4 := rfl
theorem b11_0 : blk 11 0 = [(.aload 0, 0), (.checkcast 10, 6), (.iload 1, 0), (.iload 2, 0), (.invokeinterface 191 3, 0), (.ifCond .eq 1, 0), (.iload 3, 0), (.invokestatic 60, 1), (.ifCond .ne 2, 0), (.jsr 1, 0)] := rfl
theorem b11_1 : blk 11 1 = [(.iconst (0), 0), (.ireturn, 1)] := rfl
theorem b11_2 : blk 11 2 = [(.aload 0, 0), (.checkcast 10, 6), (.checkcast 0, 1), (.iload 1, 0), (.iconst (6), 0), (.imul, 0), (.iload 2, 0), (.iadd, 0), (.iload 3, 0), (.invokestatic 63, 3), (.iconst (1), 0), (.ireturn, 1)] := rfl
/-! 12: DiceLaw.seed(J)V -/
theorem eL12 : eL (mOf 12) = 3 := rfl
theorem b12_0 : blk 12 0 = [(.aload 0, 0), (.checkcast 10, 7), (.lload 1, 0), (.putstatic 3, 0), (.return_, 0)] := rfl
/-! 13: DiceLaw.dawn()I -/
theorem eL13 : eL (mOf 13) = 3 := rfl
theorem b13_0 : blk 13 0 = [(.aload 0, 0), (.checkcast 10, 6), (.getfield 0, 0), (.ifCond .eq 1, 0), (.aload 0, 0), (.checkcast 10, 7), (.getfield 3, 2), (.iconst (40), 0), (.if_icmp .lt 2, 0), (.jsr 1, 0)] := rfl
theorem b13_1 : blk 13 1 = [(.iconst (-1), 0), (.ireturn, 0)] := rfl
theorem b13_2 : blk 13 2 = [(.aload 0, 0), (.checkcast 10, 7), (.getstatic 3, 0), (.lstore 1, 0), (.aload 0, 0), (.checkcast 10, 7), (.aload 0, 0), (.checkcast 10, 13), (.aload 0, 0), (.checkcast 10, 6), (.lload 1, 0), (.invokeinterface 234 3, 4), (.putstatic 3, 0), (.aload 0, 0), (.checkcast 10, 7), (.aload 0, 0), (.checkcast 10, 6), (.aload 0, 0), (.checkcast 10, 13), (.checkcast 4, 0), (.aload 0, 0), (.checkcast 10, 13), (.getfield 4, 2), (.lload 1, 0), (.invokeinterface 218 5, 3), (.ireturn, 0)] := rfl
/-! 14: DiceLaw.told(I)I -/
theorem eL14 : eL (mOf 14) = 2 := rfl
theorem b14_0 : blk 14 0 = [(.aload 0, 0), (.checkcast 10, 6), (.getfield 0, 0), (.ifCond .eq 1, 0), (.aload 0, 0), (.checkcast 10, 7), (.getfield 3, 2), (.iconst (40), 0), (.if_icmp .ge 1, 0), (.aload 0, 0), (.checkcast 10, 13), (.aload 0, 0), (.checkcast 10, 6), (.getfield 0, 0), (.iload 1, 0), (.invokeinterface 233 3, 4), (.ifCond .ne 2, 0), (.jsr 1, 0)] := rfl
theorem b14_1 : blk 14 1 = [(.iconst (-1), 0), (.ireturn, 0)] := rfl
theorem b14_2 : blk 14 2 = [(.aload 0, 0), (.checkcast 10, 7), (.aload 0, 0), (.checkcast 10, 6), (.aload 0, 0), (.checkcast 10, 13), (.checkcast 4, 0), (.iconst (0), 0), (.aload 0, 0), (.checkcast 10, 7), (.getstatic 3, 0), (.invokeinterface 218 5, 3), (.ireturn, 0)] := rfl
/-! 15: DiceLaw.undo()I -/
theorem eL15 : eL (mOf 15) = 1 := rfl
theorem b15_0 : blk 15 0 = [(.aload 0, 0), (.checkcast 10, 7), (.getfield 3, 2), (.ifCond .ne 1, 0), (.iconst (-1), 0), (.goto 2, 0)] := rfl
theorem b15_1 : blk 15 1 = [(.aload 0, 0), (.checkcast 10, 7), (.invokeinterface 219 1, 3), (.jsr 2, 0)] := rfl
theorem b15_2 : blk 15 2 = [(.ireturn, 0)] := rfl
/-! 16: DiceLaw.day(II)I -/
theorem eL16 : eL (mOf 16) = 3 := rfl
theorem b16_0 : blk 16 0 = [(.aload 0, 0), (.checkcast 10, 7), (.iload 1, 0), (.invokeinterface 217 2, 3), (.ifCond .eq 1, 0), (.iload 2, 0), (.ifCond .lt 1, 0), (.iload 2, 0), (.iconst (1), 0), (.if_icmp .le 2, 0), (.jsr 1, 0)] := rfl
theorem b16_1 : blk 16 1 = [(.iconst (-1), 0), (.ireturn, 0)] := rfl
theorem b16_2 : blk 16 2 = [(.iload 2, 0), (.ifCond .ne 3, 0), (.aload 0, 0), (.checkcast 10, 7), (.iload 1, 0), (.invokeinterface 220 2, 3), (.goto 4, 0)] := rfl
theorem b16_3 : blk 16 3 = [(.aload 0, 0), (.checkcast 10, 7), (.checkcast 3, 6), (.iload 1, 0), (.invokestatic 61, 2), (.jsr 4, 0)] := rfl
theorem b16_4 : blk 16 4 = [(.ireturn, 0)] := rfl
/-! 17: DiceLaw.held(II)I -/
theorem eL17 : eL (mOf 17) = 3 := rfl
theorem b17_0 : blk 17 0 = [(.aload 0, 0), (.checkcast 10, 6), (.iload 1, 0), (.iconst (0), 0), (.invokeinterface 191 3, 0), (.ifCond .eq 1, 0), (.aload 0, 0), (.checkcast 10, 7), (.iload 2, 0), (.invokeinterface 217 2, 3), (.ifCond .eq 1, 0), (.aload 0, 0), (.checkcast 10, 7), (.iload 1, 0), (.iload 2, 0), (.invokeinterface 222 3, 3), (.goto 2, 0)] := rfl
theorem b17_1 : blk 17 1 = [(.iconst (-1), 0), (.jsr 2, 0)] := rfl
theorem b17_2 : blk 17 2 = [(.ireturn, 0)] := rfl
/-! 18: DiceLaw.deed(III)I -/
theorem eL18 : eL (mOf 18) = 4 := rfl
theorem b18_0 : blk 18 0 = [(.iload 1, 0), (.invokestatic 55, 1), (.ifCond .eq 1, 0), (.aload 0, 0), (.checkcast 10, 7), (.iload 2, 0), (.invokeinterface 217 2, 3), (.ifCond .ne 2, 0), (.jsr 1, 0)] := rfl
theorem b18_1 : blk 18 1 = [(.iconst (-1), 0), (.ireturn, 0)] := rfl
theorem b18_2 : blk 18 2 = [(.iload 3, 0), (.tableswitch 8 (0) (4) #[3, 4, 5, 6, 7], 0)] := rfl
theorem b18_3 : blk 18 3 = [(.aload 0, 0), (.checkcast 10, 7), (.iload 2, 0), (.iload 1, 0), (.invokeinterface 225 3, 3), (.invokestatic 69, 1), (.ireturn, 0)] := rfl
theorem b18_4 : blk 18 4 = [(.aload 0, 0), (.checkcast 10, 7), (.iload 2, 0), (.iload 1, 0), (.invokeinterface 226 3, 3), (.invokestatic 69, 1), (.ireturn, 0)] := rfl
theorem b18_5 : blk 18 5 = [(.aload 0, 0), (.checkcast 10, 7), (.iload 2, 0), (.iconst (10), 0), (.iload 1, 0), (.iadd, 0), (.invokeinterface 224 3, 3), (.ireturn, 0)] := rfl
theorem b18_6 : blk 18 6 = [(.aload 0, 0), (.checkcast 10, 7), (.iload 2, 0), (.iconst (20), 0), (.iload 1, 0), (.iadd, 0), (.invokeinterface 224 3, 3), (.ireturn, 0)] := rfl
theorem b18_7 : blk 18 7 = [(.aload 0, 0), (.checkcast 10, 7), (.iload 2, 0), (.iconst (30), 0), (.iload 1, 0), (.iadd, 0), (.invokeinterface 224 3, 3), (.ireturn, 0)] := rfl
theorem b18_8 : blk 18 8 = [(.iconst (-1), 0), (.ireturn, 0)] := rfl
/-! 19: DiceLaw.odds(III)J -/
theorem eL19 : eL (mOf 19) = 4 := rfl
theorem b19_0 : blk 19 0 = [(.aload 0, 0), (.checkcast 10, 6), (.getfield 0, 0), (.ifCond .eq 1, 0), (.iload 1, 0), (.invokestatic 55, 1), (.ifCond .eq 1, 0), (.iload 2, 0), (.ifCond .lt 1, 0), (.iload 2, 0), (.iconst (2), 0), (.if_icmp .gt 1, 0), (.iload 3, 0), (.invokestatic 58, 1), (.ifCond .ne 2, 0), (.jsr 1, 0)] := rfl
theorem b19_1 : blk 19 1 = [(.sipush (-1), 0), (.lreturn, 0)] := rfl
theorem b19_2 : blk 19 2 = [(.aload 0, 0), (.iload 2, 0), (.iload 1, 0), (.iload 1, 0), (.invokeinterface 34 4, 10), (.aload 0, 0), (.checkcast 10, 15), (.invokeinterface 265 1, 9), (.iload 3, 0), (.invokestatic 71, 3), (.lreturn, 0)] := rfl
/-! 20: DiceLaw.both(III)J -/
theorem eL20 : eL (mOf 20) = 4 := rfl
theorem b20_0 : blk 20 0 = [(.aload 0, 0), (.checkcast 10, 6), (.getfield 0, 0), (.ifCond .eq 1, 0), (.iload 1, 0), (.iload 2, 0), (.invokestatic 56, 2), (.ifCond .eq 1, 0), (.iload 3, 0), (.invokestatic 58, 1), (.ifCond .ne 2, 0), (.jsr 1, 0)] := rfl
theorem b20_1 : blk 20 1 = [(.sipush (-1), 0), (.lreturn, 0)] := rfl
theorem b20_2 : blk 20 2 = [(.aload 0, 0), (.iconst (3), 0), (.iload 1, 0), (.iload 2, 0), (.invokeinterface 34 4, 10), (.aload 0, 0), (.checkcast 10, 15), (.invokeinterface 265 1, 9), (.iload 3, 0), (.invokestatic 71, 3), (.lreturn, 0)] := rfl
/-! 21: DiceLaw.free(I)J -/
theorem eL21 : eL (mOf 21) = 2 := rfl
theorem b21_0 : blk 21 0 = [(.aload 0, 0), (.checkcast 10, 6), (.getfield 0, 0), (.ifCond .eq 1, 0), (.iload 1, 0), (.invokestatic 58, 1), (.ifCond .ne 2, 0), (.jsr 1, 0)] := rfl
theorem b21_1 : blk 21 1 = [(.sipush (-1), 0), (.lreturn, 0)] := rfl
theorem b21_2 : blk 21 2 = [(.aload 0, 0), (.iconst (4), 0), (.iconst (0), 0), (.iconst (0), 0), (.invokeinterface 34 4, 10), (.aload 0, 0), (.checkcast 10, 15), (.invokeinterface 265 1, 9), (.iload 1, 0), (.invokestatic 71, 3), (.lreturn, 0)] := rfl
/-! 22: DiceLaw.holds(III)J -/
theorem eL22 : eL (mOf 22) = 4 := rfl
theorem b22_0 : blk 22 0 = [(.aload 0, 0), (.checkcast 10, 6), (.iload 1, 0), (.iconst (0), 0), (.invokeinterface 191 3, 0), (.ifCond .eq 1, 0), (.iload 2, 0), (.invokestatic 60, 1), (.ifCond .eq 1, 0), (.iload 2, 0), (.iconst (40), 0), (.if_icmp .ge 1, 0), (.iload 3, 0), (.invokestatic 58, 1), (.ifCond .ne 2, 0), (.jsr 1, 0)] := rfl
theorem b22_1 : blk 22 1 = [(.sipush (-1), 0), (.lreturn, 0)] := rfl
theorem b22_2 : blk 22 2 = [(.aload 0, 0), (.iconst (5), 0), (.iload 1, 0), (.iload 2, 0), (.invokeinterface 34 4, 10), (.aload 0, 0), (.checkcast 10, 15), (.invokeinterface 265 1, 9), (.iload 3, 0), (.invokestatic 71, 3), (.lreturn, 0)] := rfl
/-! 23: DiceLaw.again(II)J -/
theorem eL23 : eL (mOf 23) = 3 := rfl
theorem b23_0 : blk 23 0 = [(.aload 0, 0), (.checkcast 10, 6), (.getfield 0, 0), (.ifCond .eq 1, 0), (.iload 1, 0), (.ifCond .lt 1, 0), (.iload 1, 0), (.iconst (3), 0), (.if_icmp .gt 1, 0), (.iload 2, 0), (.invokestatic 58, 1), (.ifCond .ne 2, 0), (.jsr 1, 0)] := rfl
theorem b23_1 : blk 23 1 = [(.sipush (-1), 0), (.lreturn, 0)] := rfl
theorem b23_2 : blk 23 2 = [(.aload 0, 0), (.invokeinterface 33 1, 10), (.aload 0, 0), (.checkcast 10, 15), (.checkcast 9, 12), (.iload 1, 0), (.invokestatic 62, 2), (.aload 0, 0), (.checkcast 10, 15), (.invokeinterface 265 1, 9), (.iload 2, 0), (.invokestatic 71, 3), (.lreturn, 0)] := rfl
/-! 24: DiceLaw.sure(I)I -/
theorem eL24 : eL (mOf 24) = 6 := rfl
theorem b24_0 : blk 24 0 = [(.aload 0, 0), (.checkcast 10, 6), (.getfield 0, 0), (.ifCond .eq 1, 0), (.iload 1, 0), (.ifCond .lt 1, 0), (.iload 1, 0), (.iconst (1), 0), (.if_icmp .le 2, 0), (.jsr 1, 0)] := rfl
theorem b24_1 : blk 24 1 = [(.iconst (-1), 0), (.ireturn, 0)] := rfl
theorem b24_2 : blk 24 2 = [(.aload 0, 0), (.invokeinterface 33 1, 10), (.iload 1, 0), (.ifCond .ne 3, 0), (.aload 0, 0), (.checkcast 10, 15), (.invokeinterface 265 1, 9), (.goto 4, 0)] := rfl
theorem b24_3 : blk 24 3 = [(.sipush (0), 0), (.jsr 4, 0)] := rfl
theorem b24_4 : blk 24 4 = [(.lstore 2, 0), (.iconst (0), 0), (.istore 4, 0), (.iconst (0), 0), (.istore 5, 0), (.jsr 5, 0)] := rfl
theorem b24_5 : blk 24 5 = [(.iload 5, 0), (.iconst (6), 0), (.if_icmp .ge 7, 0), (.aload 0, 0), (.checkcast 10, 14), (.iconst (0), 0), (.iload 5, 0), (.iload 5, 0), (.invokeinterface 196 4, 1), (.lload 2, 0), (.lcmp, 0), (.ifCond .ne 6, 0), (.iload 4, 0), (.iconst (1), 0), (.iload 5, 0), (.ishl, 0), (.ior, 0), (.istore 4, 0), (.jsr 6, 0)] := rfl
theorem b24_6 : blk 24 6 = [(.iinc 5 (1), 0), (.goto 5, 0)] := rfl
theorem b24_7 : blk 24 7 = [(.iload 4, 0), (.ireturn, 0)] := rfl
/-! 25: DiceLaw.waits(II)I -/
theorem eL25 : eL (mOf 25) = 3 := rfl
theorem b25_0 : blk 25 0 = [(.aload 0, 0), (.checkcast 10, 6), (.getfield 0, 0), (.ifCond .eq 1, 0), (.iload 1, 0), (.invokestatic 55, 1), (.ifCond .eq 1, 0), (.iload 2, 0), (.iconst (1), 0), (.if_icmp .lt 1, 0), (.iload 2, 0), (.iconst (60), 0), (.if_icmp .le 2, 0), (.jsr 1, 0)] := rfl
theorem b25_1 : blk 25 1 = [(.iconst (-1), 0), (.ireturn, 0)] := rfl
theorem b25_2 : blk 25 2 = [(.aload 0, 0), (.aload 0, 0), (.iconst (0), 0), (.iload 1, 0), (.iload 1, 0), (.invokeinterface 34 4, 10), (.iload 2, 0), (.iconst (1), 0), (.iconst (0), 0), (.invokeinterface 27 5, 10), (.l2i, 0), (.ireturn, 0)] := rfl
/-! 26: DiceLaw.value(IIII)J -/
theorem eL26 : eL (mOf 26) = 9 := rfl
theorem b26_0 : blk 26 0 = [(.iload 3, 0), (.ifCond .lt 1, 0), (.iload 3, 0), (.iconst (999), 0), (.if_icmp .gt 1, 0), (.iload 4, 0), (.ifCond .lt 1, 0), (.iload 4, 0), (.iconst (99), 0), (.if_icmp .le 2, 0), (.jsr 1, 0)] := rfl
theorem b26_1 : blk 26 1 = [(.sipush (-1000000000), 0), (.lreturn, 0)] := rfl
theorem b26_2 : blk 26 2 = [(.aload 0, 0), (.checkcast 10, 6), (.getfield 0, 0), (.ifCond .eq 3, 0), (.iload 1, 0), (.invokestatic 55, 1), (.ifCond .eq 3, 0), (.iload 2, 0), (.iconst (1), 0), (.if_icmp .lt 3, 0), (.iload 2, 0), (.iconst (60), 0), (.if_icmp .le 4, 0), (.jsr 3, 0)] := rfl
theorem b26_3 : blk 26 3 = [(.sipush (-1000000000), 0), (.lreturn, 0)] := rfl
theorem b26_4 : blk 26 4 = [(.aload 0, 0), (.iconst (0), 0), (.iload 1, 0), (.iload 1, 0), (.invokeinterface 34 4, 10), (.lstore 5, 0), (.sipush (1000000000), 0), (.aload 0, 0), (.lload 5, 0), (.iload 2, 0), (.iconst (1), 0), (.iconst (0), 0), (.invokeinterface 27 5, 10), (.lsub, 0), (.lstore 7, 0), (.aload 0, 0), (.lload 5, 0), (.iload 2, 0), (.iload 3, 0), (.iload 4, 0), (.invokeinterface 27 5, 10), (.lload 7, 0), (.iload 4, 0), (.i2l, 0), (.lmul, 0), (.iload 2, 0), (.i2l, 0), (.lmul, 0), (.lsub, 0), (.sipush (1000000), 0), (.ldiv, 0), (.lreturn, 0)] := rfl
/-! 27: DiceLaw.worthOfWait(JIII)J -/
theorem eL27 : eL (mOf 27) = 15 := rfl
theorem b27_0 : blk 27 0 = [(.aload 0, 0), (.checkcast 10, 15), (.invokeinterface 265 1, 9), (.lstore 6, 0), (.sipush (1000000000), 0), (.lstore 8, 0), (.sipush (0), 0), (.lstore 10, 0), (.iconst (0), 0), (.istore 12, 0), (.jsr 1, 0)] := rfl
theorem b27_1 : blk 27 1 = [(.iload 12, 0), (.iload 3, 0), (.if_icmp .ge 4, 0), (.lload 6, 0), (.sipush (0), 0), (.lcmp, 0), (.ifCond .ne 2, 0), (.sipush (0), 0), (.goto 3, 0)] := rfl
theorem b27_2 : blk 27 2 = [(.lload 8, 0), (.lload 1, 0), (.lmul, 0), (.lload 6, 0), (.ldiv, 0), (.jsr 3, 0)] := rfl
theorem b27_3 : blk 27 3 = [(.lstore 13, 0), (.lload 10, 0), (.lload 13, 0), (.iload 4, 0), (.iload 5, 0), (.iload 12, 0), (.imul, 0), (.isub, 0), (.i2l, 0), (.lmul, 0), (.ladd, 0), (.lstore 10, 0), (.lload 8, 0), (.lload 13, 0), (.lsub, 0), (.lstore 8, 0), (.iinc 12 (1), 0), (.goto 1, 0)] := rfl
theorem b27_4 : blk 27 4 = [(.lload 10, 0), (.lreturn, 0)] := rfl
/-! 28: DiceLaw.given(IIII)J -/
theorem eL28 : eL (mOf 28) = 5 := rfl
theorem b28_0 : blk 28 0 = [(.aload 0, 0), (.checkcast 10, 6), (.iload 1, 0), (.iload 2, 0), (.invokeinterface 191 3, 0), (.ifCond .eq 1, 0), (.iload 3, 0), (.invokestatic 55, 1), (.ifCond .eq 1, 0), (.iload 4, 0), (.invokestatic 58, 1), (.ifCond .ne 2, 0), (.jsr 1, 0)] := rfl
theorem b28_1 : blk 28 1 = [(.sipush (-1), 0), (.lreturn, 0)] := rfl
theorem b28_2 : blk 28 2 = [(.aload 0, 0), (.iconst (7), 0), (.iload 3, 0), (.iload 3, 0), (.invokeinterface 34 4, 10), (.pop2, 0), (.aload 0, 0), (.checkcast 10, 14), (.iload 1, 0), (.iload 2, 0), (.invokeinterface 205 3, 1), (.aload 0, 0), (.checkcast 10, 14), (.iload 1, 0), (.iload 2, 0), (.invokeinterface 204 3, 1), (.iload 4, 0), (.invokestatic 71, 3), (.lreturn, 0)] := rfl
/-! 29: DiceLaw.harm(I)I -/
theorem eL29 : eL (mOf 29) = 12 := rfl
theorem b29_0 : blk 29 0 = [(.aload 0, 0), (.checkcast 10, 6), (.getfield 0, 0), (.ifCond .eq 1, 0), (.iload 1, 0), (.invokestatic 55, 1), (.ifCond .ne 2, 0), (.jsr 1, 0)] := rfl
theorem b29_1 : blk 29 1 = [(.iconst (-1), 0), (.ireturn, 0)] := rfl
theorem b29_2 : blk 29 2 = [(.aload 0, 0), (.iconst (7), 0), (.iload 1, 0), (.iload 1, 0), (.invokeinterface 34 4, 10), (.pop2, 0), (.iconst (-1), 0), (.istore 2, 0), (.sipush (0), 0), (.lstore 3, 0), (.sipush (0), 0), (.lstore 5, 0), (.iconst (0), 0), (.istore 7, 0), (.jsr 3, 0)] := rfl
theorem b29_3 : blk 29 3 = [(.iload 7, 0), (.aload 0, 0), (.checkcast 10, 6), (.getfield 0, 0), (.iconst (6), 0), (.imul, 0), (.if_icmp .ge 6, 0), (.aload 0, 0), (.checkcast 10, 14), (.iload 7, 0), (.iconst (6), 0), (.idiv, 0), (.iload 7, 0), (.iconst (6), 0), (.irem, 0), (.invokeinterface 205 3, 1), (.lstore 8, 0), (.aload 0, 0), (.checkcast 10, 14), (.iload 7, 0), (.iconst (6), 0), (.idiv, 0), (.iload 7, 0), (.iconst (6), 0), (.irem, 0), (.invokeinterface 204 3, 1), (.lstore 10, 0), (.lload 10, 0), (.sipush (0), 0), (.lcmp, 0), (.ifCond .le 5, 0), (.iload 2, 0), (.iconst (-1), 0), (.if_icmp .eq 4, 0), (.lload 8, 0), (.lload 5, 0), (.lmul, 0), (.lload 3, 0), (.lload 10, 0), (.lmul, 0), (.lcmp, 0), (.ifCond .ge 5, 0), (.jsr 4, 0)] := rfl
theorem b29_4 : blk 29 4 = [(.iload 7, 0), (.istore 2, 0), (.lload 8, 0), (.lstore 3, 0), (.lload 10, 0), (.lstore 5, 0), (.jsr 5, 0)] := rfl
theorem b29_5 : blk 29 5 = [(.iinc 7 (1), 0), (.goto 3, 0)] := rfl
theorem b29_6 : blk 29 6 = [(.iload 2, 0), (.ireturn, 0)] := rfl
/-! 30: DiceLaw.likeliest(I)J -/
theorem eL30 : eL (mOf 30) = 2 := rfl
theorem b30_0 : blk 30 0 = [(.aload 0, 0), (.checkcast 10, 6), (.getfield 0, 0), (.ifCond .eq 1, 0), (.iload 1, 0), (.ifCond .lt 1, 0), (.iload 1, 0), (.iconst (1), 0), (.if_icmp .le 2, 0), (.jsr 1, 0)] := rfl
theorem b30_1 : blk 30 1 = [(.sipush (-1), 0), (.lreturn, 0)] := rfl
theorem b30_2 : blk 30 2 = [(.aload 0, 0), (.iconst (6), 0), (.iconst (0), 0), (.iconst (0), 0), (.invokeinterface 34 4, 10), (.pop2, 0), (.iload 1, 0), (.ifCond .ne 3, 0), (.aload 0, 0), (.checkcast 10, 14), (.getfield 1, 14), (.i2l, 0), (.goto 4, 0)] := rfl
theorem b30_3 : blk 30 3 = [(.aload 0, 0), (.checkcast 10, 14), (.getstatic 1, 13), (.jsr 4, 0)] := rfl
theorem b30_4 : blk 30 4 = [(.lreturn, 0)] := rfl
/-! 31: DiceLaw.apart(II)I -/
theorem eL31 : eL (mOf 31) = 9 := rfl
theorem b31_0 : blk 31 0 = [(.aload 0, 0), (.checkcast 10, 6), (.getfield 0, 0), (.ifCond .eq 1, 0), (.iload 1, 0), (.iload 2, 0), (.invokestatic 56, 2), (.ifCond .ne 2, 0), (.jsr 1, 0)] := rfl
theorem b31_1 : blk 31 1 = [(.iconst (-1), 0), (.ireturn, 0)] := rfl
theorem b31_2 : blk 31 2 = [(.aload 0, 0), (.iconst (3), 0), (.iload 1, 0), (.iload 2, 0), (.invokeinterface 34 4, 10), (.lstore 3, 0), (.aload 0, 0), (.checkcast 10, 14), (.iconst (0), 0), (.iload 1, 0), (.iload 1, 0), (.invokeinterface 196 4, 1), (.lstore 5, 0), (.aload 0, 0), (.checkcast 10, 14), (.iconst (0), 0), (.iload 2, 0), (.iload 2, 0), (.invokeinterface 196 4, 1), (.lstore 7, 0), (.lload 3, 0), (.aload 0, 0), (.checkcast 10, 15), (.invokeinterface 265 1, 9), (.lmul, 0), (.lload 5, 0), (.lload 7, 0), (.lmul, 0), (.lcmp, 0), (.ifCond .ne 3, 0), (.iconst (1), 0), (.goto 4, 0)] := rfl
theorem b31_3 : blk 31 3 = [(.iconst (0), 0), (.jsr 4, 0)] := rfl
theorem b31_4 : blk 31 4 = [(.invokestatic 69, 1), (.ireturn, 0)] := rfl
/-! 32: DiceLaw.mean(I)J -/
theorem eL32 : eL (mOf 32) = 5 := rfl
theorem b32_0 : blk 32 0 = [(.aload 0, 0), (.checkcast 10, 6), (.getfield 0, 0), (.ifCond .eq 1, 0), (.iload 1, 0), (.invokestatic 58, 1), (.ifCond .ne 2, 0), (.jsr 1, 0)] := rfl
theorem b32_1 : blk 32 1 = [(.sipush (-1), 0), (.lreturn, 0)] := rfl
theorem b32_2 : blk 32 2 = [(.aload 0, 0), (.invokeinterface 33 1, 10), (.sipush (0), 0), (.lstore 2, 0), (.iconst (1), 0), (.istore 4, 0), (.jsr 3, 0)] := rfl
theorem b32_3 : blk 32 3 = [(.iload 4, 0), (.iconst (3), 0), (.if_icmp .gt 4, 0), (.lload 2, 0), (.iload 4, 0), (.i2l, 0), (.aload 0, 0), (.checkcast 10, 15), (.checkcast 9, 12), (.iload 4, 0), (.invokestatic 62, 2), (.lmul, 0), (.ladd, 0), (.lstore 2, 0), (.iinc 4 (1), 0), (.goto 3, 0)] := rfl
theorem b32_4 : blk 32 4 = [(.lload 2, 0), (.aload 0, 0), (.checkcast 10, 15), (.invokeinterface 265 1, 9), (.iload 1, 0), (.invokestatic 71, 3), (.lreturn, 0)] := rfl
/-! 33: DiceLaw.throwTomorrow()V -/
theorem eL33 : eL (mOf 33) = 1 := rfl
theorem b33_0 : blk 33 0 = [(.aload 0, 0), (.checkcast 10, 15), (.aload 0, 0), (.checkcast 10, 6), (.aload 0, 0), (.checkcast 10, 7), (.invokeinterface 262 3, 9), (.aload 0, 0), (.checkcast 10, 15), (.iconst (0), 0), (.invokeinterface 267 2, 9), (.return_, 0)] := rfl
/-! 34: DiceLaw.chance(III)J -/
theorem eL34 : eL (mOf 34) = 4 := rfl
theorem b34_0 : blk 34 0 = [(.aload 0, 0), (.checkcast 10, 15), (.aload 0, 0), (.checkcast 10, 6), (.aload 0, 0), (.checkcast 10, 7), (.invokeinterface 262 3, 9), (.aload 0, 0), (.checkcast 10, 15), (.iload 1, 0), (.iconst (6), 0), (.if_icmp .eq 1, 0), (.iload 1, 0), (.iconst (7), 0), (.if_icmp .ne 2, 0), (.jsr 1, 0)] := rfl
theorem b34_1 : blk 34 1 = [(.iconst (1), 0), (.goto 3, 0)] := rfl
theorem b34_2 : blk 34 2 = [(.iconst (0), 0), (.jsr 3, 0)] := rfl
theorem b34_3 : blk 34 3 = [(.invokeinterface 267 2, 9), (.aload 0, 0), (.checkcast 10, 14), (.iload 1, 0), (.iload 2, 0), (.iload 3, 0), (.invokeinterface 196 4, 1), (.lreturn, 0)] := rfl
/-! 35: DiceLaw.act(III)I -/
theorem eL35 : eL (mOf 35) = 4 := rfl
theorem b35_0 : blk 35 0 = [(.iload 1, 0), (.invokestatic 57, 1), (.ifCond .eq 1, 0), (.iload 2, 0), (.invokestatic 55, 1), (.ifCond .eq 1, 0), (.aload 0, 0), (.checkcast 10, 7), (.iload 3, 0), (.invokeinterface 217 2, 3), (.ifCond .ne 2, 0), (.jsr 1, 0)] := rfl
theorem b35_1 : blk 35 1 = [(.iconst (-1), 0), (.ireturn, 0)] := rfl
theorem b35_2 : blk 35 2 = [(.aload 0, 0), (.checkcast 10, 7), (.getfield 3, 3), (.iconst (60), 0), (.if_icmp .ge 3, 0), (.aload 0, 0), (.checkcast 10, 7), (.iload 1, 0), (.iload 2, 0), (.iload 3, 0), (.invokeinterface 228 4, 3), (.ifCond .eq 4, 0), (.jsr 3, 0)] := rfl
theorem b35_3 : blk 35 3 = [(.iconst (-1), 0), (.goto 5, 0)] := rfl
theorem b35_4 : blk 35 4 = [(.aload 0, 0), (.checkcast 10, 7), (.iload 1, 0), (.iload 2, 0), (.iload 3, 0), (.invokeinterface 229 4, 3), (.jsr 5, 0)] := rfl
theorem b35_5 : blk 35 5 = [(.ireturn, 0)] := rfl
/-! 36: DiceLaw.suit(II)I -/
theorem eL36 : eL (mOf 36) = 6 := rfl
theorem b36_0 : blk 36 0 = [(.iload 1, 0), (.invokestatic 57, 1), (.ifCond .eq 1, 0), (.iload 2, 0), (.iconst (-1), 0), (.if_icmp .ge 2, 0), (.jsr 1, 0)] := rfl
theorem b36_1 : blk 36 1 = [(.iconst (-1), 0), (.ireturn, 0)] := rfl
theorem b36_2 : blk 36 2 = [(.iconst (0), 0), (.istore 3, 0), (.iconst (0), 0), (.istore 4, 0), (.jsr 3, 0)] := rfl
theorem b36_3 : blk 36 3 = [(.iload 4, 0), (.aload 0, 0), (.checkcast 10, 7), (.getfield 3, 2), (.iconst (6), 0), (.imul, 0), (.if_icmp .ge 7, 0), (.aload 0, 0), (.checkcast 10, 7), (.iload 1, 0), (.iload 4, 0), (.iconst (6), 0), (.irem, 0), (.iload 4, 0), (.iconst (6), 0), (.idiv, 0), (.invokeinterface 230 4, 3), (.istore 5, 0), (.iload 5, 0), (.iconst (-1), 0), (.if_icmp .eq 4, 0), (.iload 3, 0), (.iload 2, 0), (.if_icmp .ne 4, 0), (.iload 5, 0), (.ireturn, 0)] := rfl
theorem b36_4 : blk 36 4 = [(.iload 3, 0), (.iload 5, 0), (.iconst (-1), 0), (.if_icmp .eq 5, 0), (.iconst (1), 0), (.goto 6, 0)] := rfl
theorem b36_5 : blk 36 5 = [(.iconst (0), 0), (.jsr 6, 0)] := rfl
theorem b36_6 : blk 36 6 = [(.invokestatic 69, 1), (.iadd, 0), (.istore 3, 0), (.iinc 4 (1), 0), (.goto 3, 0)] := rfl
theorem b36_7 : blk 36 7 = [(.iload 2, 0), (.iconst (-1), 0), (.if_icmp .ne 8, 0), (.iload 3, 0), (.goto 9, 0)] := rfl
theorem b36_8 : blk 36 8 = [(.iconst (-1), 0), (.jsr 9, 0)] := rfl
theorem b36_9 : blk 36 9 = [(.ireturn, 0)] := rfl
/-! 37: DiceLaw.idle(I)I -/
theorem eL37 : eL (mOf 37) = 4 := rfl
theorem b37_0 : blk 37 0 = [(.iload 1, 0), (.invokestatic 57, 1), (.ifCond .ne 1, 0), (.iconst (-1), 0), (.ireturn, 0)] := rfl
theorem b37_1 : blk 37 1 = [(.iconst (0), 0), (.istore 2, 0), (.iconst (0), 0), (.istore 3, 0), (.jsr 2, 0)] := rfl
theorem b37_2 : blk 37 2 = [(.iload 3, 0), (.aload 0, 0), (.checkcast 10, 7), (.getfield 3, 2), (.if_icmp .ge 5, 0), (.iload 2, 0), (.aload 0, 0), (.checkcast 10, 7), (.checkcast 3, 7), (.iload 3, 0), (.iconst (6), 0), (.imul, 0), (.iload 1, 0), (.iadd, 0), (.invokestatic 61, 2), (.ifCond .ne 3, 0), (.iconst (1), 0), (.goto 4, 0)] := rfl
theorem b37_3 : blk 37 3 = [(.iconst (0), 0), (.jsr 4, 0)] := rfl
theorem b37_4 : blk 37 4 = [(.invokestatic 69, 1), (.iadd, 0), (.istore 2, 0), (.iinc 3 (1), 0), (.goto 2, 0)] := rfl
theorem b37_5 : blk 37 5 = [(.iload 2, 0), (.ireturn, 0)] := rfl
/-! 38: DiceLaw.suspect(IIIIII)Z -/
theorem eL38 : eL (mOf 38) = 7 := rfl
theorem b38_0 : blk 38 0 = [(.aload 0, 0), (.iload 1, 0), (.iload 2, 0), (.iload 3, 0), (.iload 4, 0), (.iload 5, 0), (.iload 6, 0), (.invokeinterface 9 7, 10), (.ifCond .ne 1, 0), (.iconst (0), 0), (.ireturn, 1)] := rfl
theorem b38_1 : blk 38 1 = [(.aload 0, 0), (.checkcast 10, 12), (.iconst (0), 0), (.aload 0, 0), (.checkcast 10, 11), (.iconst (0), 0), (.iconst (6), 0), (.invokestatic 67, 5), (.iconst (1), 0), (.ireturn, 1)] := rfl
/-! 39: DiceLaw.named(III)I -/
theorem eL39 : eL (mOf 39) = 4 := rfl
theorem b39_0 : blk 39 0 = [(.aload 0, 0), (.checkcast 10, 6), (.iload 1, 0), (.iconst (0), 0), (.invokeinterface 191 3, 0), (.ifCond .eq 1, 0), (.iload 3, 0), (.invokestatic 59, 1), (.ifCond .eq 1, 0), (.iload 2, 0), (.iconst (1), 0), (.if_icmp .lt 1, 0), (.iload 2, 0), (.iconst (15), 0), (.if_icmp .gt 1, 0), (.iload 2, 0), (.aload 0, 0), (.checkcast 10, 7), (.getfield 3, 2), (.if_icmp .le 2, 0), (.jsr 1, 0)] := rfl
theorem b39_1 : blk 39 1 = [(.iconst (-1), 0), (.ireturn, 0)] := rfl
theorem b39_2 : blk 39 2 = [(.aload 0, 0), (.iload 1, 0), (.iload 2, 0), (.iload 3, 0), (.invokeinterface 41 4, 10), (.invokestatic 69, 1), (.ireturn, 0)] := rfl
/-! 40: DiceLaw.enough(II)I -/
theorem eL40 : eL (mOf 40) = 4 := rfl
theorem b40_0 : blk 40 0 = [(.aload 0, 0), (.checkcast 10, 6), (.iload 1, 0), (.iconst (0), 0), (.invokeinterface 191 3, 0), (.ifCond .eq 1, 0), (.iload 2, 0), (.invokestatic 59, 1), (.ifCond .ne 2, 0), (.jsr 1, 0)] := rfl
theorem b40_1 : blk 40 1 = [(.iconst (-1), 0), (.ireturn, 0)] := rfl
theorem b40_2 : blk 40 2 = [(.iconst (1), 0), (.istore 3, 0), (.jsr 3, 0)] := rfl
theorem b40_3 : blk 40 3 = [(.iload 3, 0), (.iconst (15), 0), (.if_icmp .gt 5, 0), (.iload 3, 0), (.aload 0, 0), (.checkcast 10, 7), (.getfield 3, 2), (.if_icmp .gt 5, 0), (.aload 0, 0), (.iload 1, 0), (.iload 3, 0), (.iload 2, 0), (.invokeinterface 41 4, 10), (.ifCond .eq 4, 0), (.iload 3, 0), (.ireturn, 0)] := rfl
theorem b40_4 : blk 40 4 = [(.iinc 3 (1), 0), (.goto 3, 0)] := rfl
theorem b40_5 : blk 40 5 = [(.iconst (-1), 0), (.ireturn, 0)] := rfl
/-! 41: DiceLaw.isNamed(III)Z -/
theorem eL41 : eL (mOf 41) = 9 := rfl
theorem b41_0 : blk 41 0 = [(.sipush (1), 0), (.lstore 4, 0), (.iload 3, 0), (.i2l, 0), (.lstore 6, 0), (.aload 0, 0), (.checkcast 10, 7), (.getfield 3, 2), (.iload 2, 0), (.isub, 0), (.istore 8, 0), (.jsr 1, 0)] := rfl
theorem b41_1 : blk 41 1 = [(.iload 8, 0), (.aload 0, 0), (.checkcast 10, 7), (.getfield 3, 2), (.if_icmp .ge 2, 0), (.lload 4, 0), (.aload 0, 0), (.checkcast 10, 11), (.aload 0, 0), (.checkcast 10, 7), (.iload 1, 0), (.iload 8, 0), (.invokeinterface 221 3, 3), (.invokestatic 61, 2), (.i2l, 0), (.lmul, 0), (.lstore 4, 0), (.lload 6, 0), (.sipush (2), 0), (.lmul, 0), (.lstore 6, 0), (.iinc 8 (1), 0), (.goto 1, 0)] := rfl
theorem b41_2 : blk 41 2 = [(.lload 4, 0), (.lload 6, 0), (.lcmp, 0), (.ifCond .lt 3, 0), (.iconst (1), 0), (.goto 4, 0)] := rfl
theorem b41_3 : blk 41 3 = [(.iconst (0), 0), (.jsr 4, 0)] := rfl
theorem b41_4 : blk 41 4 = [(.ireturn, 1)] := rfl
/-! 42: DiceLaw.amended(IIII)J -/
theorem eL42 : eL (mOf 42) = 7 := rfl
theorem b42_0 : blk 42 0 = [(.aload 0, 0), (.checkcast 10, 6), (.iload 1, 0), (.iload 2, 0), (.invokeinterface 191 3, 0), (.ifCond .eq 1, 0), (.iload 3, 0), (.invokestatic 60, 1), (.ifCond .eq 1, 0), (.iload 4, 0), (.invokestatic 55, 1), (.ifCond .ne 2, 0), (.jsr 1, 0)] := rfl
theorem b42_1 : blk 42 1 = [(.sipush (-1000000000), 0), (.lreturn, 0)] := rfl
theorem b42_2 : blk 42 2 = [(.aload 0, 0), (.iconst (0), 0), (.iload 4, 0), (.iload 4, 0), (.invokeinterface 34 4, 10), (.lstore 5, 0), (.aload 0, 0), (.checkcast 10, 15), (.iload 1, 0), (.iload 2, 0), (.iload 3, 0), (.invokeinterface 263 4, 9), (.aload 0, 0), (.checkcast 10, 15), (.iconst (0), 0), (.invokeinterface 267 2, 9), (.aload 0, 0), (.checkcast 10, 14), (.iconst (0), 0), (.iload 4, 0), (.iload 4, 0), (.invokeinterface 196 4, 1), (.lload 5, 0), (.lsub, 0), (.lreturn, 0)] := rfl
/-! 43: DiceLaw.change(IIII)J -/
theorem eL43 : eL (mOf 43) = 7 := rfl
theorem b43_0 : blk 43 0 = [(.aload 0, 0), (.checkcast 10, 6), (.iload 1, 0), (.iload 2, 0), (.invokeinterface 191 3, 0), (.ifCond .eq 1, 0), (.aload 0, 0), (.checkcast 10, 6), (.iload 1, 0), (.iload 3, 0), (.invokeinterface 191 3, 0), (.ifCond .eq 1, 0), (.iload 2, 0), (.iload 3, 0), (.if_icmp .eq 1, 0), (.iload 4, 0), (.invokestatic 55, 1), (.ifCond .ne 2, 0), (.jsr 1, 0)] := rfl
theorem b43_1 : blk 43 1 = [(.sipush (-1000000000), 0), (.lreturn, 0)] := rfl
theorem b43_2 : blk 43 2 = [(.aload 0, 0), (.checkcast 10, 6), (.iload 1, 0), (.iload 2, 0), (.invokeinterface 193 3, 0), (.ifCond .ne 3, 0), (.sipush (-1000000000), 0), (.lreturn, 0)] := rfl
theorem b43_3 : blk 43 3 = [(.aload 0, 0), (.iconst (0), 0), (.iload 4, 0), (.iload 4, 0), (.invokeinterface 34 4, 10), (.lstore 5, 0), (.aload 0, 0), (.checkcast 10, 15), (.iload 1, 0), (.iload 2, 0), (.iload 3, 0), (.invokeinterface 264 4, 9), (.aload 0, 0), (.checkcast 10, 15), (.iconst (0), 0), (.invokeinterface 267 2, 9), (.aload 0, 0), (.checkcast 10, 14), (.iconst (0), 0), (.iload 4, 0), (.iload 4, 0), (.invokeinterface 196 4, 1), (.lload 5, 0), (.lsub, 0), (.lreturn, 0)] := rfl
/-! 44: DiceLaw.help(II)J -/
theorem eL44 : eL (mOf 44) = 15 := rfl
theorem b44_0 : blk 44 0 = [(.aload 0, 0), (.checkcast 10, 6), (.getfield 0, 0), (.ifCond .eq 1, 0), (.iload 1, 0), (.invokestatic 55, 1), (.ifCond .eq 1, 0), (.iload 2, 0), (.ifCond .lt 1, 0), (.iload 2, 0), (.iconst (1), 0), (.if_icmp .le 2, 0), (.jsr 1, 0)] := rfl
theorem b44_1 : blk 44 1 = [(.sipush (-1000000000), 0), (.lreturn, 0)] := rfl
theorem b44_2 : blk 44 2 = [(.aload 0, 0), (.iconst (0), 0), (.iload 1, 0), (.iload 1, 0), (.invokeinterface 34 4, 10), (.lstore 3, 0), (.sipush (0), 0), (.lstore 5, 0), (.iconst (-1), 0), (.istore 7, 0), (.iconst (0), 0), (.istore 8, 0), (.jsr 3, 0)] := rfl
theorem b44_3 : blk 44 3 = [(.iload 8, 0), (.aload 0, 0), (.checkcast 10, 6), (.getfield 0, 0), (.iconst (6), 0), (.imul, 0), (.if_icmp .ge 8, 0), (.iload 8, 0), (.iconst (6), 0), (.idiv, 0), (.istore 9, 0), (.iload 8, 0), (.iconst (6), 0), (.irem, 0), (.istore 10, 0), (.aload 0, 0), (.checkcast 10, 15), (.aload 0, 0), (.checkcast 10, 6), (.aload 0, 0), (.checkcast 10, 7), (.invokeinterface 262 3, 9), (.aload 0, 0), (.checkcast 10, 15), (.iload 9, 0), (.iload 10, 0), (.iconst (0), 0), (.invokeinterface 263 4, 9), (.aload 0, 0), (.checkcast 10, 15), (.iconst (0), 0), (.invokeinterface 267 2, 9), (.aload 0, 0), (.checkcast 10, 14), (.iconst (0), 0), (.iload 1, 0), (.iload 1, 0), (.invokeinterface 196 4, 1), (.lstore 11, 0), (.aload 0, 0), (.checkcast 10, 15), (.iload 9, 0), (.iload 10, 0), (.iconst (10), 0), (.iload 1, 0), (.iadd, 0), (.invokeinterface 263 4, 9), (.aload 0, 0), (.checkcast 10, 14), (.iconst (0), 0), (.iload 1, 0), (.iload 1, 0), (.invokeinterface 196 4, 1), (.lstore 13, 0), (.iload 7, 0), (.iconst (-1), 0), (.if_icmp .eq 4, 0), (.lload 11, 0), (.lload 5, 0), (.lcmp, 0), (.ifCond .gt 4, 0), (.lload 13, 0), (.lload 5, 0), (.lcmp, 0), (.ifCond .le 7, 0), (.jsr 4, 0)] := rfl
theorem b44_4 : blk 44 4 = [(.lload 11, 0), (.lload 13, 0), (.invokestatic 277, 2), (.lstore 5, 0), (.iconst (1000), 0), (.iload 9, 0), (.imul, 0), (.iconst (100), 0), (.iload 10, 0), (.imul, 0), (.iadd, 0), (.lload 11, 0), (.lload 5, 0), (.lcmp, 0), (.ifCond .ne 5, 0), (.iconst (0), 0), (.goto 6, 0)] := rfl
theorem b44_5 : blk 44 5 = [(.iconst (10), 0), (.iload 1, 0), (.iadd, 0), (.jsr 6, 0)] := rfl
theorem b44_6 : blk 44 6 = [(.iadd, 0), (.istore 7, 0), (.jsr 7, 0)] := rfl
theorem b44_7 : blk 44 7 = [(.iinc 8 (1), 0), (.goto 3, 0)] := rfl
theorem b44_8 : blk 44 8 = [(.iload 2, 0), (.ifCond .ne 9, 0), (.iload 7, 0), (.i2l, 0), (.goto 10, 0)] := rfl
theorem b44_9 : blk 44 9 = [(.lload 5, 0), (.lload 3, 0), (.lsub, 0), (.jsr 10, 0)] := rfl
theorem b44_10 : blk 44 10 = [(.lreturn, 0)] := rfl
/-! 45: DiceLaw$Tomorrow.lotSign(I)I -/
theorem eL45 : eL (mOf 45) = 2 := rfl
theorem b45_0 : blk 45 0 = [(.aload 0, 0), (.getfield 9, 4), (.ifCond .eq 1, 0), (.iload 1, 0), (.goto 2, 0)] := rfl
theorem b45_1 : blk 45 1 = [(.iload 1, 0), (.iconst (0), 0), (.invokestatic 278, 2), (.jsr 2, 0)] := rfl
theorem b45_2 : blk 45 2 = [(.ireturn, 0)] := rfl
/-! 46: DiceLaw.follow(III)I -/
theorem eL46 : eL (mOf 46) = 9 := rfl
theorem b46_0 : blk 46 0 = [(.iload 1, 0), (.ifCond .lt 1, 0), (.iload 1, 0), (.aload 0, 0), (.getfield 10, 2), (.if_icmp .ge 1, 0), (.iload 2, 0), (.invokestatic 55, 1), (.ifCond .eq 1, 0), (.iload 3, 0), (.ifCond .lt 1, 0), (.iload 3, 0), (.iconst (2), 0), (.if_icmp .le 2, 0), (.jsr 1, 0)] := rfl
theorem b46_1 : blk 46 1 = [(.iconst (-1), 0), (.ireturn, 0)] := rfl
theorem b46_2 : blk 46 2 = [(.iload 1, 0), (.aload 0, 0), (.checkcast 10, 1), (.arraylength, 0), (.if_icmp .ge 3, 0), (.aload 0, 0), (.checkcast 10, 1), (.iload 1, 0), (.aaload, 0), (.goto 4, 0)] := rfl
theorem b46_3 : blk 46 3 = [(.aconst_null, 0), (.jsr 4, 0)] := rfl
theorem b46_4 : blk 46 4 = [(.astore 4, 0), (.aload 4, 0), (.ifnonnull 5, 0), (.iconst (-1), 0), (.ireturn, 0)] := rfl
theorem b46_5 : blk 46 5 = [(.iconst (0), 0), (.istore 5, 0), (.iconst (0), 0), (.istore 6, 0), (.iconst (0), 0), (.istore 7, 0), (.jsr 6, 0)] := rfl
theorem b46_6 : blk 46 6 = [(.iload 7, 0), (.aload 0, 0), (.checkcast 10, 7), (.getfield 3, 2), (.if_icmp .ge 11, 0), (.aload 0, 0), (.iload 2, 0), (.iload 7, 0), (.iload 7, 0), (.iload 5, 0), (.isub, 0), (.invokeinterface 48 4, 10), (.aload 0, 0), (.checkcast 10, 4), (.aload 4, 0), (.aload 0, 0), (.checkcast 10, 5), (.invokeinterface 245 3, 7), (.pop, 0), (.aload 0, 0), (.checkcast 10, 4), (.getfield 7, 2), (.ifCond .le 7, 0), (.iconst (1), 0), (.goto 8, 0)] := rfl
theorem b46_7 : blk 46 7 = [(.iconst (0), 0), (.jsr 8, 0)] := rfl
theorem b46_8 : blk 46 8 = [(.istore 8, 0), (.iload 8, 0), (.ifCond .eq 9, 0), (.iload 7, 0), (.goto 10, 0)] := rfl
theorem b46_9 : blk 46 9 = [(.iload 5, 0), (.jsr 10, 0)] := rfl
theorem b46_10 : blk 46 10 = [(.istore 5, 0), (.iload 6, 0), (.aload 0, 0), (.iload 8, 0), (.iload 2, 0), (.iload 7, 0), (.iload 3, 0), (.invokeinterface 47 5, 10), (.invokestatic 69, 1), (.iadd, 0), (.istore 6, 0), (.iinc 7 (1), 0), (.goto 6, 0)] := rfl
theorem b46_11 : blk 46 11 = [(.iload 6, 0), (.ireturn, 0)] := rfl
/-! 47: DiceLaw.isFollowed(ZIII)Z -/
theorem eL47 : eL (mOf 47) = 5 := rfl
theorem b47_0 : blk 47 0 = [(.iload 4, 0), (.iconst (2), 0), (.if_icmp .ne 3, 0), (.iload 1, 0), (.ifCond .ne 1, 0), (.aload 0, 0), (.checkcast 10, 7), (.iload 3, 0), (.iload 2, 0), (.invokeinterface 226 3, 3), (.ifCond .eq 1, 0), (.iconst (1), 0), (.goto 2, 0)] := rfl
theorem b47_1 : blk 47 1 = [(.iconst (0), 0), (.jsr 2, 0)] := rfl
theorem b47_2 : blk 47 2 = [(.ireturn, 1)] := rfl
theorem b47_3 : blk 47 3 = [(.iload 1, 0), (.ifCond .eq 5, 0), (.iload 4, 0), (.ifCond .eq 4, 0), (.aload 0, 0), (.checkcast 10, 7), (.iload 3, 0), (.iload 2, 0), (.invokeinterface 225 3, 3), (.ifCond .ne 5, 0), (.jsr 4, 0)] := rfl
theorem b47_4 : blk 47 4 = [(.iconst (1), 0), (.goto 6, 0)] := rfl
theorem b47_5 : blk 47 5 = [(.iconst (0), 0), (.jsr 6, 0)] := rfl
theorem b47_6 : blk 47 6 = [(.ireturn, 1)] := rfl
/-! 48: DiceLaw.setLetters(III)V -/
theorem eL48 : eL (mOf 48) = 4 := rfl
theorem b48_0 : blk 48 0 = [(.aload 0, 0), (.checkcast 10, 5), (.iconst (0), 0), (.aload 0, 0), (.checkcast 10, 7), (.iload 2, 0), (.iload 1, 0), (.invokeinterface 225 3, 3), (.invokestatic 69, 1), (.invokestatic 63, 3), (.aload 0, 0), (.checkcast 10, 5), (.iconst (1), 0), (.aload 0, 0), (.checkcast 10, 7), (.iload 2, 0), (.iload 1, 0), (.invokeinterface 226 3, 3), (.invokestatic 69, 1), (.invokestatic 63, 3), (.aload 0, 0), (.checkcast 10, 5), (.iconst (2), 0), (.aload 0, 0), (.checkcast 10, 7), (.iload 2, 0), (.iconst (10), 0), (.iload 1, 0), (.iadd, 0), (.invokeinterface 224 3, 3), (.invokestatic 63, 3), (.aload 0, 0), (.checkcast 10, 5), (.iconst (3), 0), (.aload 0, 0), (.checkcast 10, 7), (.iload 2, 0), (.iconst (20), 0), (.iload 1, 0), (.iadd, 0), (.invokeinterface 224 3, 3), (.invokestatic 63, 3), (.aload 0, 0), (.checkcast 10, 5), (.iconst (4), 0), (.iload 3, 0), (.invokestatic 63, 3), (.aload 0, 0), (.checkcast 10, 5), (.iconst (5), 0), (.iload 2, 0), (.invokestatic 63, 3), (.return_, 0)] := rfl
/-! 49: DiceLaw.run(II)I -/
theorem eL49 : eL (mOf 49) = 7 := rfl
theorem b49_0 : blk 49 0 = [(.iload 1, 0), (.invokestatic 55, 1), (.ifCond .eq 1, 0), (.iload 2, 0), (.ifCond .lt 1, 0), (.iload 2, 0), (.iconst (1), 0), (.if_icmp .le 2, 0), (.jsr 1, 0)] := rfl
theorem b49_1 : blk 49 1 = [(.iconst (-1000000000), 0), (.ireturn, 0)] := rfl
theorem b49_2 : blk 49 2 = [(.iconst (0), 0), (.istore 3, 0), (.iconst (-1), 0), (.istore 4, 0), (.iconst (0), 0), (.istore 5, 0), (.iconst (0), 0), (.istore 6, 0), (.jsr 3, 0)] := rfl
theorem b49_3 : blk 49 3 = [(.iload 6, 0), (.aload 0, 0), (.checkcast 10, 7), (.getfield 3, 2), (.if_icmp .ge 7, 0), (.aload 0, 0), (.checkcast 10, 7), (.iload 6, 0), (.iload 1, 0), (.invokeinterface 225 3, 3), (.ifCond .eq 4, 0), (.iload 5, 0), (.iconst (1), 0), (.iadd, 0), (.goto 5, 0)] := rfl
theorem b49_4 : blk 49 4 = [(.iconst (0), 0), (.jsr 5, 0)] := rfl
theorem b49_5 : blk 49 5 = [(.istore 5, 0), (.iload 5, 0), (.iload 3, 0), (.if_icmp .le 6, 0), (.iload 5, 0), (.istore 3, 0), (.iload 6, 0), (.iload 5, 0), (.isub, 0), (.iconst (1), 0), (.iadd, 0), (.istore 4, 0), (.jsr 6, 0)] := rfl
theorem b49_6 : blk 49 6 = [(.iinc 6 (1), 0), (.goto 3, 0)] := rfl
theorem b49_7 : blk 49 7 = [(.iload 2, 0), (.ifCond .ne 8, 0), (.iload 3, 0), (.goto 9, 0)] := rfl
theorem b49_8 : blk 49 8 = [(.iload 4, 0), (.jsr 9, 0)] := rfl
theorem b49_9 : blk 49 9 = [(.ireturn, 0)] := rfl
/-! 50: DiceLaw.peace(I)I -/
theorem eL50 : eL (mOf 50) = 5 := rfl
theorem b50_0 : blk 50 0 = [(.iload 1, 0), (.ifCond .lt 1, 0), (.iload 1, 0), (.iconst (1), 0), (.if_icmp .le 2, 0), (.jsr 1, 0)] := rfl
theorem b50_1 : blk 50 1 = [(.iconst (-1000000000), 0), (.ireturn, 0)] := rfl
theorem b50_2 : blk 50 2 = [(.iconst (0), 0), (.istore 2, 0), (.iconst (-1), 0), (.istore 3, 0), (.aload 0, 0), (.checkcast 10, 7), (.getfield 3, 2), (.iconst (1), 0), (.isub, 0), (.istore 4, 0), (.jsr 3, 0)] := rfl
theorem b50_3 : blk 50 3 = [(.iload 4, 0), (.ifCond .lt 5, 0), (.aload 0, 0), (.checkcast 10, 7), (.iload 4, 0), (.invokeinterface 227 2, 3), (.ifCond .eq 4, 0), (.iinc 2 (1), 0), (.iload 4, 0), (.istore 3, 0), (.jsr 4, 0)] := rfl
theorem b50_4 : blk 50 4 = [(.iinc 4 (-1), 0), (.goto 3, 0)] := rfl
theorem b50_5 : blk 50 5 = [(.iload 1, 0), (.ifCond .ne 6, 0), (.iload 2, 0), (.goto 7, 0)] := rfl
theorem b50_6 : blk 50 6 = [(.iload 3, 0), (.jsr 7, 0)] := rfl
theorem b50_7 : blk 50 7 = [(.ireturn, 0)] := rfl
/-! 51: DiceLaw.busiest()I -/
theorem eL51 : eL (mOf 51) = 6 := rfl
theorem b51_0 : blk 51 0 = [(.iconst (-1), 0), (.istore 1, 0), (.iconst (-1), 0), (.istore 2, 0), (.iconst (0), 0), (.istore 3, 0), (.jsr 1, 0)] := rfl
theorem b51_1 : blk 51 1 = [(.iload 3, 0), (.aload 0, 0), (.checkcast 10, 7), (.getfield 3, 2), (.if_icmp .ge 5, 0), (.iconst (0), 0), (.istore 4, 0), (.iconst (0), 0), (.istore 5, 0), (.jsr 2, 0)] := rfl
theorem b51_2 : blk 51 2 = [(.iload 5, 0), (.iconst (6), 0), (.if_icmp .ge 3, 0), (.iload 4, 0), (.aload 0, 0), (.checkcast 10, 7), (.iload 3, 0), (.iload 5, 0), (.invokeinterface 226 3, 3), (.invokestatic 69, 1), (.iadd, 0), (.istore 4, 0), (.iinc 5 (1), 0), (.goto 2, 0)] := rfl
theorem b51_3 : blk 51 3 = [(.iload 4, 0), (.iload 2, 0), (.if_icmp .le 4, 0), (.iload 4, 0), (.istore 2, 0), (.iload 3, 0), (.istore 1, 0), (.jsr 4, 0)] := rfl
theorem b51_4 : blk 51 4 = [(.iinc 3 (1), 0), (.goto 1, 0)] := rfl
theorem b51_5 : blk 51 5 = [(.iload 1, 0), (.ireturn, 0)] := rfl
/-! 52: DiceLaw.image()I -/
theorem eL52 : eL (mOf 52) = 1 := rfl
theorem b52_0 : blk 52 0 = [(.aload 0, 0), (.checkcast 10, 8), (.aload 0, 0), (.checkcast 10, 6), (.invokeinterface 194 2, 0), (.aload 0, 0), (.checkcast 10, 9), (.aload 0, 0), (.checkcast 10, 7), (.invokeinterface 231 2, 3), (.aload 0, 0), (.iconst (1), 0), (.ret 10, 10), (.aload 0, 0), (.checkcast 10, 7), (.getfield 3, 2), (.ireturn, 0)] := rfl
/-! 53: DiceLaw.back()I -/
theorem eL53 : eL (mOf 53) = 1 := rfl
theorem b53_0 : blk 53 0 = [(.aload 0, 0), (.getfield 10, 10), (.ifCond .ne 1, 0), (.iconst (-1), 0), (.ireturn, 0)] := rfl
theorem b53_1 : blk 53 1 = [(.aload 0, 0), (.checkcast 10, 6), (.aload 0, 0), (.checkcast 10, 8), (.invokeinterface 194 2, 0), (.aload 0, 0), (.checkcast 10, 7), (.aload 0, 0), (.checkcast 10, 9), (.invokeinterface 231 2, 3), (.aload 0, 0), (.checkcast 10, 7), (.getfield 3, 2), (.ireturn, 0)] := rfl
/-! 54: DiceLaw.count(I)I -/
theorem eL54 : eL (mOf 54) = 2 := rfl
theorem b54_0 : blk 54 0 = [(.iload 1, 0), (.tableswitch 6 (0) (4) #[1, 2, 3, 4, 5], 0)] := rfl
theorem b54_1 : blk 54 1 = [(.aload 0, 0), (.checkcast 10, 6), (.getfield 0, 0), (.ireturn, 0)] := rfl
theorem b54_2 : blk 54 2 = [(.aload 0, 0), (.getfield 10, 2), (.ireturn, 0)] := rfl
theorem b54_3 : blk 54 3 = [(.aload 0, 0), (.checkcast 10, 0), (.getfield 8, 1), (.ireturn, 0)] := rfl
theorem b54_4 : blk 54 4 = [(.aload 0, 0), (.checkcast 10, 7), (.getfield 3, 2), (.ireturn, 0)] := rfl
theorem b54_5 : blk 54 5 = [(.aload 0, 0), (.checkcast 10, 7), (.getfield 3, 3), (.ireturn, 0)] := rfl
theorem b54_6 : blk 54 6 = [(.iconst (-1000000000), 0), (.ireturn, 0)] := rfl
/-! 55: DiceLaw.isDeed(I)Z -/
theorem eL55 : eL (mOf 55) = 1 := rfl
theorem b55_0 : blk 55 0 = [(.iload 0, 0), (.ifCond .lt 1, 0), (.iload 0, 0), (.iconst (6), 0), (.if_icmp .ge 1, 0), (.iconst (1), 0), (.goto 2, 0)] := rfl
theorem b55_1 : blk 55 1 = [(.iconst (0), 0), (.jsr 2, 0)] := rfl
theorem b55_2 : blk 55 2 = [(.ireturn, 1)] := rfl
/-! 56: DiceLaw.areTwoDeeds(II)Z -/
theorem eL56 : eL (mOf 56) = 2 := rfl
theorem b56_0 : blk 56 0 = [(.iload 0, 0), (.invokestatic 55, 1), (.ifCond .eq 1, 0), (.iload 1, 0), (.invokestatic 55, 1), (.ifCond .eq 1, 0), (.iload 0, 0), (.iload 1, 0), (.if_icmp .eq 1, 0), (.iconst (1), 0), (.goto 2, 0)] := rfl
theorem b56_1 : blk 56 1 = [(.iconst (0), 0), (.jsr 2, 0)] := rfl
theorem b56_2 : blk 56 2 = [(.ireturn, 1)] := rfl
/-! 57: DiceLaw.isPerson(I)Z -/
theorem eL57 : eL (mOf 57) = 1 := rfl
theorem b57_0 : blk 57 0 = [(.iload 0, 0), (.ifCond .lt 1, 0), (.iload 0, 0), (.iconst (6), 0), (.if_icmp .ge 1, 0), (.iconst (1), 0), (.goto 2, 0)] := rfl
theorem b57_1 : blk 57 1 = [(.iconst (0), 0), (.jsr 2, 0)] := rfl
theorem b57_2 : blk 57 2 = [(.ireturn, 1)] := rfl
/-! 58: DiceLaw.isPart(I)Z -/
theorem eL58 : eL (mOf 58) = 1 := rfl
theorem b58_0 : blk 58 0 = [(.iload 0, 0), (.ifCond .eq 1, 0), (.iload 0, 0), (.iconst (1), 0), (.if_icmp .ne 2, 0), (.jsr 1, 0)] := rfl
theorem b58_1 : blk 58 1 = [(.iconst (1), 0), (.goto 3, 0)] := rfl
theorem b58_2 : blk 58 2 = [(.iconst (0), 0), (.jsr 3, 0)] := rfl
theorem b58_3 : blk 58 3 = [(.ireturn, 1)] := rfl
/-! 59: DiceLaw.isDoubt(I)Z -/
theorem eL59 : eL (mOf 59) = 1 := rfl
theorem b59_0 : blk 59 0 = [(.iload 0, 0), (.iconst (1), 0), (.if_icmp .lt 1, 0), (.iload 0, 0), (.iconst (1000), 0), (.if_icmp .gt 1, 0), (.iconst (1), 0), (.goto 2, 0)] := rfl
theorem b59_1 : blk 59 1 = [(.iconst (0), 0), (.jsr 2, 0)] := rfl
theorem b59_2 : blk 59 2 = [(.ireturn, 1)] := rfl
/-! 60: DiceLaw.isClause(I)Z -/
theorem eL60 : eL (mOf 60) = 1 := rfl
theorem b60_0 : blk 60 0 = [(.iload 0, 0), (.ifCond .eq 1, 0), (.iload 0, 0), (.iconst (60), 0), (.if_icmp .ne 2, 0), (.jsr 1, 0)] := rfl
theorem b60_1 : blk 60 1 = [(.iconst (1), 0), (.ireturn, 1)] := rfl
theorem b60_2 : blk 60 2 = [(.iload 0, 0), (.iconst (10), 0), (.if_icmp .lt 3, 0), (.iload 0, 0), (.iconst (60), 0), (.if_icmp .le 4, 0), (.jsr 3, 0)] := rfl
theorem b60_3 : blk 60 3 = [(.iconst (0), 0), (.ireturn, 1)] := rfl
theorem b60_4 : blk 60 4 = [(.iload 0, 0), (.iconst (10), 0), (.irem, 0), (.iload 0, 0), (.iconst (40), 0), (.if_icmp .ge 5, 0), (.iconst (6), 0), (.goto 6, 0)] := rfl
theorem b60_5 : blk 60 5 = [(.iconst (5), 0), (.jsr 6, 0)] := rfl
theorem b60_6 : blk 60 6 = [(.if_icmp .ge 7, 0), (.iconst (1), 0), (.goto 8, 0)] := rfl
theorem b60_7 : blk 60 7 = [(.iconst (0), 0), (.jsr 8, 0)] := rfl
theorem b60_8 : blk 60 8 = [(.ireturn, 1)] := rfl
/-! 61: DiceLaw.at([II)I -/
theorem eL61 : eL (mOf 61) = 2 := rfl
theorem b61_0 : blk 61 0 = [(.iload 1, 0), (.ifCond .lt 1, 0), (.iload 1, 0), (.aload 0, 0), (.arraylength, 0), (.if_icmp .ge 1, 0), (.aload 0, 0), (.iload 1, 0), (.iaload, 0), (.goto 2, 0)] := rfl
theorem b61_1 : blk 61 1 = [(.iconst (0), 0), (.jsr 2, 0)] := rfl
theorem b61_2 : blk 61 2 = [(.ireturn, 0)] := rfl
/-! 62: DiceLaw.at([JI)J -/
theorem eL62 : eL (mOf 62) = 2 := rfl
theorem b62_0 : blk 62 0 = [(.iload 1, 0), (.ifCond .lt 1, 0), (.iload 1, 0), (.aload 0, 0), (.arraylength, 0), (.if_icmp .ge 1, 0), (.aload 0, 0), (.iload 1, 0), (.laload, 0), (.goto 2, 0)] := rfl
theorem b62_1 : blk 62 1 = [(.sipush (0), 0), (.jsr 2, 0)] := rfl
theorem b62_2 : blk 62 2 = [(.lreturn, 0)] := rfl
/-! 63: DiceLaw.put([III)V -/
theorem eL63 : eL (mOf 63) = 3 := rfl
theorem b63_0 : blk 63 0 = [(.iload 1, 0), (.ifCond .lt 1, 0), (.iload 1, 0), (.aload 0, 0), (.arraylength, 0), (.if_icmp .ge 1, 0), (.aload 0, 0), (.iload 1, 0), (.iload 2, 0), (.iastore, 0), (.jsr 1, 0)] := rfl
theorem b63_1 : blk 63 1 = [(.return_, 0)] := rfl
/-! 64: DiceLaw.put([JIJ)V -/
theorem eL64 : eL (mOf 64) = 4 := rfl
theorem b64_0 : blk 64 0 = [(.iload 1, 0), (.ifCond .lt 1, 0), (.iload 1, 0), (.aload 0, 0), (.arraylength, 0), (.if_icmp .ge 1, 0), (.aload 0, 0), (.iload 1, 0), (.lload 2, 0), (.lastore, 0), (.jsr 1, 0)] := rfl
theorem b64_1 : blk 64 1 = [(.return_, 0)] := rfl
/-! 65: DiceLaw.raise([JIJ)V -/
theorem eL65 : eL (mOf 65) = 4 := rfl
theorem b65_0 : blk 65 0 = [(.aload 0, 0), (.iload 1, 0), (.aload 0, 0), (.iload 1, 0), (.invokestatic 62, 2), (.lload 2, 0), (.ladd, 0), (.invokestatic 64, 3), (.return_, 0)] := rfl
/-! 66: DiceLaw.clear([JI)V -/
theorem eL66 : eL (mOf 66) = 3 := rfl
theorem b66_0 : blk 66 0 = [(.iconst (0), 0), (.istore 2, 0), (.jsr 1, 0)] := rfl
theorem b66_1 : blk 66 1 = [(.iload 2, 0), (.iload 1, 0), (.if_icmp .ge 2, 0), (.aload 0, 0), (.iload 2, 0), (.sipush (0), 0), (.invokestatic 64, 3), (.iinc 2 (1), 0), (.goto 1, 0)] := rfl
theorem b66_2 : blk 66 2 = [(.return_, 0)] := rfl
/-! 67: DiceLaw.copy([II[III)V -/
theorem eL67 : eL (mOf 67) = 6 := rfl
theorem b67_0 : blk 67 0 = [(.iconst (0), 0), (.istore 5, 0), (.jsr 1, 0)] := rfl
theorem b67_1 : blk 67 1 = [(.iload 5, 0), (.iload 4, 0), (.if_icmp .ge 2, 0), (.aload 2, 0), (.iload 3, 0), (.iload 5, 0), (.iadd, 0), (.aload 0, 0), (.iload 1, 0), (.iload 5, 0), (.iadd, 0), (.invokestatic 61, 2), (.invokestatic 63, 3), (.iinc 5 (1), 0), (.goto 1, 0)] := rfl
theorem b67_2 : blk 67 2 = [(.return_, 0)] := rfl
/-! 68: DiceLaw.copyAll([I[I)V -/
theorem eL68 : eL (mOf 68) = 2 := rfl
theorem b68_0 : blk 68 0 = [(.aload 0, 0), (.iconst (0), 0), (.aload 1, 0), (.iconst (0), 0), (.aload 1, 0), (.arraylength, 0), (.invokestatic 67, 5), (.return_, 0)] := rfl
/-! 69: DiceLaw.bit(Z)I -/
theorem eL69 : eL (mOf 69) = 1 := rfl
theorem b69_0 : blk 69 0 = [(.iload 0, 0), (.ifCond .eq 1, 0), (.iconst (1), 0), (.goto 2, 0)] := rfl
theorem b69_1 : blk 69 1 = [(.iconst (0), 0), (.jsr 2, 0)] := rfl
theorem b69_2 : blk 69 2 = [(.ireturn, 0)] := rfl
/-! 70: DiceLaw.bytesIn(I)I -/
theorem eL70 : eL (mOf 70) = 3 := rfl
theorem b70_0 : blk 70 0 = [(.iconst (0), 0), (.istore 1, 0), (.iconst (0), 0), (.istore 2, 0), (.jsr 1, 0)] := rfl
theorem b70_1 : blk 70 1 = [(.iload 2, 0), (.iconst (32), 0), (.if_icmp .ge 4, 0), (.iload 1, 0), (.iload 0, 0), (.iload 2, 0), (.iushr, 0), (.iconst (255), 0), (.iand, 0), (.ifCond .eq 2, 0), (.iconst (1), 0), (.goto 3, 0)] := rfl
theorem b70_2 : blk 70 2 = [(.iconst (0), 0), (.jsr 3, 0)] := rfl
theorem b70_3 : blk 70 3 = [(.invokestatic 69, 1), (.iadd, 0), (.istore 1, 0), (.iinc 2 (8), 0), (.goto 1, 0)] := rfl
theorem b70_4 : blk 70 4 = [(.iload 1, 0), (.ireturn, 0)] := rfl
/-! 71: DiceLaw.fraction(JJI)J -/
theorem eL71 : eL (mOf 71) = 7 := rfl
theorem b71_0 : blk 71 0 = [(.lload 2, 0), (.sipush (0), 0), (.lcmp, 0), (.ifCond .le 1, 0), (.iload 4, 0), (.invokestatic 58, 1), (.ifCond .ne 2, 0), (.jsr 1, 0)] := rfl
theorem b71_1 : blk 71 1 = [(.sipush (-1), 0), (.lreturn, 0)] := rfl
theorem b71_2 : blk 71 2 = [(.lload 2, 0), (.lload 0, 0), (.invokestatic 72, 2), (.lstore 5, 0), (.lload 5, 0), (.sipush (0), 0), (.lcmp, 0), (.ifCond .ne 3, 0), (.sipush (-1), 0), (.lreturn, 0)] := rfl
theorem b71_3 : blk 71 3 = [(.iload 4, 0), (.ifCond .ne 4, 0), (.lload 0, 0), (.goto 5, 0)] := rfl
theorem b71_4 : blk 71 4 = [(.lload 2, 0), (.jsr 5, 0)] := rfl
theorem b71_5 : blk 71 5 = [(.lload 5, 0), (.ldiv, 0), (.lreturn, 0)] := rfl
/-! 72: DiceLaw.commonDivisor(JJ)J -/
theorem eL72 : eL (mOf 72) = 11 := rfl
theorem b72_0 : blk 72 0 = [(.lload 0, 0), (.lstore 4, 0), (.lload 2, 0), (.lstore 6, 0), (.iconst (0), 0), (.istore 8, 0), (.jsr 1, 0)] := rfl
theorem b72_1 : blk 72 1 = [(.iload 8, 0), (.iconst (100), 0), (.if_icmp .ge 2, 0), (.lload 6, 0), (.sipush (0), 0), (.lcmp, 0), (.ifCond .eq 2, 0), (.lload 4, 0), (.lload 6, 0), (.lrem, 0), (.lstore 9, 0), (.lload 6, 0), (.lstore 4, 0), (.lload 9, 0), (.lstore 6, 0), (.iinc 8 (1), 0), (.goto 1, 0)] := rfl
theorem b72_2 : blk 72 2 = [(.lload 4, 0), (.lreturn, 0)] := rfl
/-! 73: DiceLaw.aimOf(II)I -/
theorem eL73 : eL (mOf 73) = 3 := rfl
theorem b73_0 : blk 73 0 = [(.iload 0, 0), (.iconst (40), 0), (.isub, 0), (.istore 2, 0), (.iload 0, 0), (.iconst (50), 0), (.if_icmp .ge 1, 0), (.iload 2, 0), (.ifCond .lt 1, 0), (.iload 2, 0), (.iload 1, 0), (.if_icmp .ge 1, 0), (.iload 2, 0), (.goto 2, 0)] := rfl
theorem b73_1 : blk 73 1 = [(.iconst (-1), 0), (.jsr 2, 0)] := rfl
theorem b73_2 : blk 73 2 = [(.ireturn, 0)] := rfl
/-! 74: DiceLaw.settled(III)I -/
theorem eL74 : eL (mOf 74) = 3 := rfl
theorem b74_0 : blk 74 0 = [(.iload 0, 0), (.iconst (60), 0), (.if_icmp .ne 1, 0), (.iload 2, 0), (.ireturn, 0)] := rfl
theorem b74_1 : blk 74 1 = [(.iload 0, 0), (.iconst (50), 0), (.if_icmp .lt 4, 0), (.iload 0, 0), (.iconst (50), 0), (.isub, 0), (.iload 1, 0), (.if_icmp .ge 2, 0), (.iload 0, 0), (.goto 3, 0)] := rfl
theorem b74_2 : blk 74 2 = [(.iconst (0), 0), (.jsr 3, 0)] := rfl
theorem b74_3 : blk 74 3 = [(.ireturn, 0)] := rfl
theorem b74_4 : blk 74 4 = [(.iload 0, 0), (.iconst (40), 0), (.if_icmp .lt 5, 0), (.iload 0, 0), (.iload 1, 0), (.invokestatic 73, 2), (.iconst (-1), 0), (.if_icmp .ne 5, 0), (.iconst (0), 0), (.goto 6, 0)] := rfl
theorem b74_5 : blk 74 5 = [(.iload 0, 0), (.jsr 6, 0)] := rfl
theorem b74_6 : blk 74 6 = [(.ireturn, 0)] := rfl
/-! 75: DiceLaw.heldBy([III)I -/
theorem eL75 : eL (mOf 75) = 6 := rfl
theorem b75_0 : blk 75 0 = [(.iload 2, 0), (.istore 3, 0), (.iconst (0), 0), (.istore 4, 0), (.jsr 1, 0)] := rfl
theorem b75_1 : blk 75 1 = [(.iload 4, 0), (.iload 1, 0), (.if_icmp .gt 5, 0), (.aload 0, 0), (.iload 3, 0), (.invokestatic 61, 2), (.istore 5, 0), (.iload 5, 0), (.iconst (50), 0), (.if_icmp .ge 4, 0), (.iload 5, 0), (.iconst (40), 0), (.if_icmp .ge 2, 0), (.iload 5, 0), (.goto 3, 0)] := rfl
theorem b75_2 : blk 75 2 = [(.iconst (0), 0), (.jsr 3, 0)] := rfl
theorem b75_3 : blk 75 3 = [(.ireturn, 0)] := rfl
theorem b75_4 : blk 75 4 = [(.iload 5, 0), (.iconst (50), 0), (.isub, 0), (.istore 3, 0), (.iinc 4 (1), 0), (.goto 1, 0)] := rfl
theorem b75_5 : blk 75 5 = [(.iconst (0), 0), (.ireturn, 0)] := rfl
/-! 76: DiceLaw.lowest([III)I -/
theorem eL76 : eL (mOf 76) = 4 := rfl
theorem b76_0 : blk 76 0 = [(.iconst (0), 0), (.istore 3, 0), (.jsr 1, 0)] := rfl
theorem b76_1 : blk 76 1 = [(.iload 3, 0), (.iload 1, 0), (.if_icmp .ge 3, 0), (.aload 0, 0), (.iload 3, 0), (.invokestatic 61, 2), (.iconst (-1), 0), (.if_icmp .eq 2, 0), (.iload 2, 0), (.iload 3, 0), (.ishr, 0), (.iconst (1), 0), (.iand, 0), (.ifCond .ne 2, 0), (.iload 3, 0), (.ireturn, 0)] := rfl
theorem b76_2 : blk 76 2 = [(.iinc 3 (1), 0), (.goto 1, 0)] := rfl
theorem b76_3 : blk 76 3 = [(.iconst (-1), 0), (.ireturn, 0)] := rfl
/-! 77: DiceLaw.byHowMany([IIII)I -/
theorem eL77 : eL (mOf 77) = 6 := rfl
theorem b77_0 : blk 77 0 = [(.iconst (0), 0), (.istore 4, 0), (.iload 1, 0), (.istore 5, 0), (.jsr 1, 0)] := rfl
theorem b77_1 : blk 77 1 = [(.iload 5, 0), (.iload 1, 0), (.iload 2, 0), (.iadd, 0), (.if_icmp .ge 3, 0), (.iload 5, 0), (.ifCond .lt 2, 0), (.iload 5, 0), (.aload 0, 0), (.arraylength, 0), (.if_icmp .ge 2, 0), (.aload 0, 0), (.iload 5, 0), (.iaload, 0), (.iload 3, 0), (.if_icmp .ne 2, 0), (.iinc 4 (1), 0), (.jsr 2, 0)] := rfl
theorem b77_2 : blk 77 2 = [(.iinc 5 (1), 0), (.goto 1, 0)] := rfl
theorem b77_3 : blk 77 3 = [(.iload 4, 0), (.ireturn, 0)] := rfl
/-! 78: DiceLaw.isLawful([IIII)Z -/
theorem eL78 : eL (mOf 78) = 5 := rfl
theorem b78_0 : blk 78 0 = [(.aload 0, 0), (.iload 1, 0), (.iload 2, 0), (.iconst (20), 0), (.iload 3, 0), (.iadd, 0), (.invokestatic 77, 4), (.istore 4, 0), (.iload 4, 0), (.ifCond .eq 1, 0), (.aload 0, 0), (.iload 1, 0), (.iload 2, 0), (.iconst (10), 0), (.iload 3, 0), (.iadd, 0), (.invokestatic 77, 4), (.iload 4, 0), (.if_icmp .le 2, 0), (.jsr 1, 0)] := rfl
theorem b78_1 : blk 78 1 = [(.iconst (1), 0), (.goto 3, 0)] := rfl
theorem b78_2 : blk 78 2 = [(.iconst (0), 0), (.jsr 3, 0)] := rfl
theorem b78_3 : blk 78 3 = [(.ireturn, 1)] := rfl
/-! 79: DiceLaw.isBound([IIII)Z -/
theorem eL79 : eL (mOf 79) = 4 := rfl
theorem b79_0 : blk 79 0 = [(.aload 0, 0), (.iload 1, 0), (.iload 2, 0), (.iconst (30), 0), (.iload 3, 0), (.iadd, 0), (.invokestatic 77, 4), (.ifCond .le 1, 0), (.aload 0, 0), (.iload 1, 0), (.iload 2, 0), (.iload 3, 0), (.invokestatic 78, 4), (.ifCond .eq 1, 0), (.iconst (1), 0), (.goto 2, 0)] := rfl
theorem b79_1 : blk 79 1 = [(.iconst (0), 0), (.jsr 2, 0)] := rfl
theorem b79_2 : blk 79 2 = [(.ireturn, 1)] := rfl
/-! 80: DiceLawModel.<init>()V -/
theorem eL80 : eL (mOf 80) = 1 := rfl
theorem b80_0 : blk 80 0 = [(.aload 0, 0), (.monitorexit, 0), (.aload 0, 0), (.iconst (120), 0), (.newarray .byte, 0), (.instanceof 11, 1), (.aload 0, 0), (.iconst (480), 0), (.newarray .byte, 0), (.instanceof 11, 2), (.aload 0, 0), (.iconst (4), 0), (.newarray .int, 0), (.instanceof 11, 3), (.aload 0, 0), (.iconst (128), 0), (.newarray .int, 0), (.instanceof 11, 4), (.aload 0, 0), (.aload 0, 0), (.checkcast 11, 1), (.instanceof 11, 5), (.aload 0, 0), (.ldc 1, 0), (.instanceof 11, 15), (.aload 0, 0), (.ldc 2, 0), (.instanceof 11, 16), (.aload 0, 0), (.iconst (30), 0), (.newarray .int, 0), (.instanceof 11, 18), (.aload 0, 0), (.iconst (6), 0), (.newarray .int, 0), (.instanceof 11, 19), (.aload 0, 0), (.iconst (30), 0), (.newarray .int, 0), (.instanceof 11, 21), (.aload 0, 0), (.iconst (6), 0), (.newarray .int, 0), (.dup, 0), (.iconst (0), 0), (.iconst (2), 0), (.iastore, 0), (.dup, 0), (.iconst (1), 0), (.iconst (2), 0), (.iastore, 0), (.dup, 0), (.iconst (2), 0), (.iconst (2), 0), (.iastore, 0), (.dup, 0), (.iconst (3), 0), (.iconst (2), 0), (.iastore, 0), (.dup, 0), (.iconst (4), 0), (.iconst (2), 0), (.iastore, 0), (.dup, 0), (.iconst (5), 0), (.iconst (2), 0), (.iastore, 0), (.instanceof 11, 22), (.aload 0, 0), (.iconst (5), 0), (.newarray .int, 0), (.instanceof 11, 23), (.aload 0, 0), (.iconst (5), 0), (.newarray .int, 0), (.instanceof 11, 24), (.aload 0, 0), (.iconst (5), 0), (.newarray .boolean, 0), (.instanceof 11, 25), (.aload 0, 0), (.iconst (200), 0), (.newarray .int, 0), (.instanceof 11, 26), (.aload 0, 0), (.iconst (200), 0), (.newarray .int, 0), (.instanceof 11, 27), (.aload 0, 0), (.iconst (40), 0), (.newarray .int, 0), (.instanceof 11, 28), (.aload 0, 0), (.iconst (40), 0), (.newarray .long, 0), (.instanceof 11, 29), (.aload 0, 0), (.iconst (7776), 0), (.newarray .long, 0), (.instanceof 11, 39), (.aload 0, 0), (.iconst (60), 0), (.newarray .int, 0), (.instanceof 11, 41), (.aload 0, 0), (.iconst (60), 0), (.newarray .int, 0), (.instanceof 11, 42), (.aload 0, 0), (.iconst (60), 0), (.newarray .int, 0), (.instanceof 11, 43), (.aload 0, 0), (.iconst (680), 0), (.newarray .int, 0), (.instanceof 11, 45), (.aload 0, 0), (.iconst (40), 0), (.newarray .long, 0), (.instanceof 11, 46), (.return_, 0)] := rfl
/-! 81: DiceLawModel.thrown()I -/
theorem eL81 : eL (mOf 81) = 1 := rfl
theorem b81_0 : blk 81 0 = [(.aload 0, 0), (.getfield 11, 0), (.ireturn, 0)] := rfl
/-! 82: DiceLawModel.isIn(JJJ)Z -/
theorem eL82 : eL (mOf 82) = 6 := rfl
theorem b82_0 : blk 82 0 = [(.lload 0, 0), (.lload 2, 0), (.lcmp, 0), (.ifCond .lt 1, 0), (.lload 0, 0), (.lload 4, 0), (.lcmp, 0), (.ifCond .gt 1, 0), (.iconst (1), 0), (.goto 2, 0)] := rfl
theorem b82_1 : blk 82 1 = [(.iconst (0), 0), (.jsr 2, 0)] := rfl
theorem b82_2 : blk 82 2 = [(.ireturn, 1)] := rfl
/-! 84: DiceLawModel.bytesIn(I)I -/
theorem eL84 : eL (mOf 84) = 3 := rfl
theorem b84_0 : blk 84 0 = [(.iconst (0), 0), (.istore 1, 0), (.iconst (24), 0), (.istore 2, 0), (.jsr 1, 0)] := rfl
theorem b84_1 : blk 84 1 = [(.iload 2, 0), (.ifCond .lt 4, 0), (.iload 1, 0), (.iload 0, 0), (.iload 2, 0), (.ishr, 0), (.iconst (255), 0), (.iand, 0), (.ifCond .eq 2, 0), (.iconst (1), 0), (.goto 3, 0)] := rfl
theorem b84_2 : blk 84 2 = [(.iconst (0), 0), (.jsr 3, 0)] := rfl
theorem b84_3 : blk 84 3 = [(.iadd, 0), (.istore 1, 0), (.iinc 2 (-8), 0), (.goto 1, 0)] := rfl
theorem b84_4 : blk 84 4 = [(.iload 1, 0), (.ireturn, 0)] := rfl
/-! 85: DiceLawModel.put(I)V -/
theorem eL85 : eL (mOf 85) = 3 := rfl
theorem b85_0 : blk 85 0 = [(.iconst (24), 0), (.istore 2, 0), (.jsr 1, 0)] := rfl
theorem b85_1 : blk 85 1 = [(.iload 2, 0), (.ifCond .lt 4, 0), (.iload 1, 0), (.iload 2, 0), (.ishr, 0), (.iconst (255), 0), (.iand, 0), (.ifCond .ne 2, 0), (.goto 3, 0)] := rfl
theorem b85_2 : blk 85 2 = [(.aload 0, 0), (.checkcast 11, 1), (.aload 0, 0), (.getfield 11, 6), (.iload 1, 0), (.iload 2, 0), (.ishr, 0), (.i2b, 0), (.bastore, 0), (.aload 0, 0), (.dup, 0), (.getfield 11, 6), (.iconst (1), 0), (.iadd, 0), (.putfield 11, 6), (.jsr 3, 0)] := rfl
theorem b85_3 : blk 85 3 = [(.iinc 2 (-8), 0), (.goto 1, 0)] := rfl
theorem b85_4 : blk 85 4 = [(.return_, 0)] := rfl
/-! 86: DiceLawModel.feed(IIIII)I -/
theorem eL86 : eL (mOf 86) = 6 := rfl
theorem b86_0 : blk 86 0 = [(.aload 0, 0), (.iconst (0), 0), (.putfield 11, 0), (.aload 0, 0), (.getfield 11, 6), (.iload 1, 0), (.invokestatic 84, 1), (.iadd, 0), (.iload 2, 0), (.invokestatic 84, 1), (.iadd, 0), (.iload 3, 0), (.invokestatic 84, 1), (.iadd, 0), (.iload 4, 0), (.invokestatic 84, 1), (.iadd, 0), (.iload 5, 0), (.invokestatic 84, 1), (.iadd, 0), (.iconst (120), 0), (.if_icmp .le 1, 0), (.iconst (-1), 0), (.ireturn, 0)] := rfl
theorem b86_1 : blk 86 1 = [(.aload 0, 0), (.iload 1, 0), (.invokeinterface 85 2, 11), (.aload 0, 0), (.iload 2, 0), (.invokeinterface 85 2, 11), (.aload 0, 0), (.iload 3, 0), (.invokeinterface 85 2, 11), (.aload 0, 0), (.iload 4, 0), (.invokeinterface 85 2, 11), (.aload 0, 0), (.iload 5, 0), (.invokeinterface 85 2, 11), (.aload 0, 0), (.getfield 11, 6), (.ireturn, 0)] := rfl
/-! 87: DiceLawModel.end(I)Z -/
theorem eL87 : eL (mOf 87) = 2 := rfl
theorem b87_0 : blk 87 0 = [(.aload 0, 0), (.iconst (0), 0), (.putfield 11, 0), (.iload 1, 0), (.ifCond .lt 1, 0), (.iload 1, 0), (.aload 0, 0), (.getfield 11, 6), (.if_icmp .le 2, 0), (.jsr 1, 0)] := rfl
theorem b87_1 : blk 87 1 = [(.iconst (0), 0), (.ireturn, 1)] := rfl
theorem b87_2 : blk 87 2 = [(.aload 0, 0), (.iload 1, 0), (.putfield 11, 6), (.iconst (1), 0), (.ireturn, 1)] := rfl
/-! 88: DiceLawModel.look()I -/
theorem eL88 : eL (mOf 88) = 1 := rfl
theorem b88_0 : blk 88 0 = [(.aload 0, 0), (.getfield 11, 10), (.aload 0, 0), (.getfield 11, 9), (.if_icmp .ge 1, 0), (.aload 0, 0), (.checkcast 11, 5), (.aload 0, 0), (.getfield 11, 8), (.aload 0, 0), (.getfield 11, 10), (.iadd, 0), (.baload, 0), (.iconst (32), 0), (.if_icmp .ne 1, 0), (.aload 0, 0), (.dup, 0), (.getfield 11, 10), (.iconst (1), 0), (.iadd, 0), (.putfield 11, 10), (.goto 0, 0)] := rfl
theorem b88_1 : blk 88 1 = [(.aload 0, 0), (.getfield 11, 10), (.aload 0, 0), (.getfield 11, 9), (.if_icmp .ge 2, 0), (.aload 0, 0), (.checkcast 11, 5), (.aload 0, 0), (.getfield 11, 8), (.aload 0, 0), (.getfield 11, 10), (.iadd, 0), (.baload, 0), (.iconst (255), 0), (.iand, 0), (.goto 3, 0)] := rfl
theorem b88_2 : blk 88 2 = [(.iconst (-1), 0), (.jsr 3, 0)] := rfl
theorem b88_3 : blk 88 3 = [(.ireturn, 0)] := rfl
/-! 89: DiceLawModel.fails()Z -/
theorem eL89 : eL (mOf 89) = 1 := rfl
theorem b89_0 : blk 89 0 = [(.aload 0, 0), (.getfield 11, 11), (.iconst (-1), 0), (.if_icmp .ne 1, 0), (.aload 0, 0), (.aload 0, 0), (.getfield 11, 10), (.putfield 11, 11), (.jsr 1, 0)] := rfl
theorem b89_1 : blk 89 1 = [(.iconst (0), 0), (.ireturn, 1)] := rfl
/-! 90: DiceLawModel.goesIn()Z -/
theorem eL90 : eL (mOf 90) = 1 := rfl
theorem b90_0 : blk 90 0 = [(.aload 0, 0), (.getfield 11, 12), (.iconst (6), 0), (.if_icmp .ne 1, 0), (.aload 0, 0), (.invokeinterface 89 1, 11), (.ireturn, 1)] := rfl
theorem b90_1 : blk 90 1 = [(.aload 0, 0), (.dup, 0), (.getfield 11, 12), (.iconst (1), 0), (.iadd, 0), (.putfield 11, 12), (.aload 0, 0), (.dup, 0), (.getfield 11, 10), (.iconst (1), 0), (.iadd, 0), (.putfield 11, 10), (.iconst (1), 0), (.ireturn, 1)] := rfl
/-! 91: DiceLawModel.takes(I)Z -/
theorem eL91 : eL (mOf 91) = 2 := rfl
theorem b91_0 : blk 91 0 = [(.aload 0, 0), (.getfield 11, 11), (.iconst (-1), 0), (.if_icmp .ne 1, 0), (.aload 0, 0), (.invokeinterface 88 1, 11), (.iload 1, 0), (.if_icmp .eq 2, 0), (.jsr 1, 0)] := rfl
theorem b91_1 : blk 91 1 = [(.aload 0, 0), (.invokeinterface 89 1, 11), (.ireturn, 1)] := rfl
theorem b91_2 : blk 91 2 = [(.aload 0, 0), (.dup, 0), (.getfield 11, 10), (.iconst (1), 0), (.iadd, 0), (.putfield 11, 10), (.iconst (1), 0), (.ireturn, 1)] := rfl
/-! 92: DiceLawModel.isDigit()Z -/
theorem eL92 : eL (mOf 92) = 1 := rfl
theorem b92_0 : blk 92 0 = [(.aload 0, 0), (.getfield 11, 10), (.aload 0, 0), (.getfield 11, 9), (.if_icmp .ge 1, 0), (.aload 0, 0), (.checkcast 11, 5), (.aload 0, 0), (.getfield 11, 8), (.aload 0, 0), (.getfield 11, 10), (.iadd, 0), (.baload, 0), (.iconst (48), 0), (.if_icmp .lt 1, 0), (.aload 0, 0), (.checkcast 11, 5), (.aload 0, 0), (.getfield 11, 8), (.aload 0, 0), (.getfield 11, 10), (.iadd, 0), (.baload, 0), (.iconst (57), 0), (.if_icmp .gt 1, 0), (.iconst (1), 0), (.goto 2, 0)] := rfl
theorem b92_1 : blk 92 1 = [(.iconst (0), 0), (.jsr 2, 0)] := rfl
theorem b92_2 : blk 92 2 = [(.ireturn, 1)] := rfl
/-! 93: DiceLawModel.within(J)I -/
theorem eL93 : eL (mOf 93) = 2 := rfl
theorem b93_0 : blk 93 0 = [(.sipush (-1000000), 0), (.sipush (1000000), 0), (.lload 0, 0), (.invokestatic 279, 2), (.invokestatic 277, 2), (.l2i, 0), (.ireturn, 0)] := rfl
/-! 94: DiceLawModel.atom()I -/
theorem eL94 : eL (mOf 94) = 4 := rfl
theorem b94_0 : blk 94 0 = [(.aload 0, 0), (.invokeinterface 88 1, 11), (.istore 1, 0), (.ldc 2, 0), (.iload 1, 0), (.invokestatic 83, 2), (.ifCond .eq 1, 0), (.aload 0, 0), (.dup, 0), (.getfield 11, 10), (.iconst (1), 0), (.iadd, 0), (.putfield 11, 10), (.aload 0, 0), (.checkcast 11, 4), (.iload 1, 0), (.iaload, 0), (.ireturn, 0)] := rfl
theorem b94_1 : blk 94 1 = [(.iload 1, 0), (.iconst (91), 0), (.if_icmp .ne 4, 0), (.aload 0, 0), (.invokeinterface 90 1, 11), (.ifCond .ne 2, 0), (.iconst (0), 0), (.ireturn, 0)] := rfl
theorem b94_2 : blk 94 2 = [(.aload 0, 0), (.invokeinterface 96 1, 11), (.istore 2, 0), (.aload 0, 0), (.iconst (93), 0), (.invokeinterface 91 2, 11), (.ifCond .ne 3, 0), (.iconst (0), 0), (.ireturn, 0)] := rfl
theorem b94_3 : blk 94 3 = [(.aload 0, 0), (.dup, 0), (.getfield 11, 12), (.iconst (1), 0), (.isub, 0), (.putfield 11, 12), (.iload 2, 0), (.ireturn, 0)] := rfl
theorem b94_4 : blk 94 4 = [(.aload 0, 0), (.invokeinterface 92 1, 11), (.ifCond .ne 5, 0), (.aload 0, 0), (.invokeinterface 89 1, 11), (.pop, 0), (.jsr 5, 0)] := rfl
theorem b94_5 : blk 94 5 = [(.iconst (0), 0), (.istore 2, 0), (.iconst (0), 0), (.istore 3, 0), (.jsr 6, 0)] := rfl
theorem b94_6 : blk 94 6 = [(.aload 0, 0), (.invokeinterface 92 1, 11), (.ifCond .eq 8, 0), (.aload 0, 0), (.getfield 11, 11), (.iconst (-1), 0), (.if_icmp .ne 8, 0), (.iload 3, 0), (.iconst (4), 0), (.if_icmp .ne 7, 0), (.aload 0, 0), (.invokeinterface 89 1, 11), (.pop, 0), (.iconst (0), 0), (.ireturn, 0)] := rfl
theorem b94_7 : blk 94 7 = [(.iconst (10), 0), (.iload 2, 0), (.imul, 0), (.aload 0, 0), (.checkcast 11, 5), (.aload 0, 0), (.getfield 11, 8), (.aload 0, 0), (.getfield 11, 10), (.iadd, 0), (.baload, 0), (.iadd, 0), (.iconst (48), 0), (.isub, 0), (.istore 2, 0), (.aload 0, 0), (.dup, 0), (.getfield 11, 10), (.iconst (1), 0), (.iadd, 0), (.putfield 11, 10), (.iinc 3 (1), 0), (.goto 6, 0)] := rfl
theorem b94_8 : blk 94 8 = [(.iload 2, 0), (.ireturn, 0)] := rfl
/-! 95: DiceLawModel.term()I -/
theorem eL95 : eL (mOf 95) = 5 := rfl
theorem b95_0 : blk 95 0 = [(.aload 0, 0), (.invokeinterface 94 1, 11), (.istore 1, 0), (.jsr 1, 0)] := rfl
theorem b95_1 : blk 95 1 = [(.aload 0, 0), (.getfield 11, 11), (.iconst (-1), 0), (.if_icmp .ne 8, 0), (.aload 0, 0), (.invokeinterface 88 1, 11), (.iconst (42), 0), (.if_icmp .eq 2, 0), (.aload 0, 0), (.invokeinterface 88 1, 11), (.iconst (47), 0), (.if_icmp .ne 8, 0), (.jsr 2, 0)] := rfl
theorem b95_2 : blk 95 2 = [(.aload 0, 0), (.invokeinterface 88 1, 11), (.iconst (42), 0), (.if_icmp .ne 3, 0), (.iconst (1), 0), (.goto 4, 0)] := rfl
theorem b95_3 : blk 95 3 = [(.iconst (0), 0), (.jsr 4, 0)] := rfl
theorem b95_4 : blk 95 4 = [(.istore 2, 0), (.aload 0, 0), (.dup, 0), (.getfield 11, 10), (.iconst (1), 0), (.iadd, 0), (.putfield 11, 10), (.aload 0, 0), (.invokeinterface 94 1, 11), (.i2l, 0), (.lstore 3, 0), (.iload 2, 0), (.ifCond .eq 5, 0), (.iload 1, 0), (.i2l, 0), (.lload 3, 0), (.lmul, 0), (.goto 7, 0)] := rfl
theorem b95_5 : blk 95 5 = [(.lload 3, 0), (.sipush (0), 0), (.lcmp, 0), (.ifCond .ne 6, 0), (.sipush (0), 0), (.goto 7, 0)] := rfl
theorem b95_6 : blk 95 6 = [(.iload 1, 0), (.i2l, 0), (.lload 3, 0), (.ldiv, 0), (.jsr 7, 0)] := rfl
theorem b95_7 : blk 95 7 = [(.invokestatic 93, 1), (.istore 1, 0), (.goto 1, 0)] := rfl
theorem b95_8 : blk 95 8 = [(.iload 1, 0), (.ireturn, 0)] := rfl
/-! 96: DiceLawModel.sum()I -/
theorem eL96 : eL (mOf 96) = 5 := rfl
theorem b96_0 : blk 96 0 = [(.aload 0, 0), (.invokeinterface 95 1, 11), (.istore 1, 0), (.jsr 1, 0)] := rfl
theorem b96_1 : blk 96 1 = [(.aload 0, 0), (.getfield 11, 11), (.iconst (-1), 0), (.if_icmp .ne 7, 0), (.aload 0, 0), (.invokeinterface 88 1, 11), (.iconst (43), 0), (.if_icmp .eq 2, 0), (.aload 0, 0), (.invokeinterface 88 1, 11), (.iconst (45), 0), (.if_icmp .ne 7, 0), (.jsr 2, 0)] := rfl
theorem b96_2 : blk 96 2 = [(.aload 0, 0), (.invokeinterface 88 1, 11), (.iconst (43), 0), (.if_icmp .ne 3, 0), (.iconst (1), 0), (.goto 4, 0)] := rfl
theorem b96_3 : blk 96 3 = [(.iconst (0), 0), (.jsr 4, 0)] := rfl
theorem b96_4 : blk 96 4 = [(.istore 2, 0), (.aload 0, 0), (.dup, 0), (.getfield 11, 10), (.iconst (1), 0), (.iadd, 0), (.putfield 11, 10), (.aload 0, 0), (.invokeinterface 95 1, 11), (.i2l, 0), (.lstore 3, 0), (.iload 2, 0), (.ifCond .eq 5, 0), (.iload 1, 0), (.i2l, 0), (.lload 3, 0), (.ladd, 0), (.goto 6, 0)] := rfl
theorem b96_5 : blk 96 5 = [(.iload 1, 0), (.i2l, 0), (.lload 3, 0), (.lsub, 0), (.jsr 6, 0)] := rfl
theorem b96_6 : blk 96 6 = [(.invokestatic 93, 1), (.istore 1, 0), (.goto 1, 0)] := rfl
theorem b96_7 : blk 96 7 = [(.iload 1, 0), (.ireturn, 0)] := rfl
/-! 97: DiceLawModel.isSign(I)Z -/
theorem eL97 : eL (mOf 97) = 1 := rfl
theorem b97_0 : blk 97 0 = [(.iload 0, 0), (.iconst (61), 0), (.if_icmp .eq 1, 0), (.iload 0, 0), (.iconst (60), 0), (.if_icmp .eq 1, 0), (.iload 0, 0), (.iconst (62), 0), (.if_icmp .ne 2, 0), (.jsr 1, 0)] := rfl
theorem b97_1 : blk 97 1 = [(.iconst (1), 0), (.goto 3, 0)] := rfl
theorem b97_2 : blk 97 2 = [(.iconst (0), 0), (.jsr 3, 0)] := rfl
theorem b97_3 : blk 97 3 = [(.ireturn, 1)] := rfl
/-! 98: DiceLawModel.compares(ZI)Z -/
theorem eL98 : eL (mOf 98) = 6 := rfl
theorem b98_0 : blk 98 0 = [(.iload 1, 0), (.ifCond .eq 1, 0), (.iload 2, 0), (.goto 2, 0)] := rfl
theorem b98_1 : blk 98 1 = [(.aload 0, 0), (.invokeinterface 96 1, 11), (.jsr 2, 0)] := rfl
theorem b98_2 : blk 98 2 = [(.istore 3, 0), (.aload 0, 0), (.getfield 11, 11), (.iconst (-1), 0), (.if_icmp .eq 3, 0), (.iconst (0), 0), (.ireturn, 1)] := rfl
theorem b98_3 : blk 98 3 = [(.aload 0, 0), (.invokeinterface 88 1, 11), (.istore 4, 0), (.iload 4, 0), (.invokestatic 97, 1), (.ifCond .ne 4, 0), (.aload 0, 0), (.invokeinterface 89 1, 11), (.ireturn, 1)] := rfl
theorem b98_4 : blk 98 4 = [(.aload 0, 0), (.dup, 0), (.getfield 11, 10), (.iconst (1), 0), (.iadd, 0), (.putfield 11, 10), (.aload 0, 0), (.invokeinterface 96 1, 11), (.istore 5, 0), (.iload 4, 0), (.iconst (61), 0), (.if_icmp .ne 6, 0), (.iload 3, 0), (.iload 5, 0), (.if_icmp .ne 5, 0), (.iconst (1), 0), (.goto 10, 0)] := rfl
theorem b98_5 : blk 98 5 = [(.iconst (0), 0), (.goto 10, 0)] := rfl
theorem b98_6 : blk 98 6 = [(.iload 4, 0), (.iconst (60), 0), (.if_icmp .ne 8, 0), (.iload 3, 0), (.iload 5, 0), (.if_icmp .ge 7, 0), (.iconst (1), 0), (.goto 10, 0)] := rfl
theorem b98_7 : blk 98 7 = [(.iconst (0), 0), (.goto 10, 0)] := rfl
theorem b98_8 : blk 98 8 = [(.iload 3, 0), (.iload 5, 0), (.if_icmp .le 9, 0), (.iconst (1), 0), (.goto 10, 0)] := rfl
theorem b98_9 : blk 98 9 = [(.iconst (0), 0), (.jsr 10, 0)] := rfl
theorem b98_10 : blk 98 10 = [(.ireturn, 1)] := rfl
/-! 99: DiceLawModel.unit()Z -/
theorem eL99 : eL (mOf 99) = 3 := rfl
theorem b99_0 : blk 99 0 = [(.aload 0, 0), (.invokeinterface 88 1, 11), (.istore 1, 0), (.iload 1, 0), (.iconst (33), 0), (.if_icmp .ne 4, 0), (.aload 0, 0), (.invokeinterface 90 1, 11), (.ifCond .ne 1, 0), (.iconst (0), 0), (.ireturn, 1)] := rfl
theorem b99_1 : blk 99 1 = [(.aload 0, 0), (.invokeinterface 99 1, 11), (.istore 2, 0), (.aload 0, 0), (.dup, 0), (.getfield 11, 12), (.iconst (1), 0), (.isub, 0), (.putfield 11, 12), (.iload 2, 0), (.ifCond .ne 2, 0), (.iconst (1), 0), (.goto 3, 0)] := rfl
theorem b99_2 : blk 99 2 = [(.iconst (0), 0), (.jsr 3, 0)] := rfl
theorem b99_3 : blk 99 3 = [(.ireturn, 1)] := rfl
theorem b99_4 : blk 99 4 = [(.iload 1, 0), (.iconst (40), 0), (.if_icmp .ne 7, 0), (.aload 0, 0), (.invokeinterface 90 1, 11), (.ifCond .ne 5, 0), (.iconst (0), 0), (.ireturn, 1)] := rfl
theorem b99_5 : blk 99 5 = [(.aload 0, 0), (.iconst (0), 0), (.iconst (0), 0), (.invokeinterface 101 3, 11), (.istore 2, 0), (.aload 0, 0), (.iconst (41), 0), (.invokeinterface 91 2, 11), (.ifCond .ne 6, 0), (.iconst (0), 0), (.ireturn, 1)] := rfl
theorem b99_6 : blk 99 6 = [(.aload 0, 0), (.dup, 0), (.getfield 11, 12), (.iconst (1), 0), (.isub, 0), (.putfield 11, 12), (.iload 2, 0), (.ireturn, 1)] := rfl
theorem b99_7 : blk 99 7 = [(.aload 0, 0), (.iconst (0), 0), (.iconst (0), 0), (.invokeinterface 98 3, 11), (.ireturn, 1)] := rfl
/-! 100: DiceLawModel.part(ZI)Z -/
theorem eL100 : eL (mOf 100) = 5 := rfl
theorem b100_0 : blk 100 0 = [(.iload 1, 0), (.ifCond .eq 1, 0), (.aload 0, 0), (.iconst (1), 0), (.iload 2, 0), (.invokeinterface 98 3, 11), (.goto 2, 0)] := rfl
theorem b100_1 : blk 100 1 = [(.aload 0, 0), (.invokeinterface 99 1, 11), (.jsr 2, 0)] := rfl
theorem b100_2 : blk 100 2 = [(.istore 3, 0), (.jsr 3, 0)] := rfl
theorem b100_3 : blk 100 3 = [(.aload 0, 0), (.getfield 11, 11), (.iconst (-1), 0), (.if_icmp .ne 6, 0), (.aload 0, 0), (.invokeinterface 88 1, 11), (.iconst (38), 0), (.if_icmp .ne 6, 0), (.aload 0, 0), (.dup, 0), (.getfield 11, 10), (.iconst (1), 0), (.iadd, 0), (.putfield 11, 10), (.aload 0, 0), (.invokeinterface 99 1, 11), (.istore 4, 0), (.iload 3, 0), (.ifCond .eq 4, 0), (.iload 4, 0), (.ifCond .eq 4, 0), (.iconst (1), 0), (.goto 5, 0)] := rfl
theorem b100_4 : blk 100 4 = [(.iconst (0), 0), (.jsr 5, 0)] := rfl
theorem b100_5 : blk 100 5 = [(.istore 3, 0), (.goto 3, 0)] := rfl
theorem b100_6 : blk 100 6 = [(.iload 3, 0), (.ireturn, 1)] := rfl
/-! 101: DiceLawModel.condition(ZI)Z -/
theorem eL101 : eL (mOf 101) = 5 := rfl
theorem b101_0 : blk 101 0 = [(.aload 0, 0), (.iload 1, 0), (.iload 2, 0), (.invokeinterface 100 3, 11), (.istore 3, 0), (.jsr 1, 0)] := rfl
theorem b101_1 : blk 101 1 = [(.aload 0, 0), (.getfield 11, 11), (.iconst (-1), 0), (.if_icmp .ne 5, 0), (.aload 0, 0), (.invokeinterface 88 1, 11), (.iconst (124), 0), (.if_icmp .ne 5, 0), (.aload 0, 0), (.dup, 0), (.getfield 11, 10), (.iconst (1), 0), (.iadd, 0), (.putfield 11, 10), (.aload 0, 0), (.iconst (0), 0), (.iconst (0), 0), (.invokeinterface 100 3, 11), (.istore 4, 0), (.iload 3, 0), (.ifCond .ne 2, 0), (.iload 4, 0), (.ifCond .eq 3, 0), (.jsr 2, 0)] := rfl
theorem b101_2 : blk 101 2 = [(.iconst (1), 0), (.goto 4, 0)] := rfl
theorem b101_3 : blk 101 3 = [(.iconst (0), 0), (.jsr 4, 0)] := rfl
theorem b101_4 : blk 101 4 = [(.istore 3, 0), (.goto 1, 0)] := rfl
theorem b101_5 : blk 101 5 = [(.iload 3, 0), (.ireturn, 1)] := rfl
/-! 102: DiceLawModel.ruleClause()V -/
theorem eL102 : eL (mOf 102) = 5 := rfl
theorem b102_0 : blk 102 0 = [(.aload 0, 0), (.invokeinterface 88 1, 11), (.istore 1, 0), (.ldc 1, 0), (.iload 1, 0), (.invokestatic 83, 2), (.ifCond .ne 1, 0), (.aload 0, 0), (.invokeinterface 89 1, 11), (.pop, 0), (.return_, 0)] := rfl
theorem b102_1 : blk 102 1 = [(.aload 0, 0), (.dup, 0), (.getfield 11, 10), (.iconst (1), 0), (.iadd, 0), (.putfield 11, 10), (.aload 0, 0), (.iconst (58), 0), (.invokeinterface 91 2, 11), (.ifCond .ne 2, 0), (.return_, 0)] := rfl
theorem b102_2 : blk 102 2 = [(.iconst (1), 0), (.istore 2, 0), (.iconst (0), 0), (.istore 3, 0), (.aload 0, 0), (.invokeinterface 88 1, 11), (.istore 4, 0), (.iload 4, 0), (.iconst (33), 0), (.if_icmp .eq 3, 0), (.iload 4, 0), (.iconst (40), 0), (.if_icmp .ne 5, 0), (.jsr 3, 0)] := rfl
theorem b102_3 : blk 102 3 = [(.aload 0, 0), (.iconst (0), 0), (.iconst (0), 0), (.invokeinterface 101 3, 11), (.istore 2, 0), (.aload 0, 0), (.iconst (63), 0), (.invokeinterface 91 2, 11), (.ifCond .ne 4, 0), (.return_, 0)] := rfl
theorem b102_4 : blk 102 4 = [(.aload 0, 0), (.invokeinterface 96 1, 11), (.istore 3, 0), (.goto 7, 0)] := rfl
theorem b102_5 : blk 102 5 = [(.aload 0, 0), (.invokeinterface 96 1, 11), (.istore 3, 0), (.aload 0, 0), (.getfield 11, 11), (.iconst (-1), 0), (.if_icmp .ne 7, 0), (.aload 0, 0), (.invokeinterface 88 1, 11), (.invokestatic 97, 1), (.ifCond .eq 7, 0), (.aload 0, 0), (.iconst (1), 0), (.iload 3, 0), (.invokeinterface 101 3, 11), (.istore 2, 0), (.aload 0, 0), (.iconst (63), 0), (.invokeinterface 91 2, 11), (.ifCond .ne 6, 0), (.return_, 0)] := rfl
theorem b102_6 : blk 102 6 = [(.aload 0, 0), (.invokeinterface 96 1, 11), (.istore 3, 0), (.jsr 7, 0)] := rfl
theorem b102_7 : blk 102 7 = [(.aload 0, 0), (.getfield 11, 11), (.iconst (-1), 0), (.if_icmp .ne 8, 0), (.aload 0, 0), (.getfield 11, 17), (.ifCond .ne 8, 0), (.iload 1, 0), (.aload 0, 0), (.getfield 11, 13), (.if_icmp .ne 8, 0), (.iload 2, 0), (.ifCond .ne 9, 0), (.jsr 8, 0)] := rfl
theorem b102_8 : blk 102 8 = [(.return_, 0)] := rfl
theorem b102_9 : blk 102 9 = [(.aload 0, 0), (.iconst (1), 0), (.ret 11, 17), (.aload 0, 0), (.iload 3, 0), (.putfield 11, 14), (.return_, 0)] := rfl
/-! 103: DiceLawModel.opens([BII)V -/
theorem eL103 : eL (mOf 103) = 4 := rfl
theorem b103_0 : blk 103 0 = [(.aload 0, 0), (.aload 1, 0), (.instanceof 11, 5), (.aload 0, 0), (.iload 2, 0), (.putfield 11, 8), (.aload 0, 0), (.iload 3, 0), (.putfield 11, 9), (.aload 0, 0), (.iconst (0), 0), (.putfield 11, 10), (.aload 0, 0), (.iconst (-1), 0), (.putfield 11, 11), (.return_, 0)] := rfl
/-! 104: DiceLawModel.goThrough([BII)V -/
theorem eL104 : eL (mOf 104) = 4 := rfl
theorem b104_0 : blk 104 0 = [(.aload 0, 0), (.aload 1, 0), (.iload 2, 0), (.iload 3, 0), (.invokeinterface 103 4, 11), (.aload 0, 0), (.iconst (121), 0), (.putfield 11, 13), (.aload 0, 0), (.iconst (0), 0), (.putfield 11, 12), (.aload 0, 0), (.iconst (0), 0), (.ret 11, 17), (.aload 0, 0), (.iconst (0), 0), (.putfield 11, 14), (.aload 0, 0), (.invokeinterface 102 1, 11), (.jsr 1, 0)] := rfl
theorem b104_1 : blk 104 1 = [(.aload 0, 0), (.getfield 11, 11), (.iconst (-1), 0), (.if_icmp .ne 2, 0), (.aload 0, 0), (.invokeinterface 88 1, 11), (.iconst (59), 0), (.if_icmp .ne 2, 0), (.aload 0, 0), (.dup, 0), (.getfield 11, 10), (.iconst (1), 0), (.iadd, 0), (.putfield 11, 10), (.aload 0, 0), (.invokeinterface 102 1, 11), (.goto 1, 0)] := rfl
theorem b104_2 : blk 104 2 = [(.aload 0, 0), (.getfield 11, 11), (.iconst (-1), 0), (.if_icmp .ne 3, 0), (.aload 0, 0), (.invokeinterface 88 1, 11), (.iconst (-1), 0), (.if_icmp .eq 3, 0), (.aload 0, 0), (.invokeinterface 89 1, 11), (.pop, 0), (.jsr 3, 0)] := rfl
theorem b104_3 : blk 104 3 = [(.return_, 0)] := rfl
/-! 105: DiceLawModel.readClause()I -/
theorem eL105 : eL (mOf 105) = 5 := rfl
theorem b105_0 : blk 105 0 = [(.aload 0, 0), (.invokeinterface 88 1, 11), (.istore 1, 0), (.iload 1, 0), (.iconst (46), 0), (.if_icmp .ne 1, 0), (.iconst (0), 0), (.goto 8, 0)] := rfl
theorem b105_1 : blk 105 1 = [(.iload 1, 0), (.iconst (109), 0), (.if_icmp .ne 2, 0), (.iconst (10), 0), (.goto 8, 0)] := rfl
theorem b105_2 : blk 105 2 = [(.iload 1, 0), (.iconst (110), 0), (.if_icmp .ne 3, 0), (.iconst (20), 0), (.goto 8, 0)] := rfl
theorem b105_3 : blk 105 3 = [(.iload 1, 0), (.iconst (111), 0), (.if_icmp .ne 4, 0), (.iconst (30), 0), (.goto 8, 0)] := rfl
theorem b105_4 : blk 105 4 = [(.iload 1, 0), (.iconst (116), 0), (.if_icmp .ne 5, 0), (.iconst (40), 0), (.goto 8, 0)] := rfl
theorem b105_5 : blk 105 5 = [(.iload 1, 0), (.iconst (99), 0), (.if_icmp .ne 6, 0), (.iconst (50), 0), (.goto 8, 0)] := rfl
theorem b105_6 : blk 105 6 = [(.iload 1, 0), (.iconst (121), 0), (.if_icmp .ne 7, 0), (.iconst (60), 0), (.goto 8, 0)] := rfl
theorem b105_7 : blk 105 7 = [(.iconst (-1), 0), (.jsr 8, 0)] := rfl
theorem b105_8 : blk 105 8 = [(.istore 2, 0), (.iload 2, 0), (.iconst (-1), 0), (.if_icmp .ne 9, 0), (.aload 0, 0), (.invokeinterface 89 1, 11), (.pop, 0), (.iconst (-1), 0), (.ireturn, 0)] := rfl
theorem b105_9 : blk 105 9 = [(.aload 0, 0), (.dup, 0), (.getfield 11, 10), (.iconst (1), 0), (.iadd, 0), (.putfield 11, 10), (.iload 2, 0), (.ifCond .eq 10, 0), (.iload 2, 0), (.iconst (60), 0), (.if_icmp .ne 11, 0), (.jsr 10, 0)] := rfl
theorem b105_10 : blk 105 10 = [(.iload 2, 0), (.ireturn, 0)] := rfl
theorem b105_11 : blk 105 11 = [(.aload 0, 0), (.invokeinterface 88 1, 11), (.istore 1, 0), (.iload 2, 0), (.iconst (30), 0), (.if_icmp .gt 12, 0), (.iconst (1), 0), (.goto 13, 0)] := rfl
theorem b105_12 : blk 105 12 = [(.iconst (0), 0), (.jsr 13, 0)] := rfl
theorem b105_13 : blk 105 13 = [(.istore 3, 0), (.iload 3, 0), (.ifCond .eq 14, 0), (.iload 1, 0), (.iconst (97), 0), (.isub, 0), (.goto 15, 0)] := rfl
theorem b105_14 : blk 105 14 = [(.iload 1, 0), (.iconst (48), 0), (.isub, 0), (.jsr 15, 0)] := rfl
theorem b105_15 : blk 105 15 = [(.istore 4, 0), (.iload 4, 0), (.i2l, 0), (.sipush (0), 0), (.iload 3, 0), (.ifCond .eq 16, 0), (.sipush (5), 0), (.goto 17, 0)] := rfl
theorem b105_16 : blk 105 16 = [(.sipush (4), 0), (.jsr 17, 0)] := rfl
theorem b105_17 : blk 105 17 = [(.invokestatic 82, 3), (.ifCond .ne 18, 0), (.aload 0, 0), (.invokeinterface 89 1, 11), (.pop, 0), (.iconst (-1), 0), (.ireturn, 0)] := rfl
theorem b105_18 : blk 105 18 = [(.aload 0, 0), (.dup, 0), (.getfield 11, 10), (.iconst (1), 0), (.iadd, 0), (.putfield 11, 10), (.iload 2, 0), (.iload 4, 0), (.iadd, 0), (.ireturn, 0)] := rfl
/-! 106: DiceLawModel.readLaw()V -/
theorem eL106 : eL (mOf 106) = 2 := rfl
theorem b106_0 : blk 106 0 = [(.aload 0, 0), (.aload 0, 0), (.checkcast 11, 1), (.iconst (0), 0), (.aload 0, 0), (.getfield 11, 6), (.invokeinterface 103 4, 11), (.iconst (0), 0), (.istore 1, 0), (.jsr 1, 0)] := rfl
theorem b106_1 : blk 106 1 = [(.iload 1, 0), (.iconst (6), 0), (.if_icmp .ge 4, 0), (.iload 1, 0), (.ifCond .le 2, 0), (.aload 0, 0), (.iconst (44), 0), (.invokeinterface 91 2, 11), (.ifCond .ne 2, 0), (.return_, 0)] := rfl
theorem b106_2 : blk 106 2 = [(.aload 0, 0), (.checkcast 11, 19), (.iload 1, 0), (.aload 0, 0), (.invokeinterface 105 1, 11), (.iastore, 0), (.aload 0, 0), (.getfield 11, 11), (.iconst (-1), 0), (.if_icmp .eq 3, 0), (.return_, 0)] := rfl
theorem b106_3 : blk 106 3 = [(.iinc 1 (1), 0), (.goto 1, 0)] := rfl
theorem b106_4 : blk 106 4 = [(.aload 0, 0), (.invokeinterface 88 1, 11), (.iconst (-1), 0), (.if_icmp .eq 5, 0), (.aload 0, 0), (.invokeinterface 89 1, 11), (.pop, 0), (.jsr 5, 0)] := rfl
theorem b106_5 : blk 106 5 = [(.return_, 0)] := rfl
/-! 107: DiceLawModel.fault(I)I -/
theorem eL107 : eL (mOf 107) = 2 := rfl
theorem b107_0 : blk 107 0 = [(.aload 0, 0), (.iconst (0), 0), (.putfield 11, 0), (.iload 1, 0), (.i2l, 0), (.sipush (0), 0), (.sipush (1), 0), (.invokestatic 82, 3), (.ifCond .ne 1, 0), (.iconst (-2), 0), (.ireturn, 0)] := rfl
theorem b107_1 : blk 107 1 = [(.iload 1, 0), (.ifCond .ne 2, 0), (.aload 0, 0), (.invokeinterface 106 1, 11), (.goto 3, 0)] := rfl
theorem b107_2 : blk 107 2 = [(.aload 0, 0), (.aload 0, 0), (.checkcast 11, 1), (.iconst (0), 0), (.aload 0, 0), (.getfield 11, 6), (.invokeinterface 104 4, 11), (.jsr 3, 0)] := rfl
theorem b107_3 : blk 107 3 = [(.aload 0, 0), (.getfield 11, 11), (.ireturn, 0)] := rfl
/-! 108: DiceLawModel.text(I)I -/
theorem eL108 : eL (mOf 108) = 4 := rfl
theorem b108_0 : blk 108 0 = [(.aload 0, 0), (.iconst (0), 0), (.putfield 11, 0), (.iload 1, 0), (.i2l, 0), (.sipush (0), 0), (.sipush (1), 0), (.invokestatic 82, 3), (.ifCond .eq 3, 0), (.iload 1, 0), (.ifCond .ne 1, 0), (.aload 0, 0), (.getfield 11, 20), (.iconst (5), 0), (.if_icmp .eq 3, 0), (.aload 0, 0), (.getfield 11, 30), (.ifCond .le 2, 0), (.goto 3, 0)] := rfl
theorem b108_1 : blk 108 1 = [(.aload 0, 0), (.getfield 11, 7), (.iconst (4), 0), (.if_icmp .eq 3, 0), (.jsr 2, 0)] := rfl
theorem b108_2 : blk 108 2 = [(.aload 0, 0), (.iload 1, 0), (.invokeinterface 107 2, 11), (.iconst (-1), 0), (.if_icmp .eq 4, 0), (.jsr 3, 0)] := rfl
theorem b108_3 : blk 108 3 = [(.iconst (-1), 0), (.ireturn, 0)] := rfl
theorem b108_4 : blk 108 4 = [(.aload 0, 0), (.getfield 11, 6), (.istore 2, 0), (.aload 0, 0), (.iconst (0), 0), (.putfield 11, 6), (.iload 1, 0), (.ifCond .ne 7, 0), (.iconst (0), 0), (.istore 3, 0), (.jsr 5, 0)] := rfl
theorem b108_5 : blk 108 5 = [(.iload 3, 0), (.iconst (6), 0), (.if_icmp .ge 6, 0), (.aload 0, 0), (.checkcast 11, 18), (.iconst (6), 0), (.aload 0, 0), (.getfield 11, 20), (.imul, 0), (.iload 3, 0), (.iadd, 0), (.aload 0, 0), (.checkcast 11, 19), (.iload 3, 0), (.iaload, 0), (.iastore, 0), (.aload 0, 0), (.checkcast 11, 21), (.iconst (6), 0), (.aload 0, 0), (.getfield 11, 20), (.imul, 0), (.iload 3, 0), (.iadd, 0), (.iconst (2), 0), (.iastore, 0), (.iinc 3 (1), 0), (.goto 5, 0)] := rfl
theorem b108_6 : blk 108 6 = [(.aload 0, 0), (.dup, 0), (.getfield 11, 20), (.iconst (1), 0), (.iadd, 0), (.putfield 11, 20), (.aload 0, 0), (.getfield 11, 20), (.iconst (1), 0), (.isub, 0), (.ireturn, 0)] := rfl
theorem b108_7 : blk 108 7 = [(.iconst (0), 0), (.istore 3, 0), (.jsr 8, 0)] := rfl
theorem b108_8 : blk 108 8 = [(.iload 3, 0), (.iload 2, 0), (.if_icmp .ge 9, 0), (.aload 0, 0), (.checkcast 11, 2), (.iconst (120), 0), (.aload 0, 0), (.getfield 11, 7), (.imul, 0), (.iload 3, 0), (.iadd, 0), (.aload 0, 0), (.checkcast 11, 1), (.iload 3, 0), (.baload, 0), (.bastore, 0), (.iinc 3 (1), 0), (.goto 8, 0)] := rfl
theorem b108_9 : blk 108 9 = [(.aload 0, 0), (.checkcast 11, 3), (.aload 0, 0), (.getfield 11, 7), (.iload 2, 0), (.iastore, 0), (.aload 0, 0), (.dup, 0), (.getfield 11, 7), (.iconst (1), 0), (.iadd, 0), (.putfield 11, 7), (.aload 0, 0), (.getfield 11, 7), (.iconst (1), 0), (.isub, 0), (.ireturn, 0)] := rfl
/-! 109: DiceLawModel.isLaw(I)Z -/
theorem eL109 : eL (mOf 109) = 2 := rfl
theorem b109_0 : blk 109 0 = [(.iload 1, 0), (.ifCond .lt 1, 0), (.iload 1, 0), (.aload 0, 0), (.getfield 11, 20), (.if_icmp .ge 1, 0), (.iconst (1), 0), (.goto 2, 0)] := rfl
theorem b109_1 : blk 109 1 = [(.iconst (0), 0), (.jsr 2, 0)] := rfl
theorem b109_2 : blk 109 2 = [(.ireturn, 1)] := rfl
/-! 110: DiceLawModel.isFace(I)Z -/
theorem eL110 : eL (mOf 110) = 1 := rfl
theorem b110_0 : blk 110 0 = [(.iload 0, 0), (.i2l, 0), (.sipush (0), 0), (.sipush (5), 0), (.invokestatic 82, 3), (.ireturn, 1)] := rfl
/-! 111: DiceLawModel.isDeed(I)Z -/
theorem eL111 : eL (mOf 111) = 1 := rfl
theorem b111_0 : blk 111 0 = [(.iload 0, 0), (.i2l, 0), (.sipush (0), 0), (.sipush (5), 0), (.invokestatic 82, 3), (.ireturn, 1)] := rfl
/-! 112: DiceLawModel.isClause(I)Z -/
theorem eL112 : eL (mOf 112) = 1 := rfl
theorem b112_0 : blk 112 0 = [(.iload 0, 0), (.ifCond .eq 2, 0), (.iload 0, 0), (.iconst (60), 0), (.if_icmp .eq 2, 0), (.iload 0, 0), (.iconst (10), 0), (.idiv, 0), (.i2l, 0), (.sipush (1), 0), (.sipush (3), 0), (.invokestatic 82, 3), (.ifCond .eq 1, 0), (.iload 0, 0), (.iconst (10), 0), (.irem, 0), (.iconst (6), 0), (.if_icmp .lt 2, 0), (.jsr 1, 0)] := rfl
theorem b112_1 : blk 112 1 = [(.iload 0, 0), (.iconst (10), 0), (.idiv, 0), (.i2l, 0), (.sipush (4), 0), (.sipush (5), 0), (.invokestatic 82, 3), (.ifCond .eq 3, 0), (.iload 0, 0), (.iconst (10), 0), (.irem, 0), (.iconst (5), 0), (.if_icmp .ge 3, 0), (.jsr 2, 0)] := rfl
theorem b112_2 : blk 112 2 = [(.iconst (1), 0), (.goto 4, 0)] := rfl
theorem b112_3 : blk 112 3 = [(.iconst (0), 0), (.jsr 4, 0)] := rfl
theorem b112_4 : blk 112 4 = [(.ireturn, 1)] := rfl
/-! 113: DiceLawModel.clause(II)I -/
theorem eL113 : eL (mOf 113) = 3 := rfl
theorem b113_0 : blk 113 0 = [(.aload 0, 0), (.aload 0, 0), (.iload 1, 0), (.invokeinterface 109 2, 11), (.ifCond .eq 1, 0), (.iload 2, 0), (.invokestatic 110, 1), (.ifCond .eq 1, 0), (.iconst (0), 0), (.goto 2, 0)] := rfl
theorem b113_1 : blk 113 1 = [(.iconst (1), 0), (.jsr 2, 0)] := rfl
theorem b113_2 : blk 113 2 = [(.putfield 11, 0), (.aload 0, 0), (.getfield 11, 0), (.ifCond .le 3, 0), (.iconst (0), 0), (.goto 4, 0)] := rfl
theorem b113_3 : blk 113 3 = [(.aload 0, 0), (.checkcast 11, 18), (.iconst (6), 0), (.iload 1, 0), (.imul, 0), (.iload 2, 0), (.iadd, 0), (.iaload, 0), (.jsr 4, 0)] := rfl
theorem b113_4 : blk 113 4 = [(.ireturn, 0)] := rfl
/-! 114: DiceLawModel.areTwelve(IIIIII)Z -/
theorem eL114 : eL (mOf 114) = 6 := rfl
theorem b114_0 : blk 114 0 = [(.iload 0, 0), (.ifCond .lt 1, 0), (.iload 1, 0), (.ifCond .lt 1, 0), (.iload 2, 0), (.ifCond .lt 1, 0), (.iload 3, 0), (.ifCond .lt 1, 0), (.iload 4, 0), (.ifCond .lt 1, 0), (.iload 5, 0), (.ifCond .lt 1, 0), (.iload 0, 0), (.iconst (12), 0), (.if_icmp .gt 1, 0), (.iload 1, 0), (.iconst (12), 0), (.if_icmp .gt 1, 0), (.iload 2, 0), (.iconst (12), 0), (.if_icmp .gt 1, 0), (.iload 3, 0), (.iconst (12), 0), (.if_icmp .gt 1, 0), (.iload 4, 0), (.iconst (12), 0), (.if_icmp .gt 1, 0), (.iload 5, 0), (.iconst (12), 0), (.if_icmp .gt 1, 0), (.iload 0, 0), (.iload 1, 0), (.iadd, 0), (.iload 2, 0), (.iadd, 0), (.iload 3, 0), (.iadd, 0), (.iload 4, 0), (.iadd, 0), (.iload 5, 0), (.iadd, 0), (.iconst (12), 0), (.if_icmp .ne 1, 0), (.iconst (1), 0), (.goto 2, 0)] := rfl
theorem b114_1 : blk 114 1 = [(.iconst (0), 0), (.jsr 2, 0)] := rfl
theorem b114_2 : blk 114 2 = [(.ireturn, 1)] := rfl
/-! 115: DiceLawModel.lay([IIIIIIII)V -/
theorem eL115 : eL (mOf 115) = 8 := rfl
theorem b115_0 : blk 115 0 = [(.aload 0, 0), (.iload 1, 0), (.iload 2, 0), (.iastore, 0), (.aload 0, 0), (.iload 1, 0), (.iconst (1), 0), (.iadd, 0), (.iload 3, 0), (.iastore, 0), (.aload 0, 0), (.iload 1, 0), (.iconst (2), 0), (.iadd, 0), (.iload 4, 0), (.iastore, 0), (.aload 0, 0), (.iload 1, 0), (.iconst (3), 0), (.iadd, 0), (.iload 5, 0), (.iastore, 0), (.aload 0, 0), (.iload 1, 0), (.iconst (4), 0), (.iadd, 0), (.iload 6, 0), (.iastore, 0), (.aload 0, 0), (.iload 1, 0), (.iconst (5), 0), (.iadd, 0), (.iload 7, 0), (.iastore, 0), (.return_, 0)] := rfl
/-! 116: DiceLawModel.weigh(IIIIIII)Z -/
theorem eL116 : eL (mOf 116) = 8 := rfl
theorem b116_0 : blk 116 0 = [(.aload 0, 0), (.iconst (0), 0), (.putfield 11, 0), (.aload 0, 0), (.iload 1, 0), (.invokeinterface 109 2, 11), (.ifCond .eq 1, 0), (.iload 2, 0), (.iload 3, 0), (.iload 4, 0), (.iload 5, 0), (.iload 6, 0), (.iload 7, 0), (.invokestatic 114, 6), (.ifCond .ne 2, 0), (.jsr 1, 0)] := rfl
theorem b116_1 : blk 116 1 = [(.iconst (0), 0), (.ireturn, 1)] := rfl
theorem b116_2 : blk 116 2 = [(.aload 0, 0), (.checkcast 11, 21), (.iconst (6), 0), (.iload 1, 0), (.imul, 0), (.iload 2, 0), (.iload 3, 0), (.iload 4, 0), (.iload 5, 0), (.iload 6, 0), (.iload 7, 0), (.invokestatic 115, 8), (.iconst (1), 0), (.ireturn, 1)] := rfl
/-! 117: DiceLawModel.weight(II)I -/
theorem eL117 : eL (mOf 117) = 3 := rfl
theorem b117_0 : blk 117 0 = [(.aload 0, 0), (.iconst (0), 0), (.putfield 11, 0), (.aload 0, 0), (.iload 1, 0), (.invokeinterface 109 2, 11), (.ifCond .eq 1, 0), (.iload 2, 0), (.invokestatic 110, 1), (.ifCond .eq 1, 0), (.aload 0, 0), (.checkcast 11, 21), (.iconst (6), 0), (.iload 1, 0), (.imul, 0), (.iload 2, 0), (.iadd, 0), (.iaload, 0), (.goto 2, 0)] := rfl
theorem b117_1 : blk 117 1 = [(.iconst (-1), 0), (.jsr 2, 0)] := rfl
theorem b117_2 : blk 117 2 = [(.ireturn, 0)] := rfl
/-! 118: DiceLawModel.suspect(IIIIII)Z -/
theorem eL118 : eL (mOf 118) = 7 := rfl
theorem b118_0 : blk 118 0 = [(.aload 0, 0), (.iconst (0), 0), (.putfield 11, 0), (.iload 1, 0), (.iload 2, 0), (.iload 3, 0), (.iload 4, 0), (.iload 5, 0), (.iload 6, 0), (.invokestatic 114, 6), (.ifCond .ne 1, 0), (.iconst (0), 0), (.ireturn, 1)] := rfl
theorem b118_1 : blk 118 1 = [(.aload 0, 0), (.checkcast 11, 22), (.iconst (0), 0), (.iload 1, 0), (.iload 2, 0), (.iload 3, 0), (.iload 4, 0), (.iload 5, 0), (.iload 6, 0), (.invokestatic 115, 8), (.iconst (1), 0), (.ireturn, 1)] := rfl
/-! 119: DiceLawModel.amend(III)Z -/
theorem eL119 : eL (mOf 119) = 4 := rfl
theorem b119_0 : blk 119 0 = [(.aload 0, 0), (.iconst (0), 0), (.putfield 11, 0), (.aload 0, 0), (.iload 1, 0), (.invokeinterface 109 2, 11), (.ifCond .eq 1, 0), (.iload 2, 0), (.invokestatic 110, 1), (.ifCond .eq 1, 0), (.iload 3, 0), (.ifCond .lt 1, 0), (.iload 3, 0), (.invokestatic 112, 1), (.ifCond .ne 2, 0), (.jsr 1, 0)] := rfl
theorem b119_1 : blk 119 1 = [(.iconst (0), 0), (.ireturn, 1)] := rfl
theorem b119_2 : blk 119 2 = [(.aload 0, 0), (.checkcast 11, 18), (.iconst (6), 0), (.iload 1, 0), (.imul, 0), (.iload 2, 0), (.iadd, 0), (.iload 3, 0), (.iastore, 0), (.iconst (1), 0), (.ireturn, 1)] := rfl
/-! 120: DiceLawModel.shown(I)I -/
theorem eL120 : eL (mOf 120) = 2 := rfl
theorem b120_0 : blk 120 0 = [(.aload 0, 0), (.checkcast 11, 18), (.iconst (6), 0), (.iload 1, 0), (.imul, 0), (.aload 0, 0), (.checkcast 11, 23), (.iload 1, 0), (.iaload, 0), (.iadd, 0), (.iaload, 0), (.ireturn, 0)] := rfl
/-! 121: DiceLawModel.heldYesterday(I)I -/
theorem eL121 : eL (mOf 121) = 2 := rfl
theorem b121_0 : blk 121 0 = [(.aload 0, 0), (.getfield 11, 30), (.ifCond .ne 1, 0), (.iconst (0), 0), (.goto 2, 0)] := rfl
theorem b121_1 : blk 121 1 = [(.aload 0, 0), (.checkcast 11, 26), (.iconst (5), 0), (.aload 0, 0), (.getfield 11, 30), (.iconst (1), 0), (.isub, 0), (.imul, 0), (.iload 1, 0), (.iadd, 0), (.iaload, 0), (.jsr 2, 0)] := rfl
theorem b121_2 : blk 121 2 = [(.ireturn, 0)] := rfl
/-! 122: DiceLawModel.holdOf(I)I -/
theorem eL122 : eL (mOf 122) = 5 := rfl
theorem b122_0 : blk 122 0 = [(.iload 1, 0), (.istore 2, 0), (.iconst (0), 0), (.istore 3, 0), (.jsr 1, 0)] := rfl
theorem b122_1 : blk 122 1 = [(.iload 3, 0), (.iconst (5), 0), (.if_icmp .gt 6, 0), (.aload 0, 0), (.iload 2, 0), (.invokeinterface 120 2, 11), (.istore 4, 0), (.iload 4, 0), (.iconst (40), 0), (.if_icmp .ge 2, 0), (.iload 4, 0), (.ireturn, 0)] := rfl
theorem b122_2 : blk 122 2 = [(.iload 4, 0), (.iconst (60), 0), (.if_icmp .ne 3, 0), (.aload 0, 0), (.iload 2, 0), (.invokeinterface 121 2, 11), (.ireturn, 0)] := rfl
theorem b122_3 : blk 122 3 = [(.iload 4, 0), (.iconst (50), 0), (.if_icmp .lt 4, 0), (.aload 0, 0), (.iload 4, 0), (.iconst (50), 0), (.isub, 0), (.invokeinterface 109 2, 11), (.ifCond .ne 5, 0), (.jsr 4, 0)] := rfl
theorem b122_4 : blk 122 4 = [(.iconst (0), 0), (.ireturn, 0)] := rfl
theorem b122_5 : blk 122 5 = [(.iload 4, 0), (.iconst (50), 0), (.isub, 0), (.istore 2, 0), (.iinc 3 (1), 0), (.goto 1, 0)] := rfl
theorem b122_6 : blk 122 6 = [(.iconst (0), 0), (.ireturn, 0)] := rfl
/-! 123: DiceLawModel.layHolds()V -/
theorem eL123 : eL (mOf 123) = 2 := rfl
theorem b123_0 : blk 123 0 = [(.iconst (0), 0), (.istore 1, 0), (.jsr 1, 0)] := rfl
theorem b123_1 : blk 123 1 = [(.iload 1, 0), (.aload 0, 0), (.getfield 11, 20), (.if_icmp .ge 2, 0), (.aload 0, 0), (.checkcast 11, 24), (.iload 1, 0), (.aload 0, 0), (.iload 1, 0), (.invokeinterface 122 2, 11), (.iastore, 0), (.iinc 1 (1), 0), (.goto 1, 0)] := rfl
theorem b123_2 : blk 123 2 = [(.return_, 0)] := rfl
/-! 124: DiceLawModel.manyOf([IIII)I -/
theorem eL124 : eL (mOf 124) = 6 := rfl
theorem b124_0 : blk 124 0 = [(.iconst (0), 0), (.istore 4, 0), (.iconst (0), 0), (.istore 5, 0), (.jsr 1, 0)] := rfl
theorem b124_1 : blk 124 1 = [(.iload 5, 0), (.iload 2, 0), (.if_icmp .ge 4, 0), (.iload 4, 0), (.aload 0, 0), (.iload 1, 0), (.iload 5, 0), (.iadd, 0), (.iaload, 0), (.iload 3, 0), (.if_icmp .ne 2, 0), (.iconst (1), 0), (.goto 3, 0)] := rfl
theorem b124_2 : blk 124 2 = [(.iconst (0), 0), (.jsr 3, 0)] := rfl
theorem b124_3 : blk 124 3 = [(.iadd, 0), (.istore 4, 0), (.iinc 5 (1), 0), (.goto 1, 0)] := rfl
theorem b124_4 : blk 124 4 = [(.iload 4, 0), (.ireturn, 0)] := rfl
/-! 125: DiceLawModel.counts([III)I -/
theorem eL125 : eL (mOf 125) = 4 := rfl
theorem b125_0 : blk 125 0 = [(.aload 1, 0), (.iload 2, 0), (.aload 0, 0), (.getfield 11, 20), (.iload 3, 0), (.invokestatic 124, 4), (.ireturn, 0)] := rfl
/-! 126: DiceLawModel.isLawfulBy([III)Z -/
theorem eL126 : eL (mOf 126) = 5 := rfl
theorem b126_0 : blk 126 0 = [(.aload 0, 0), (.aload 1, 0), (.iload 2, 0), (.iconst (20), 0), (.iload 3, 0), (.iadd, 0), (.invokeinterface 125 4, 11), (.istore 4, 0), (.iload 4, 0), (.ifCond .eq 1, 0), (.aload 0, 0), (.aload 1, 0), (.iload 2, 0), (.iconst (10), 0), (.iload 3, 0), (.iadd, 0), (.invokeinterface 125 4, 11), (.iload 4, 0), (.if_icmp .le 2, 0), (.jsr 1, 0)] := rfl
theorem b126_1 : blk 126 1 = [(.iconst (1), 0), (.goto 3, 0)] := rfl
theorem b126_2 : blk 126 2 = [(.iconst (0), 0), (.jsr 3, 0)] := rfl
theorem b126_3 : blk 126 3 = [(.ireturn, 1)] := rfl
/-! 127: DiceLawModel.isMustBy([III)Z -/
theorem eL127 : eL (mOf 127) = 4 := rfl
theorem b127_0 : blk 127 0 = [(.aload 0, 0), (.aload 1, 0), (.iload 2, 0), (.iconst (30), 0), (.iload 3, 0), (.iadd, 0), (.invokeinterface 125 4, 11), (.ifCond .le 1, 0), (.aload 0, 0), (.aload 1, 0), (.iload 2, 0), (.iload 3, 0), (.invokeinterface 126 4, 11), (.ifCond .eq 1, 0), (.iconst (1), 0), (.goto 2, 0)] := rfl
theorem b127_1 : blk 127 1 = [(.iconst (0), 0), (.jsr 2, 0)] := rfl
theorem b127_2 : blk 127 2 = [(.ireturn, 1)] := rfl
/-! 128: DiceLawModel.thrower()I -/
theorem eL128 : eL (mOf 128) = 3 := rfl
theorem b128_0 : blk 128 0 = [(.iconst (0), 0), (.istore 1, 0), (.jsr 1, 0)] := rfl
theorem b128_1 : blk 128 1 = [(.iload 1, 0), (.aload 0, 0), (.getfield 11, 20), (.if_icmp .ge 3, 0), (.aload 0, 0), (.iload 1, 0), (.invokeinterface 120 2, 11), (.istore 2, 0), (.iload 2, 0), (.iconst (40), 0), (.if_icmp .lt 2, 0), (.iload 2, 0), (.iconst (50), 0), (.if_icmp .ge 2, 0), (.aload 0, 0), (.iload 2, 0), (.iconst (40), 0), (.isub, 0), (.invokeinterface 109 2, 11), (.ifCond .eq 2, 0), (.aload 0, 0), (.checkcast 11, 25), (.iload 1, 0), (.baload, 0), (.ifCond .ne 2, 0), (.iload 1, 0), (.ireturn, 0)] := rfl
theorem b128_2 : blk 128 2 = [(.iinc 1 (1), 0), (.goto 1, 0)] := rfl
theorem b128_3 : blk 128 3 = [(.iconst (-1), 0), (.ireturn, 0)] := rfl
/-! 129: DiceLawModel.seed(J)V -/
theorem eL129 : eL (mOf 129) = 3 := rfl
theorem b129_0 : blk 129 0 = [(.aload 0, 0), (.iconst (0), 0), (.putfield 11, 0), (.aload 0, 0), (.lload 1, 0), (.putstatic 11, 31), (.return_, 0)] := rfl
/-! 130: DiceLawModel.throwDie(I)V -/
theorem eL130 : eL (mOf 130) = 5 := rfl
theorem b130_0 : blk 130 0 = [(.aload 0, 0), (.aload 0, 0), (.getstatic 11, 31), (.sipush (6364136223846793005), 0), (.lmul, 0), (.sipush (1442695040888963407), 0), (.ladd, 0), (.putstatic 11, 31), (.aload 0, 0), (.getstatic 11, 31), (.iconst (33), 0), (.lushr, 0), (.sipush (12), 0), (.lrem, 0), (.l2i, 0), (.istore 2, 0), (.iconst (0), 0), (.istore 3, 0), (.aload 0, 0), (.checkcast 11, 21), (.iconst (6), 0), (.iload 1, 0), (.imul, 0), (.iaload, 0), (.istore 4, 0), (.jsr 1, 0)] := rfl
theorem b130_1 : blk 130 1 = [(.iload 4, 0), (.iload 2, 0), (.if_icmp .gt 2, 0), (.iinc 3 (1), 0), (.iload 4, 0), (.aload 0, 0), (.checkcast 11, 21), (.iconst (6), 0), (.iload 1, 0), (.imul, 0), (.iload 3, 0), (.iadd, 0), (.iaload, 0), (.iadd, 0), (.istore 4, 0), (.goto 1, 0)] := rfl
theorem b130_2 : blk 130 2 = [(.aload 0, 0), (.checkcast 11, 23), (.iload 1, 0), (.iload 3, 0), (.iastore, 0), (.aload 0, 0), (.checkcast 11, 25), (.iload 1, 0), (.iconst (0), 0), (.bastore, 0), (.return_, 0)] := rfl
/-! 131: DiceLawModel.keepDawn(IJ)I -/
theorem eL131 : eL (mOf 131) = 5 := rfl
theorem b131_0 : blk 131 0 = [(.aload 0, 0), (.invokeinterface 123 1, 11), (.iconst (0), 0), (.istore 4, 0), (.jsr 1, 0)] := rfl
theorem b131_1 : blk 131 1 = [(.iload 4, 0), (.aload 0, 0), (.getfield 11, 20), (.if_icmp .ge 2, 0), (.aload 0, 0), (.checkcast 11, 27), (.iconst (5), 0), (.aload 0, 0), (.getfield 11, 30), (.imul, 0), (.iload 4, 0), (.iadd, 0), (.aload 0, 0), (.checkcast 11, 23), (.iload 4, 0), (.iaload, 0), (.iastore, 0), (.aload 0, 0), (.checkcast 11, 26), (.iconst (5), 0), (.aload 0, 0), (.getfield 11, 30), (.imul, 0), (.iload 4, 0), (.iadd, 0), (.aload 0, 0), (.checkcast 11, 24), (.iload 4, 0), (.iaload, 0), (.iastore, 0), (.iinc 4 (1), 0), (.goto 1, 0)] := rfl
theorem b131_2 : blk 131 2 = [(.aload 0, 0), (.checkcast 11, 28), (.aload 0, 0), (.getfield 11, 30), (.iload 1, 0), (.iastore, 0), (.aload 0, 0), (.checkcast 11, 29), (.aload 0, 0), (.getfield 11, 30), (.lload 2, 0), (.lastore, 0), (.aload 0, 0), (.dup, 0), (.getfield 11, 30), (.iconst (1), 0), (.iadd, 0), (.putfield 11, 30), (.aload 0, 0), (.getfield 11, 30), (.ireturn, 0)] := rfl
/-! 132: DiceLawModel.dawn()I -/
theorem eL132 : eL (mOf 132) = 6 := rfl
theorem b132_0 : blk 132 0 = [(.aload 0, 0), (.iconst (0), 0), (.putfield 11, 0), (.aload 0, 0), (.getfield 11, 20), (.ifCond .eq 1, 0), (.aload 0, 0), (.getfield 11, 30), (.iconst (40), 0), (.if_icmp .ne 2, 0), (.jsr 1, 0)] := rfl
theorem b132_1 : blk 132 1 = [(.iconst (-1), 0), (.ireturn, 0)] := rfl
theorem b132_2 : blk 132 2 = [(.aload 0, 0), (.getstatic 11, 31), (.lstore 1, 0), (.iconst (0), 0), (.istore 3, 0), (.jsr 3, 0)] := rfl
theorem b132_3 : blk 132 3 = [(.iload 3, 0), (.aload 0, 0), (.getfield 11, 20), (.if_icmp .ge 4, 0), (.aload 0, 0), (.iload 3, 0), (.invokeinterface 130 2, 11), (.iinc 3 (1), 0), (.goto 3, 0)] := rfl
theorem b132_4 : blk 132 4 = [(.iconst (0), 0), (.istore 3, 0), (.aload 0, 0), (.invokeinterface 128 1, 11), (.istore 4, 0), (.jsr 5, 0)] := rfl
theorem b132_5 : blk 132 5 = [(.iload 3, 0), (.iconst (3), 0), (.if_icmp .ge 6, 0), (.iload 4, 0), (.iconst (-1), 0), (.if_icmp .eq 6, 0), (.aload 0, 0), (.iload 4, 0), (.invokeinterface 120 2, 11), (.iconst (40), 0), (.isub, 0), (.istore 5, 0), (.aload 0, 0), (.checkcast 11, 25), (.iload 4, 0), (.iconst (1), 0), (.bastore, 0), (.aload 0, 0), (.iload 5, 0), (.invokeinterface 130 2, 11), (.iinc 3 (1), 0), (.aload 0, 0), (.invokeinterface 128 1, 11), (.istore 4, 0), (.goto 5, 0)] := rfl
theorem b132_6 : blk 132 6 = [(.aload 0, 0), (.iload 3, 0), (.lload 1, 0), (.invokeinterface 131 3, 11), (.ireturn, 0)] := rfl
/-! 133: DiceLawModel.told(I)I -/
theorem eL133 : eL (mOf 133) = 4 := rfl
theorem b133_0 : blk 133 0 = [(.aload 0, 0), (.iconst (0), 0), (.putfield 11, 0), (.aload 0, 0), (.getfield 11, 20), (.ifCond .eq 1, 0), (.aload 0, 0), (.getfield 11, 30), (.iconst (40), 0), (.if_icmp .eq 1, 0), (.iload 1, 0), (.ifCond .ge 2, 0), (.jsr 1, 0)] := rfl
theorem b133_1 : blk 133 1 = [(.iconst (-1), 0), (.ireturn, 0)] := rfl
theorem b133_2 : blk 133 2 = [(.iload 1, 0), (.istore 2, 0), (.aload 0, 0), (.getfield 11, 20), (.iconst (1), 0), (.isub, 0), (.istore 3, 0), (.jsr 3, 0)] := rfl
theorem b133_3 : blk 133 3 = [(.iload 3, 0), (.ifCond .lt 4, 0), (.aload 0, 0), (.checkcast 11, 23), (.iload 3, 0), (.iload 2, 0), (.iconst (6), 0), (.irem, 0), (.iastore, 0), (.iload 2, 0), (.iconst (6), 0), (.idiv, 0), (.istore 2, 0), (.iinc 3 (-1), 0), (.goto 3, 0)] := rfl
theorem b133_4 : blk 133 4 = [(.iload 2, 0), (.ifCond .eq 5, 0), (.iconst (-1), 0), (.goto 6, 0)] := rfl
theorem b133_5 : blk 133 5 = [(.aload 0, 0), (.iconst (0), 0), (.aload 0, 0), (.getstatic 11, 31), (.invokeinterface 131 3, 11), (.jsr 6, 0)] := rfl
theorem b133_6 : blk 133 6 = [(.ireturn, 0)] := rfl
/-! 134: DiceLawModel.undo()I -/
theorem eL134 : eL (mOf 134) = 3 := rfl
theorem b134_0 : blk 134 0 = [(.aload 0, 0), (.iconst (0), 0), (.putfield 11, 0), (.aload 0, 0), (.getfield 11, 30), (.ifCond .ne 1, 0), (.iconst (-1), 0), (.ireturn, 0)] := rfl
theorem b134_1 : blk 134 1 = [(.aload 0, 0), (.dup, 0), (.getfield 11, 30), (.iconst (1), 0), (.isub, 0), (.putfield 11, 30), (.aload 0, 0), (.aload 0, 0), (.checkcast 11, 29), (.aload 0, 0), (.getfield 11, 30), (.laload, 0), (.putstatic 11, 31), (.iconst (0), 0), (.istore 1, 0), (.iconst (0), 0), (.istore 2, 0), (.jsr 2, 0)] := rfl
theorem b134_2 : blk 134 2 = [(.iload 2, 0), (.aload 0, 0), (.getfield 11, 44), (.if_icmp .ge 5, 0), (.aload 0, 0), (.checkcast 11, 43), (.iload 2, 0), (.iaload, 0), (.aload 0, 0), (.getfield 11, 30), (.if_icmp .ne 3, 0), (.goto 4, 0)] := rfl
theorem b134_3 : blk 134 3 = [(.aload 0, 0), (.checkcast 11, 41), (.iload 1, 0), (.aload 0, 0), (.checkcast 11, 41), (.iload 2, 0), (.iaload, 0), (.iastore, 0), (.aload 0, 0), (.checkcast 11, 42), (.iload 1, 0), (.aload 0, 0), (.checkcast 11, 42), (.iload 2, 0), (.iaload, 0), (.iastore, 0), (.aload 0, 0), (.checkcast 11, 43), (.iload 1, 0), (.aload 0, 0), (.checkcast 11, 43), (.iload 2, 0), (.iaload, 0), (.iastore, 0), (.iinc 1 (1), 0), (.jsr 4, 0)] := rfl
theorem b134_4 : blk 134 4 = [(.iinc 2 (1), 0), (.goto 2, 0)] := rfl
theorem b134_5 : blk 134 5 = [(.aload 0, 0), (.iload 1, 0), (.putfield 11, 44), (.aload 0, 0), (.getfield 11, 30), (.ireturn, 0)] := rfl
/-! 135: DiceLawModel.isDay(I)Z -/
theorem eL135 : eL (mOf 135) = 2 := rfl
theorem b135_0 : blk 135 0 = [(.iload 1, 0), (.ifCond .lt 1, 0), (.iload 1, 0), (.aload 0, 0), (.getfield 11, 30), (.if_icmp .ge 1, 0), (.iconst (1), 0), (.goto 2, 0)] := rfl
theorem b135_1 : blk 135 1 = [(.iconst (0), 0), (.jsr 2, 0)] := rfl
theorem b135_2 : blk 135 2 = [(.ireturn, 1)] := rfl
/-! 136: DiceLawModel.day(II)I -/
theorem eL136 : eL (mOf 136) = 5 := rfl
theorem b136_0 : blk 136 0 = [(.aload 0, 0), (.iconst (0), 0), (.putfield 11, 0), (.aload 0, 0), (.iload 1, 0), (.invokeinterface 135 2, 11), (.ifCond .eq 1, 0), (.iload 2, 0), (.i2l, 0), (.sipush (0), 0), (.sipush (1), 0), (.invokestatic 82, 3), (.ifCond .ne 2, 0), (.jsr 1, 0)] := rfl
theorem b136_1 : blk 136 1 = [(.iconst (-1), 0), (.ireturn, 0)] := rfl
theorem b136_2 : blk 136 2 = [(.iconst (0), 0), (.istore 3, 0), (.iconst (0), 0), (.istore 4, 0), (.jsr 3, 0)] := rfl
theorem b136_3 : blk 136 3 = [(.iload 4, 0), (.aload 0, 0), (.getfield 11, 20), (.if_icmp .ge 4, 0), (.iconst (6), 0), (.iload 3, 0), (.imul, 0), (.aload 0, 0), (.checkcast 11, 27), (.iconst (5), 0), (.iload 1, 0), (.imul, 0), (.iload 4, 0), (.iadd, 0), (.iaload, 0), (.iadd, 0), (.istore 3, 0), (.iinc 4 (1), 0), (.goto 3, 0)] := rfl
theorem b136_4 : blk 136 4 = [(.iload 2, 0), (.ifCond .ne 5, 0), (.iload 3, 0), (.goto 6, 0)] := rfl
theorem b136_5 : blk 136 5 = [(.aload 0, 0), (.checkcast 11, 28), (.iload 1, 0), (.iaload, 0), (.jsr 6, 0)] := rfl
theorem b136_6 : blk 136 6 = [(.ireturn, 0)] := rfl
/-! 137: DiceLawModel.held(II)I -/
theorem eL137 : eL (mOf 137) = 3 := rfl
theorem b137_0 : blk 137 0 = [(.aload 0, 0), (.iconst (0), 0), (.putfield 11, 0), (.aload 0, 0), (.iload 1, 0), (.invokeinterface 109 2, 11), (.ifCond .eq 1, 0), (.aload 0, 0), (.iload 2, 0), (.invokeinterface 135 2, 11), (.ifCond .eq 1, 0), (.aload 0, 0), (.checkcast 11, 26), (.iconst (5), 0), (.iload 2, 0), (.imul, 0), (.iload 1, 0), (.iadd, 0), (.iaload, 0), (.goto 2, 0)] := rfl
theorem b137_1 : blk 137 1 = [(.iconst (-1), 0), (.jsr 2, 0)] := rfl
theorem b137_2 : blk 137 2 = [(.ireturn, 0)] := rfl
/-! 138: DiceLawModel.isLawful(II)Z -/
theorem eL138 : eL (mOf 138) = 3 := rfl
theorem b138_0 : blk 138 0 = [(.aload 0, 0), (.aload 0, 0), (.checkcast 11, 26), (.iconst (5), 0), (.iload 2, 0), (.imul, 0), (.iload 1, 0), (.invokeinterface 126 4, 11), (.ireturn, 1)] := rfl
/-! 139: DiceLawModel.isDue(II)Z -/
theorem eL139 : eL (mOf 139) = 3 := rfl
theorem b139_0 : blk 139 0 = [(.aload 0, 0), (.aload 0, 0), (.checkcast 11, 26), (.iconst (5), 0), (.iload 2, 0), (.imul, 0), (.iload 1, 0), (.invokeinterface 127 4, 11), (.ireturn, 1)] := rfl
/-! 140: DiceLawModel.deed(III)I -/
theorem eL140 : eL (mOf 140) = 4 := rfl
theorem b140_0 : blk 140 0 = [(.aload 0, 0), (.iconst (0), 0), (.putfield 11, 0), (.iload 1, 0), (.invokestatic 111, 1), (.ifCond .eq 1, 0), (.aload 0, 0), (.iload 2, 0), (.invokeinterface 135 2, 11), (.ifCond .eq 1, 0), (.iload 3, 0), (.i2l, 0), (.sipush (0), 0), (.sipush (4), 0), (.invokestatic 82, 3), (.ifCond .ne 2, 0), (.jsr 1, 0)] := rfl
theorem b140_1 : blk 140 1 = [(.iconst (-1), 0), (.ireturn, 0)] := rfl
theorem b140_2 : blk 140 2 = [(.iload 3, 0), (.tableswitch 11 (0) (3) #[3, 6, 9, 10], 0)] := rfl
theorem b140_3 : blk 140 3 = [(.aload 0, 0), (.iload 1, 0), (.iload 2, 0), (.invokeinterface 138 3, 11), (.ifCond .eq 4, 0), (.iconst (1), 0), (.goto 5, 0)] := rfl
theorem b140_4 : blk 140 4 = [(.iconst (0), 0), (.jsr 5, 0)] := rfl
theorem b140_5 : blk 140 5 = [(.ireturn, 0)] := rfl
theorem b140_6 : blk 140 6 = [(.aload 0, 0), (.iload 1, 0), (.iload 2, 0), (.invokeinterface 139 3, 11), (.ifCond .eq 7, 0), (.iconst (1), 0), (.goto 8, 0)] := rfl
theorem b140_7 : blk 140 7 = [(.iconst (0), 0), (.jsr 8, 0)] := rfl
theorem b140_8 : blk 140 8 = [(.ireturn, 0)] := rfl
theorem b140_9 : blk 140 9 = [(.aload 0, 0), (.aload 0, 0), (.checkcast 11, 26), (.iconst (5), 0), (.iload 2, 0), (.imul, 0), (.iconst (10), 0), (.iload 1, 0), (.iadd, 0), (.invokeinterface 125 4, 11), (.ireturn, 0)] := rfl
theorem b140_10 : blk 140 10 = [(.aload 0, 0), (.aload 0, 0), (.checkcast 11, 26), (.iconst (5), 0), (.iload 2, 0), (.imul, 0), (.iconst (20), 0), (.iload 1, 0), (.iadd, 0), (.invokeinterface 125 4, 11), (.ireturn, 0)] := rfl
theorem b140_11 : blk 140 11 = [(.aload 0, 0), (.aload 0, 0), (.checkcast 11, 26), (.iconst (5), 0), (.iload 2, 0), (.imul, 0), (.iconst (30), 0), (.iload 1, 0), (.iadd, 0), (.invokeinterface 125 4, 11), (.ireturn, 0)] := rfl
/-! 141: DiceLawModel.isSo(I)Z -/
theorem eL141 : eL (mOf 141) = 3 := rfl
theorem b141_0 : blk 141 0 = [(.aload 0, 0), (.getfield 11, 32), (.tableswitch 26 (0) (10) #[1, 2, 3, 6, 9, 13, 16, 26, 19, 22, 25], 0)] := rfl
theorem b141_1 : blk 141 1 = [(.aload 0, 0), (.aload 0, 0), (.checkcast 11, 24), (.iconst (0), 0), (.aload 0, 0), (.getfield 11, 33), (.invokeinterface 126 4, 11), (.ireturn, 1)] := rfl
theorem b141_2 : blk 141 2 = [(.aload 0, 0), (.aload 0, 0), (.checkcast 11, 24), (.iconst (0), 0), (.aload 0, 0), (.getfield 11, 33), (.invokeinterface 127 4, 11), (.ireturn, 1)] := rfl
theorem b141_3 : blk 141 3 = [(.aload 0, 0), (.aload 0, 0), (.checkcast 11, 24), (.iconst (0), 0), (.iconst (20), 0), (.aload 0, 0), (.getfield 11, 33), (.iadd, 0), (.invokeinterface 125 4, 11), (.ifCond .le 4, 0), (.iconst (1), 0), (.goto 5, 0)] := rfl
theorem b141_4 : blk 141 4 = [(.iconst (0), 0), (.jsr 5, 0)] := rfl
theorem b141_5 : blk 141 5 = [(.ireturn, 1)] := rfl
theorem b141_6 : blk 141 6 = [(.aload 0, 0), (.aload 0, 0), (.checkcast 11, 24), (.iconst (0), 0), (.aload 0, 0), (.getfield 11, 33), (.invokeinterface 126 4, 11), (.ifCond .eq 7, 0), (.aload 0, 0), (.aload 0, 0), (.checkcast 11, 24), (.iconst (0), 0), (.aload 0, 0), (.getfield 11, 34), (.invokeinterface 126 4, 11), (.ifCond .eq 7, 0), (.iconst (1), 0), (.goto 8, 0)] := rfl
theorem b141_7 : blk 141 7 = [(.iconst (0), 0), (.jsr 8, 0)] := rfl
theorem b141_8 : blk 141 8 = [(.ireturn, 1)] := rfl
theorem b141_9 : blk 141 9 = [(.iconst (0), 0), (.istore 2, 0), (.jsr 10, 0)] := rfl
theorem b141_10 : blk 141 10 = [(.iload 2, 0), (.aload 0, 0), (.getfield 11, 20), (.if_icmp .ge 12, 0), (.aload 0, 0), (.checkcast 11, 24), (.iload 2, 0), (.iaload, 0), (.iconst (20), 0), (.if_icmp .lt 11, 0), (.aload 0, 0), (.checkcast 11, 24), (.iload 2, 0), (.iaload, 0), (.iconst (30), 0), (.if_icmp .ge 11, 0), (.iconst (0), 0), (.ireturn, 1)] := rfl
theorem b141_11 : blk 141 11 = [(.iinc 2 (1), 0), (.goto 10, 0)] := rfl
theorem b141_12 : blk 141 12 = [(.iconst (1), 0), (.ireturn, 1)] := rfl
theorem b141_13 : blk 141 13 = [(.aload 0, 0), (.checkcast 11, 24), (.aload 0, 0), (.getfield 11, 33), (.iaload, 0), (.aload 0, 0), (.getfield 11, 34), (.if_icmp .ne 14, 0), (.iconst (1), 0), (.goto 15, 0)] := rfl
theorem b141_14 : blk 141 14 = [(.iconst (0), 0), (.jsr 15, 0)] := rfl
theorem b141_15 : blk 141 15 = [(.ireturn, 1)] := rfl
theorem b141_16 : blk 141 16 = [(.iload 1, 0), (.aload 0, 0), (.getfield 11, 33), (.if_icmp .ne 17, 0), (.iconst (1), 0), (.goto 18, 0)] := rfl
theorem b141_17 : blk 141 17 = [(.iconst (0), 0), (.jsr 18, 0)] := rfl
theorem b141_18 : blk 141 18 = [(.ireturn, 1)] := rfl
theorem b141_19 : blk 141 19 = [(.aload 0, 0), (.checkcast 11, 23), (.aload 0, 0), (.getfield 11, 33), (.iaload, 0), (.aload 0, 0), (.getfield 11, 34), (.if_icmp .ne 20, 0), (.iconst (1), 0), (.goto 21, 0)] := rfl
theorem b141_20 : blk 141 20 = [(.iconst (0), 0), (.jsr 21, 0)] := rfl
theorem b141_21 : blk 141 21 = [(.ireturn, 1)] := rfl
theorem b141_22 : blk 141 22 = [(.aload 0, 0), (.checkcast 11, 23), (.aload 0, 0), (.getfield 11, 33), (.iaload, 0), (.aload 0, 0), (.getfield 11, 34), (.if_icmp .ne 23, 0), (.aload 0, 0), (.aload 0, 0), (.checkcast 11, 24), (.iconst (0), 0), (.aload 0, 0), (.getfield 11, 35), (.invokeinterface 126 4, 11), (.ifCond .eq 23, 0), (.iconst (1), 0), (.goto 24, 0)] := rfl
theorem b141_23 : blk 141 23 = [(.iconst (0), 0), (.jsr 24, 0)] := rfl
theorem b141_24 : blk 141 24 = [(.ireturn, 1)] := rfl
theorem b141_25 : blk 141 25 = [(.iconst (1), 0), (.ireturn, 1)] := rfl
theorem b141_26 : blk 141 26 = [(.iconst (0), 0), (.istore 2, 0), (.jsr 27, 0)] := rfl
theorem b141_27 : blk 141 27 = [(.iload 2, 0), (.iconst (6), 0), (.if_icmp .ge 30, 0), (.aload 0, 0), (.aload 0, 0), (.checkcast 11, 24), (.iconst (0), 0), (.iload 2, 0), (.invokeinterface 126 4, 11), (.ifCond .eq 28, 0), (.aload 0, 0), (.dup, 0), (.getfield 11, 37), (.iconst (1), 0), (.iload 2, 0), (.ishl, 0), (.iconst (-1), 0), (.ixor, 0), (.iand, 0), (.putfield 11, 37), (.goto 29, 0)] := rfl
theorem b141_28 : blk 141 28 = [(.aload 0, 0), (.dup, 0), (.getfield 11, 36), (.iconst (1), 0), (.iload 2, 0), (.ishl, 0), (.iconst (-1), 0), (.ixor, 0), (.iand, 0), (.putfield 11, 36), (.jsr 29, 0)] := rfl
theorem b141_29 : blk 141 29 = [(.iinc 2 (1), 0), (.goto 27, 0)] := rfl
theorem b141_30 : blk 141 30 = [(.iconst (1), 0), (.ireturn, 1)] := rfl
/-! 142: DiceLawModel.facesNow()I -/
theorem eL142 : eL (mOf 142) = 3 := rfl
theorem b142_0 : blk 142 0 = [(.iconst (0), 0), (.istore 1, 0), (.iconst (0), 0), (.istore 2, 0), (.jsr 1, 0)] := rfl
theorem b142_1 : blk 142 1 = [(.iload 2, 0), (.aload 0, 0), (.getfield 11, 20), (.if_icmp .ge 2, 0), (.iconst (6), 0), (.iload 1, 0), (.imul, 0), (.aload 0, 0), (.checkcast 11, 23), (.iload 2, 0), (.iaload, 0), (.iadd, 0), (.istore 1, 0), (.iinc 2 (1), 0), (.goto 1, 0)] := rfl
theorem b142_2 : blk 142 2 = [(.iload 1, 0), (.ireturn, 0)] := rfl
/-! 143: DiceLawModel.fall(IJ)V -/
theorem eL143 : eL (mOf 143) = 10 := rfl
theorem b143_0 : blk 143 0 = [(.iload 1, 0), (.iconst (3), 0), (.if_icmp .ge 1, 0), (.aload 0, 0), (.invokeinterface 128 1, 11), (.goto 2, 0)] := rfl
theorem b143_1 : blk 143 1 = [(.iconst (-1), 0), (.jsr 2, 0)] := rfl
theorem b143_2 : blk 143 2 = [(.istore 4, 0), (.iload 4, 0), (.iconst (-1), 0), (.if_icmp .ne 8, 0), (.aload 0, 0), (.invokeinterface 123 1, 11), (.lload 2, 0), (.lstore 5, 0), (.iload 1, 0), (.istore 7, 0), (.jsr 3, 0)] := rfl
theorem b143_3 : blk 143 3 = [(.iload 7, 0), (.iconst (3), 0), (.if_icmp .ge 4, 0), (.lload 5, 0), (.sipush (12), 0), (.lmul, 0), (.lstore 5, 0), (.iinc 7 (1), 0), (.goto 3, 0)] := rfl
theorem b143_4 : blk 143 4 = [(.aload 0, 0), (.iload 1, 0), (.invokeinterface 141 2, 11), (.ifCond .eq 5, 0), (.aload 0, 0), (.dup, 0), (.getstatic 11, 38), (.lload 5, 0), (.ladd, 0), (.putstatic 11, 38), (.jsr 5, 0)] := rfl
theorem b143_5 : blk 143 5 = [(.aload 0, 0), (.getfield 11, 32), (.iconst (10), 0), (.if_icmp .ne 6, 0), (.aload 0, 0), (.checkcast 11, 39), (.aload 0, 0), (.invokeinterface 142 1, 11), (.dup2, 0), (.laload, 0), (.lload 5, 0), (.ladd, 0), (.lastore, 0), (.jsr 6, 0)] := rfl
theorem b143_6 : blk 143 6 = [(.aload 0, 0), (.getfield 11, 32), (.iconst (10), 0), (.if_icmp .ne 7, 0), (.aload 0, 0), (.dup, 0), (.getstatic 11, 40), (.lload 5, 0), (.iload 1, 0), (.i2l, 0), (.lmul, 0), (.ladd, 0), (.putstatic 11, 40), (.jsr 7, 0)] := rfl
theorem b143_7 : blk 143 7 = [(.return_, 0)] := rfl
theorem b143_8 : blk 143 8 = [(.aload 0, 0), (.iload 4, 0), (.invokeinterface 120 2, 11), (.iconst (40), 0), (.isub, 0), (.istore 5, 0), (.aload 0, 0), (.checkcast 11, 23), (.iload 5, 0), (.iaload, 0), (.istore 6, 0), (.aload 0, 0), (.checkcast 11, 25), (.iload 4, 0), (.baload, 0), (.istore 7, 0), (.aload 0, 0), (.checkcast 11, 25), (.iload 5, 0), (.baload, 0), (.istore 8, 0), (.iconst (0), 0), (.istore 9, 0), (.jsr 9, 0)] := rfl
theorem b143_9 : blk 143 9 = [(.iload 9, 0), (.iconst (6), 0), (.if_icmp .ge 12, 0), (.aload 0, 0), (.checkcast 11, 21), (.iconst (6), 0), (.iload 5, 0), (.imul, 0), (.iload 9, 0), (.iadd, 0), (.iaload, 0), (.ifCond .ne 10, 0), (.goto 11, 0)] := rfl
theorem b143_10 : blk 143 10 = [(.aload 0, 0), (.checkcast 11, 25), (.iload 4, 0), (.iconst (1), 0), (.bastore, 0), (.aload 0, 0), (.checkcast 11, 25), (.iload 5, 0), (.iconst (0), 0), (.bastore, 0), (.aload 0, 0), (.checkcast 11, 23), (.iload 5, 0), (.iload 9, 0), (.iastore, 0), (.aload 0, 0), (.iload 1, 0), (.iconst (1), 0), (.iadd, 0), (.lload 2, 0), (.aload 0, 0), (.checkcast 11, 21), (.iconst (6), 0), (.iload 5, 0), (.imul, 0), (.iload 9, 0), (.iadd, 0), (.iaload, 0), (.i2l, 0), (.lmul, 0), (.invokeinterface 143 3, 11), (.aload 0, 0), (.checkcast 11, 23), (.iload 5, 0), (.iload 6, 0), (.iastore, 0), (.aload 0, 0), (.checkcast 11, 25), (.iload 5, 0), (.iload 8, 0), (.bastore, 0), (.aload 0, 0), (.checkcast 11, 25), (.iload 4, 0), (.iload 7, 0), (.bastore, 0), (.jsr 11, 0)] := rfl
theorem b143_11 : blk 143 11 = [(.iinc 9 (1), 0), (.goto 9, 0)] := rfl
theorem b143_12 : blk 143 12 = [(.return_, 0)] := rfl
/-! 144: DiceLawModel.throwAll(IJ)V -/
theorem eL144 : eL (mOf 144) = 5 := rfl
theorem b144_0 : blk 144 0 = [(.iload 1, 0), (.aload 0, 0), (.getfield 11, 20), (.if_icmp .ne 1, 0), (.aload 0, 0), (.iconst (0), 0), (.lload 2, 0), (.invokeinterface 143 3, 11), (.return_, 0)] := rfl
theorem b144_1 : blk 144 1 = [(.iconst (0), 0), (.istore 4, 0), (.jsr 2, 0)] := rfl
theorem b144_2 : blk 144 2 = [(.iload 4, 0), (.iconst (6), 0), (.if_icmp .ge 5, 0), (.aload 0, 0), (.checkcast 11, 21), (.iconst (6), 0), (.iload 1, 0), (.imul, 0), (.iload 4, 0), (.iadd, 0), (.iaload, 0), (.ifCond .ne 3, 0), (.goto 4, 0)] := rfl
theorem b144_3 : blk 144 3 = [(.aload 0, 0), (.checkcast 11, 23), (.iload 1, 0), (.iload 4, 0), (.iastore, 0), (.aload 0, 0), (.checkcast 11, 25), (.iload 1, 0), (.iconst (0), 0), (.bastore, 0), (.aload 0, 0), (.iload 1, 0), (.iconst (1), 0), (.iadd, 0), (.lload 2, 0), (.aload 0, 0), (.checkcast 11, 21), (.iconst (6), 0), (.iload 1, 0), (.imul, 0), (.iload 4, 0), (.iadd, 0), (.iaload, 0), (.i2l, 0), (.lmul, 0), (.invokeinterface 144 3, 11), (.jsr 4, 0)] := rfl
theorem b144_4 : blk 144 4 = [(.iinc 4 (1), 0), (.goto 2, 0)] := rfl
theorem b144_5 : blk 144 5 = [(.return_, 0)] := rfl
/-! 145: DiceLawModel.tallyOf(III)J -/
theorem eL145 : eL (mOf 145) = 4 := rfl
theorem b145_0 : blk 145 0 = [(.aload 0, 0), (.iload 1, 0), (.putfield 11, 32), (.aload 0, 0), (.iload 2, 0), (.putfield 11, 33), (.aload 0, 0), (.iload 3, 0), (.putfield 11, 34), (.aload 0, 0), (.sipush (0), 0), (.putstatic 11, 38), (.aload 0, 0), (.iconst (0), 0), (.sipush (1), 0), (.invokeinterface 144 3, 11), (.aload 0, 0), (.getstatic 11, 38), (.lreturn, 0)] := rfl
/-! 146: DiceLawModel.whole()J -/
theorem eL146 : eL (mOf 146) = 4 := rfl
theorem b146_0 : blk 146 0 = [(.sipush (1), 0), (.lstore 1, 0), (.iconst (0), 0), (.istore 3, 0), (.jsr 1, 0)] := rfl
theorem b146_1 : blk 146 1 = [(.iload 3, 0), (.aload 0, 0), (.getfield 11, 20), (.iconst (3), 0), (.iadd, 0), (.if_icmp .ge 2, 0), (.lload 1, 0), (.sipush (12), 0), (.lmul, 0), (.lstore 1, 0), (.iinc 3 (1), 0), (.goto 1, 0)] := rfl
theorem b146_2 : blk 146 2 = [(.lload 1, 0), (.lreturn, 0)] := rfl
/-! 147: DiceLawModel.partOf(JI)J -/
theorem eL147 : eL (mOf 147) = 4 := rfl
theorem b147_0 : blk 147 0 = [(.lload 1, 0), (.aload 0, 0), (.invokeinterface 146 1, 11), (.iload 3, 0), (.invokestatic 148, 3), (.lreturn, 0)] := rfl
/-! 148: DiceLawModel.partBy(JJI)J -/
theorem eL148 : eL (mOf 148) = 11 := rfl
theorem b148_0 : blk 148 0 = [(.lload 0, 0), (.lstore 5, 0), (.lload 2, 0), (.lstore 7, 0), (.jsr 1, 0)] := rfl
theorem b148_1 : blk 148 1 = [(.lload 7, 0), (.sipush (0), 0), (.lcmp, 0), (.ifCond .eq 2, 0), (.lload 5, 0), (.lload 7, 0), (.lrem, 0), (.lstore 9, 0), (.lload 7, 0), (.lstore 5, 0), (.lload 9, 0), (.lstore 7, 0), (.goto 1, 0)] := rfl
theorem b148_2 : blk 148 2 = [(.iload 4, 0), (.ifCond .ne 3, 0), (.lload 0, 0), (.lload 5, 0), (.ldiv, 0), (.goto 4, 0)] := rfl
theorem b148_3 : blk 148 3 = [(.lload 2, 0), (.lload 5, 0), (.ldiv, 0), (.jsr 4, 0)] := rfl
theorem b148_4 : blk 148 4 = [(.lreturn, 0)] := rfl
/-! 149: DiceLawModel.isPart(I)Z -/
theorem eL149 : eL (mOf 149) = 2 := rfl
theorem b149_0 : blk 149 0 = [(.aload 0, 0), (.getfield 11, 20), (.ifCond .le 1, 0), (.iload 1, 0), (.i2l, 0), (.sipush (0), 0), (.sipush (1), 0), (.invokestatic 82, 3), (.ifCond .eq 1, 0), (.iconst (1), 0), (.goto 2, 0)] := rfl
theorem b149_1 : blk 149 1 = [(.iconst (0), 0), (.jsr 2, 0)] := rfl
theorem b149_2 : blk 149 2 = [(.ireturn, 1)] := rfl
/-! 150: DiceLawModel.odds(III)J -/
theorem eL150 : eL (mOf 150) = 4 := rfl
theorem b150_0 : blk 150 0 = [(.aload 0, 0), (.iconst (0), 0), (.putfield 11, 0), (.aload 0, 0), (.iload 3, 0), (.invokeinterface 149 2, 11), (.ifCond .eq 1, 0), (.iload 1, 0), (.invokestatic 111, 1), (.ifCond .eq 1, 0), (.iload 2, 0), (.i2l, 0), (.sipush (0), 0), (.sipush (2), 0), (.invokestatic 82, 3), (.ifCond .eq 1, 0), (.aload 0, 0), (.aload 0, 0), (.iload 2, 0), (.iload 1, 0), (.iconst (0), 0), (.invokeinterface 145 4, 11), (.iload 3, 0), (.invokeinterface 147 3, 11), (.goto 2, 0)] := rfl
theorem b150_1 : blk 150 1 = [(.sipush (-1), 0), (.jsr 2, 0)] := rfl
theorem b150_2 : blk 150 2 = [(.lreturn, 0)] := rfl
/-! 151: DiceLawModel.both(III)J -/
theorem eL151 : eL (mOf 151) = 4 := rfl
theorem b151_0 : blk 151 0 = [(.aload 0, 0), (.iconst (0), 0), (.putfield 11, 0), (.aload 0, 0), (.iload 3, 0), (.invokeinterface 149 2, 11), (.ifCond .eq 1, 0), (.iload 1, 0), (.invokestatic 111, 1), (.ifCond .eq 1, 0), (.iload 2, 0), (.invokestatic 111, 1), (.ifCond .eq 1, 0), (.iload 1, 0), (.iload 2, 0), (.if_icmp .eq 1, 0), (.aload 0, 0), (.aload 0, 0), (.iconst (3), 0), (.iload 1, 0), (.iload 2, 0), (.invokeinterface 145 4, 11), (.iload 3, 0), (.invokeinterface 147 3, 11), (.goto 2, 0)] := rfl
theorem b151_1 : blk 151 1 = [(.sipush (-1), 0), (.jsr 2, 0)] := rfl
theorem b151_2 : blk 151 2 = [(.lreturn, 0)] := rfl
/-! 152: DiceLawModel.free(I)J -/
theorem eL152 : eL (mOf 152) = 2 := rfl
theorem b152_0 : blk 152 0 = [(.aload 0, 0), (.iconst (0), 0), (.putfield 11, 0), (.aload 0, 0), (.iload 1, 0), (.invokeinterface 149 2, 11), (.ifCond .eq 1, 0), (.aload 0, 0), (.aload 0, 0), (.iconst (4), 0), (.iconst (0), 0), (.iconst (0), 0), (.invokeinterface 145 4, 11), (.iload 1, 0), (.invokeinterface 147 3, 11), (.goto 2, 0)] := rfl
theorem b152_1 : blk 152 1 = [(.sipush (-1), 0), (.jsr 2, 0)] := rfl
theorem b152_2 : blk 152 2 = [(.lreturn, 0)] := rfl
/-! 153: DiceLawModel.holds(III)J -/
theorem eL153 : eL (mOf 153) = 4 := rfl
theorem b153_0 : blk 153 0 = [(.aload 0, 0), (.iconst (0), 0), (.putfield 11, 0), (.aload 0, 0), (.iload 3, 0), (.invokeinterface 149 2, 11), (.ifCond .eq 1, 0), (.aload 0, 0), (.iload 1, 0), (.invokeinterface 109 2, 11), (.ifCond .eq 1, 0), (.iload 2, 0), (.ifCond .lt 1, 0), (.iload 2, 0), (.iconst (40), 0), (.if_icmp .ge 1, 0), (.iload 2, 0), (.invokestatic 112, 1), (.ifCond .ne 2, 0), (.jsr 1, 0)] := rfl
theorem b153_1 : blk 153 1 = [(.sipush (-1), 0), (.lreturn, 0)] := rfl
theorem b153_2 : blk 153 2 = [(.aload 0, 0), (.aload 0, 0), (.iconst (5), 0), (.iload 1, 0), (.iload 2, 0), (.invokeinterface 145 4, 11), (.iload 3, 0), (.invokeinterface 147 3, 11), (.lreturn, 0)] := rfl
/-! 154: DiceLawModel.again(II)J -/
theorem eL154 : eL (mOf 154) = 3 := rfl
theorem b154_0 : blk 154 0 = [(.aload 0, 0), (.iconst (0), 0), (.putfield 11, 0), (.aload 0, 0), (.iload 2, 0), (.invokeinterface 149 2, 11), (.ifCond .eq 1, 0), (.iload 1, 0), (.i2l, 0), (.sipush (0), 0), (.sipush (3), 0), (.invokestatic 82, 3), (.ifCond .eq 1, 0), (.aload 0, 0), (.aload 0, 0), (.iconst (6), 0), (.iload 1, 0), (.iconst (0), 0), (.invokeinterface 145 4, 11), (.iload 2, 0), (.invokeinterface 147 3, 11), (.goto 2, 0)] := rfl
theorem b154_1 : blk 154 1 = [(.sipush (-1), 0), (.jsr 2, 0)] := rfl
theorem b154_2 : blk 154 2 = [(.lreturn, 0)] := rfl
/-! 155: DiceLawModel.sure(I)I -/
theorem eL155 : eL (mOf 155) = 4 := rfl
theorem b155_0 : blk 155 0 = [(.aload 0, 0), (.iconst (0), 0), (.putfield 11, 0), (.aload 0, 0), (.getfield 11, 20), (.ifCond .eq 1, 0), (.iload 1, 0), (.i2l, 0), (.sipush (0), 0), (.sipush (1), 0), (.invokestatic 82, 3), (.ifCond .ne 2, 0), (.jsr 1, 0)] := rfl
theorem b155_1 : blk 155 1 = [(.iconst (-1), 0), (.ireturn, 0)] := rfl
theorem b155_2 : blk 155 2 = [(.aload 0, 0), (.iconst (63), 0), (.putfield 11, 36), (.aload 0, 0), (.aload 0, 0), (.getfield 11, 36), (.putfield 11, 37), (.aload 0, 0), (.iconst (7), 0), (.iconst (0), 0), (.iconst (0), 0), (.invokeinterface 145 4, 11), (.lstore 2, 0), (.iload 1, 0), (.ifCond .ne 3, 0), (.aload 0, 0), (.getfield 11, 36), (.goto 4, 0)] := rfl
theorem b155_3 : blk 155 3 = [(.aload 0, 0), (.getfield 11, 37), (.jsr 4, 0)] := rfl
theorem b155_4 : blk 155 4 = [(.ireturn, 0)] := rfl
/-! 156: DiceLawModel.isWait(II)Z -/
theorem eL156 : eL (mOf 156) = 3 := rfl
theorem b156_0 : blk 156 0 = [(.aload 0, 0), (.getfield 11, 20), (.ifCond .le 1, 0), (.iload 1, 0), (.invokestatic 111, 1), (.ifCond .eq 1, 0), (.iload 2, 0), (.i2l, 0), (.sipush (1), 0), (.sipush (60), 0), (.invokestatic 82, 3), (.ifCond .eq 1, 0), (.iconst (1), 0), (.goto 2, 0)] := rfl
theorem b156_1 : blk 156 1 = [(.iconst (0), 0), (.jsr 2, 0)] := rfl
theorem b156_2 : blk 156 2 = [(.ireturn, 1)] := rfl
/-! 157: DiceLawModel.waits(II)I -/
theorem eL157 : eL (mOf 157) = 8 := rfl
theorem b157_0 : blk 157 0 = [(.aload 0, 0), (.iconst (0), 0), (.putfield 11, 0), (.aload 0, 0), (.iload 1, 0), (.iload 2, 0), (.invokeinterface 156 3, 11), (.ifCond .ne 1, 0), (.iconst (-1), 0), (.ireturn, 0)] := rfl
theorem b157_1 : blk 157 1 = [(.aload 0, 0), (.iconst (0), 0), (.iload 1, 0), (.iconst (0), 0), (.invokeinterface 145 4, 11), (.lstore 3, 0), (.sipush (1000000000), 0), (.lstore 5, 0), (.iconst (0), 0), (.istore 7, 0), (.jsr 2, 0)] := rfl
theorem b157_2 : blk 157 2 = [(.iload 7, 0), (.iload 2, 0), (.if_icmp .ge 3, 0), (.lload 5, 0), (.lload 5, 0), (.lload 3, 0), (.lmul, 0), (.aload 0, 0), (.invokeinterface 146 1, 11), (.ldiv, 0), (.lsub, 0), (.lstore 5, 0), (.iinc 7 (1), 0), (.goto 2, 0)] := rfl
theorem b157_3 : blk 157 3 = [(.sipush (1000000000), 0), (.lload 5, 0), (.lsub, 0), (.l2i, 0), (.ireturn, 0)] := rfl
/-! 158: DiceLawModel.value(IIII)J -/
theorem eL158 : eL (mOf 158) = 14 := rfl
theorem b158_0 : blk 158 0 = [(.aload 0, 0), (.iconst (0), 0), (.putfield 11, 0), (.aload 0, 0), (.iload 1, 0), (.iload 2, 0), (.invokeinterface 156 3, 11), (.ifCond .eq 1, 0), (.iload 3, 0), (.i2l, 0), (.sipush (0), 0), (.sipush (999), 0), (.invokestatic 82, 3), (.ifCond .eq 1, 0), (.iload 4, 0), (.i2l, 0), (.sipush (0), 0), (.sipush (99), 0), (.invokestatic 82, 3), (.ifCond .ne 2, 0), (.jsr 1, 0)] := rfl
theorem b158_1 : blk 158 1 = [(.sipush (-1000000000), 0), (.lreturn, 0)] := rfl
theorem b158_2 : blk 158 2 = [(.aload 0, 0), (.iconst (0), 0), (.iload 1, 0), (.iconst (0), 0), (.invokeinterface 145 4, 11), (.lstore 5, 0), (.sipush (1000000000), 0), (.lstore 7, 0), (.sipush (0), 0), (.lstore 9, 0), (.iconst (0), 0), (.istore 11, 0), (.jsr 3, 0)] := rfl
theorem b158_3 : blk 158 3 = [(.iload 11, 0), (.iload 2, 0), (.if_icmp .ge 4, 0), (.lload 7, 0), (.lload 5, 0), (.lmul, 0), (.aload 0, 0), (.invokeinterface 146 1, 11), (.ldiv, 0), (.lstore 12, 0), (.lload 9, 0), (.lload 12, 0), (.iload 3, 0), (.iload 4, 0), (.iload 11, 0), (.imul, 0), (.isub, 0), (.i2l, 0), (.lmul, 0), (.ladd, 0), (.lstore 9, 0), (.lload 7, 0), (.lload 12, 0), (.lsub, 0), (.lstore 7, 0), (.iinc 11 (1), 0), (.goto 3, 0)] := rfl
theorem b158_4 : blk 158 4 = [(.lload 9, 0), (.lload 7, 0), (.iload 4, 0), (.i2l, 0), (.lmul, 0), (.iload 2, 0), (.i2l, 0), (.lmul, 0), (.lsub, 0), (.lstore 9, 0), (.lload 9, 0), (.sipush (1000000), 0), (.ldiv, 0), (.lreturn, 0)] := rfl
/-! 159: DiceLawModel.did(III)Z -/
theorem eL159 : eL (mOf 159) = 5 := rfl
theorem b159_0 : blk 159 0 = [(.iconst (0), 0), (.istore 4, 0), (.jsr 1, 0)] := rfl
theorem b159_1 : blk 159 1 = [(.iload 4, 0), (.aload 0, 0), (.getfield 11, 44), (.if_icmp .ge 3, 0), (.aload 0, 0), (.checkcast 11, 41), (.iload 4, 0), (.iaload, 0), (.iload 1, 0), (.if_icmp .ne 2, 0), (.aload 0, 0), (.checkcast 11, 42), (.iload 4, 0), (.iaload, 0), (.iload 2, 0), (.if_icmp .ne 2, 0), (.aload 0, 0), (.checkcast 11, 43), (.iload 4, 0), (.iaload, 0), (.iload 3, 0), (.if_icmp .ne 2, 0), (.iconst (1), 0), (.ireturn, 1)] := rfl
theorem b159_2 : blk 159 2 = [(.iinc 4 (1), 0), (.goto 1, 0)] := rfl
theorem b159_3 : blk 159 3 = [(.iconst (0), 0), (.ireturn, 1)] := rfl
/-! 160: DiceLawModel.isPerson(I)Z -/
theorem eL160 : eL (mOf 160) = 1 := rfl
theorem b160_0 : blk 160 0 = [(.iload 0, 0), (.i2l, 0), (.sipush (0), 0), (.sipush (5), 0), (.invokestatic 82, 3), (.ireturn, 1)] := rfl
/-! 161: DiceLawModel.act(III)I -/
theorem eL161 : eL (mOf 161) = 4 := rfl
theorem b161_0 : blk 161 0 = [(.aload 0, 0), (.iconst (0), 0), (.putfield 11, 0), (.aload 0, 0), (.getfield 11, 44), (.iconst (60), 0), (.if_icmp .eq 1, 0), (.iload 1, 0), (.invokestatic 160, 1), (.ifCond .eq 1, 0), (.iload 2, 0), (.invokestatic 111, 1), (.ifCond .eq 1, 0), (.aload 0, 0), (.iload 3, 0), (.invokeinterface 135 2, 11), (.ifCond .eq 1, 0), (.aload 0, 0), (.iload 1, 0), (.iload 2, 0), (.iload 3, 0), (.invokeinterface 159 4, 11), (.ifCond .eq 2, 0), (.jsr 1, 0)] := rfl
theorem b161_1 : blk 161 1 = [(.iconst (-1), 0), (.ireturn, 0)] := rfl
theorem b161_2 : blk 161 2 = [(.aload 0, 0), (.checkcast 11, 41), (.aload 0, 0), (.getfield 11, 44), (.iload 1, 0), (.iastore, 0), (.aload 0, 0), (.checkcast 11, 42), (.aload 0, 0), (.getfield 11, 44), (.iload 2, 0), (.iastore, 0), (.aload 0, 0), (.checkcast 11, 43), (.aload 0, 0), (.getfield 11, 44), (.iload 3, 0), (.iastore, 0), (.aload 0, 0), (.dup, 0), (.getfield 11, 44), (.iconst (1), 0), (.iadd, 0), (.putfield 11, 44), (.aload 0, 0), (.getfield 11, 44), (.ireturn, 0)] := rfl
/-! 162: DiceLawModel.suit(II)I -/
theorem eL162 : eL (mOf 162) = 7 := rfl
theorem b162_0 : blk 162 0 = [(.aload 0, 0), (.iconst (0), 0), (.putfield 11, 0), (.iload 1, 0), (.invokestatic 160, 1), (.ifCond .eq 1, 0), (.iload 2, 0), (.iconst (-1), 0), (.if_icmp .ge 2, 0), (.jsr 1, 0)] := rfl
theorem b162_1 : blk 162 1 = [(.iconst (-1), 0), (.ireturn, 0)] := rfl
theorem b162_2 : blk 162 2 = [(.iconst (0), 0), (.istore 3, 0), (.iconst (0), 0), (.istore 4, 0), (.jsr 3, 0)] := rfl
theorem b162_3 : blk 162 3 = [(.iload 4, 0), (.aload 0, 0), (.getfield 11, 30), (.if_icmp .ge 12, 0), (.iconst (0), 0), (.istore 5, 0), (.jsr 4, 0)] := rfl
theorem b162_4 : blk 162 4 = [(.iload 5, 0), (.iconst (6), 0), (.if_icmp .ge 11, 0), (.aload 0, 0), (.iload 1, 0), (.iload 5, 0), (.iload 4, 0), (.invokeinterface 159 4, 11), (.istore 6, 0), (.iload 6, 0), (.ifCond .eq 5, 0), (.aload 0, 0), (.iload 5, 0), (.iload 4, 0), (.invokeinterface 138 3, 11), (.ifCond .eq 6, 0), (.goto 10, 0)] := rfl
theorem b162_5 : blk 162 5 = [(.aload 0, 0), (.iload 5, 0), (.iload 4, 0), (.invokeinterface 139 3, 11), (.ifCond .ne 6, 0), (.goto 10, 0)] := rfl
theorem b162_6 : blk 162 6 = [(.iload 3, 0), (.iload 2, 0), (.if_icmp .ne 9, 0), (.iconst (12), 0), (.iload 4, 0), (.imul, 0), (.iconst (2), 0), (.iload 5, 0), (.imul, 0), (.iadd, 0), (.iload 6, 0), (.ifCond .eq 7, 0), (.iconst (0), 0), (.goto 8, 0)] := rfl
theorem b162_7 : blk 162 7 = [(.iconst (1), 0), (.jsr 8, 0)] := rfl
theorem b162_8 : blk 162 8 = [(.iadd, 0), (.ireturn, 0)] := rfl
theorem b162_9 : blk 162 9 = [(.iinc 3 (1), 0), (.jsr 10, 0)] := rfl
theorem b162_10 : blk 162 10 = [(.iinc 5 (1), 0), (.goto 4, 0)] := rfl
theorem b162_11 : blk 162 11 = [(.iinc 4 (1), 0), (.goto 3, 0)] := rfl
theorem b162_12 : blk 162 12 = [(.iload 2, 0), (.iconst (-1), 0), (.if_icmp .ne 13, 0), (.iload 3, 0), (.goto 14, 0)] := rfl
theorem b162_13 : blk 162 13 = [(.iconst (-1), 0), (.jsr 14, 0)] := rfl
theorem b162_14 : blk 162 14 = [(.ireturn, 0)] := rfl
/-! 163: DiceLawModel.isNamed(III)Z -/
theorem eL163 : eL (mOf 163) = 9 := rfl
theorem b163_0 : blk 163 0 = [(.sipush (1), 0), (.lstore 4, 0), (.iload 3, 0), (.i2l, 0), (.lstore 6, 0), (.aload 0, 0), (.getfield 11, 30), (.iload 2, 0), (.isub, 0), (.istore 8, 0), (.jsr 1, 0)] := rfl
theorem b163_1 : blk 163 1 = [(.iload 8, 0), (.aload 0, 0), (.getfield 11, 30), (.if_icmp .ge 2, 0), (.lload 4, 0), (.aload 0, 0), (.checkcast 11, 22), (.aload 0, 0), (.checkcast 11, 27), (.iconst (5), 0), (.iload 8, 0), (.imul, 0), (.iload 1, 0), (.iadd, 0), (.iaload, 0), (.iaload, 0), (.i2l, 0), (.lmul, 0), (.lstore 4, 0), (.lload 6, 0), (.sipush (2), 0), (.lmul, 0), (.lstore 6, 0), (.iinc 8 (1), 0), (.goto 1, 0)] := rfl
theorem b163_2 : blk 163 2 = [(.lload 4, 0), (.lload 6, 0), (.lcmp, 0), (.ifCond .lt 3, 0), (.iconst (1), 0), (.goto 4, 0)] := rfl
theorem b163_3 : blk 163 3 = [(.iconst (0), 0), (.jsr 4, 0)] := rfl
theorem b163_4 : blk 163 4 = [(.ireturn, 1)] := rfl
/-! 164: DiceLawModel.isDoubt(II)Z -/
theorem eL164 : eL (mOf 164) = 3 := rfl
theorem b164_0 : blk 164 0 = [(.aload 0, 0), (.iload 1, 0), (.invokeinterface 109 2, 11), (.ifCond .eq 1, 0), (.iload 2, 0), (.i2l, 0), (.sipush (1), 0), (.sipush (1000), 0), (.invokestatic 82, 3), (.ifCond .eq 1, 0), (.iconst (1), 0), (.goto 2, 0)] := rfl
theorem b164_1 : blk 164 1 = [(.iconst (0), 0), (.jsr 2, 0)] := rfl
theorem b164_2 : blk 164 2 = [(.ireturn, 1)] := rfl
/-! 165: DiceLawModel.named(III)I -/
theorem eL165 : eL (mOf 165) = 4 := rfl
theorem b165_0 : blk 165 0 = [(.aload 0, 0), (.iconst (0), 0), (.putfield 11, 0), (.aload 0, 0), (.iload 1, 0), (.iload 3, 0), (.invokeinterface 164 3, 11), (.ifCond .eq 1, 0), (.iload 2, 0), (.i2l, 0), (.sipush (1), 0), (.iconst (15), 0), (.aload 0, 0), (.getfield 11, 30), (.invokestatic 278, 2), (.i2l, 0), (.invokestatic 82, 3), (.ifCond .ne 2, 0), (.jsr 1, 0)] := rfl
theorem b165_1 : blk 165 1 = [(.iconst (-1), 0), (.goto 4, 0)] := rfl
theorem b165_2 : blk 165 2 = [(.aload 0, 0), (.iload 1, 0), (.iload 2, 0), (.iload 3, 0), (.invokeinterface 163 4, 11), (.ifCond .eq 3, 0), (.iconst (1), 0), (.goto 4, 0)] := rfl
theorem b165_3 : blk 165 3 = [(.iconst (0), 0), (.jsr 4, 0)] := rfl
theorem b165_4 : blk 165 4 = [(.ireturn, 0)] := rfl
/-! 166: DiceLawModel.enough(II)I -/
theorem eL166 : eL (mOf 166) = 4 := rfl
theorem b166_0 : blk 166 0 = [(.aload 0, 0), (.iconst (0), 0), (.putfield 11, 0), (.aload 0, 0), (.iload 1, 0), (.iload 2, 0), (.invokeinterface 164 3, 11), (.ifCond .ne 1, 0), (.iconst (-1), 0), (.ireturn, 0)] := rfl
theorem b166_1 : blk 166 1 = [(.iconst (1), 0), (.istore 3, 0), (.jsr 2, 0)] := rfl
theorem b166_2 : blk 166 2 = [(.iload 3, 0), (.iconst (15), 0), (.aload 0, 0), (.getfield 11, 30), (.invokestatic 278, 2), (.if_icmp .gt 4, 0), (.aload 0, 0), (.iload 1, 0), (.iload 3, 0), (.iload 2, 0), (.invokeinterface 163 4, 11), (.ifCond .eq 3, 0), (.iload 3, 0), (.ireturn, 0)] := rfl
theorem b166_3 : blk 166 3 = [(.iinc 3 (1), 0), (.goto 2, 0)] := rfl
theorem b166_4 : blk 166 4 = [(.iconst (-1), 0), (.ireturn, 0)] := rfl
/-! 167: DiceLawModel.amendedBy(IIIIJ)J -/
theorem eL167 : eL (mOf 167) = 10 := rfl
theorem b167_0 : blk 167 0 = [(.aload 0, 0), (.checkcast 11, 18), (.iconst (6), 0), (.iload 1, 0), (.imul, 0), (.iload 2, 0), (.iadd, 0), (.iaload, 0), (.istore 7, 0), (.aload 0, 0), (.checkcast 11, 18), (.iconst (6), 0), (.iload 1, 0), (.imul, 0), (.iload 2, 0), (.iadd, 0), (.iload 3, 0), (.iastore, 0), (.aload 0, 0), (.iconst (0), 0), (.iload 4, 0), (.iconst (0), 0), (.invokeinterface 145 4, 11), (.lload 5, 0), (.lsub, 0), (.lstore 8, 0), (.aload 0, 0), (.checkcast 11, 18), (.iconst (6), 0), (.iload 1, 0), (.imul, 0), (.iload 2, 0), (.iadd, 0), (.iload 7, 0), (.iastore, 0), (.lload 8, 0), (.lreturn, 0)] := rfl
/-! 168: DiceLawModel.amended(IIII)J -/
theorem eL168 : eL (mOf 168) = 5 := rfl
theorem b168_0 : blk 168 0 = [(.aload 0, 0), (.iconst (0), 0), (.putfield 11, 0), (.aload 0, 0), (.iload 1, 0), (.invokeinterface 109 2, 11), (.ifCond .eq 1, 0), (.iload 2, 0), (.invokestatic 110, 1), (.ifCond .eq 1, 0), (.iload 3, 0), (.ifCond .lt 1, 0), (.iload 3, 0), (.invokestatic 112, 1), (.ifCond .eq 1, 0), (.iload 4, 0), (.invokestatic 111, 1), (.ifCond .ne 2, 0), (.jsr 1, 0)] := rfl
theorem b168_1 : blk 168 1 = [(.sipush (-1000000000), 0), (.lreturn, 0)] := rfl
theorem b168_2 : blk 168 2 = [(.aload 0, 0), (.iload 1, 0), (.iload 2, 0), (.iload 3, 0), (.iload 4, 0), (.aload 0, 0), (.iconst (0), 0), (.iload 4, 0), (.iconst (0), 0), (.invokeinterface 145 4, 11), (.invokeinterface 167 6, 11), (.lreturn, 0)] := rfl
/-! 169: DiceLawModel.help(II)J -/
theorem eL169 : eL (mOf 169) = 14 := rfl
theorem b169_0 : blk 169 0 = [(.aload 0, 0), (.iconst (0), 0), (.putfield 11, 0), (.aload 0, 0), (.getfield 11, 20), (.ifCond .eq 1, 0), (.iload 1, 0), (.invokestatic 111, 1), (.ifCond .eq 1, 0), (.iload 2, 0), (.i2l, 0), (.sipush (0), 0), (.sipush (1), 0), (.invokestatic 82, 3), (.ifCond .ne 2, 0), (.jsr 1, 0)] := rfl
theorem b169_1 : blk 169 1 = [(.sipush (-1000000000), 0), (.lreturn, 0)] := rfl
theorem b169_2 : blk 169 2 = [(.aload 0, 0), (.iconst (0), 0), (.iload 1, 0), (.iconst (0), 0), (.invokeinterface 145 4, 11), (.lstore 3, 0), (.iconst (-1), 0), (.istore 5, 0), (.sipush (0), 0), (.lstore 6, 0), (.iconst (0), 0), (.istore 8, 0), (.jsr 3, 0)] := rfl
theorem b169_3 : blk 169 3 = [(.iload 8, 0), (.aload 0, 0), (.getfield 11, 20), (.if_icmp .ge 12, 0), (.iconst (0), 0), (.istore 9, 0), (.jsr 4, 0)] := rfl
theorem b169_4 : blk 169 4 = [(.iload 9, 0), (.iconst (6), 0), (.if_icmp .ge 11, 0), (.iconst (0), 0), (.istore 10, 0), (.jsr 5, 0)] := rfl
theorem b169_5 : blk 169 5 = [(.iload 10, 0), (.iconst (30), 0), (.if_icmp .gt 10, 0), (.iload 10, 0), (.ifCond .ne 6, 0), (.iconst (0), 0), (.goto 7, 0)] := rfl
theorem b169_6 : blk 169 6 = [(.iload 10, 0), (.iload 1, 0), (.iadd, 0), (.jsr 7, 0)] := rfl
theorem b169_7 : blk 169 7 = [(.istore 11, 0), (.aload 0, 0), (.iload 8, 0), (.iload 9, 0), (.iload 11, 0), (.iload 1, 0), (.lload 3, 0), (.invokeinterface 167 6, 11), (.lstore 12, 0), (.iload 5, 0), (.iconst (-1), 0), (.if_icmp .eq 8, 0), (.lload 12, 0), (.lload 6, 0), (.lcmp, 0), (.ifCond .gt 8, 0), (.goto 9, 0)] := rfl
theorem b169_8 : blk 169 8 = [(.iconst (1000), 0), (.iload 8, 0), (.imul, 0), (.iconst (100), 0), (.iload 9, 0), (.imul, 0), (.iadd, 0), (.iload 11, 0), (.iadd, 0), (.istore 5, 0), (.lload 12, 0), (.lstore 6, 0), (.jsr 9, 0)] := rfl
theorem b169_9 : blk 169 9 = [(.iinc 10 (10), 0), (.goto 5, 0)] := rfl
theorem b169_10 : blk 169 10 = [(.iinc 9 (1), 0), (.goto 4, 0)] := rfl
theorem b169_11 : blk 169 11 = [(.iinc 8 (1), 0), (.goto 3, 0)] := rfl
theorem b169_12 : blk 169 12 = [(.iload 2, 0), (.ifCond .ne 13, 0), (.iload 5, 0), (.i2l, 0), (.goto 14, 0)] := rfl
theorem b169_13 : blk 169 13 = [(.lload 6, 0), (.jsr 14, 0)] := rfl
theorem b169_14 : blk 169 14 = [(.lreturn, 0)] := rfl
/-! 170: DiceLawModel.follow(III)I -/
theorem eL170 : eL (mOf 170) = 9 := rfl
theorem b170_0 : blk 170 0 = [(.aload 0, 0), (.iconst (0), 0), (.putfield 11, 0), (.iload 1, 0), (.i2l, 0), (.sipush (0), 0), (.aload 0, 0), (.getfield 11, 7), (.iconst (1), 0), (.isub, 0), (.i2l, 0), (.invokestatic 82, 3), (.ifCond .eq 1, 0), (.iload 2, 0), (.invokestatic 111, 1), (.ifCond .eq 1, 0), (.iload 3, 0), (.i2l, 0), (.sipush (0), 0), (.sipush (2), 0), (.invokestatic 82, 3), (.ifCond .ne 2, 0), (.jsr 1, 0)] := rfl
theorem b170_1 : blk 170 1 = [(.iconst (-1), 0), (.ireturn, 0)] := rfl
theorem b170_2 : blk 170 2 = [(.iconst (0), 0), (.istore 4, 0), (.iconst (0), 0), (.istore 5, 0), (.iconst (0), 0), (.istore 6, 0), (.iconst (-1), 0), (.istore 7, 0), (.iconst (0), 0), (.istore 8, 0), (.jsr 3, 0)] := rfl
theorem b170_3 : blk 170 3 = [(.iload 8, 0), (.aload 0, 0), (.getfield 11, 30), (.if_icmp .ge 16, 0), (.aload 0, 0), (.checkcast 11, 4), (.iconst (108), 0), (.aload 0, 0), (.iload 2, 0), (.iload 8, 0), (.invokeinterface 138 3, 11), (.ifCond .eq 4, 0), (.iconst (1), 0), (.goto 5, 0)] := rfl
theorem b170_4 : blk 170 4 = [(.iconst (0), 0), (.jsr 5, 0)] := rfl
theorem b170_5 : blk 170 5 = [(.iastore, 0), (.aload 0, 0), (.checkcast 11, 4), (.iconst (100), 0), (.aload 0, 0), (.iload 2, 0), (.iload 8, 0), (.invokeinterface 139 3, 11), (.ifCond .eq 6, 0), (.iconst (1), 0), (.goto 7, 0)] := rfl
theorem b170_6 : blk 170 6 = [(.iconst (0), 0), (.jsr 7, 0)] := rfl
theorem b170_7 : blk 170 7 = [(.iastore, 0), (.aload 0, 0), (.checkcast 11, 4), (.iconst (109), 0), (.aload 0, 0), (.aload 0, 0), (.checkcast 11, 26), (.iconst (5), 0), (.iload 8, 0), (.imul, 0), (.iconst (10), 0), (.iload 2, 0), (.iadd, 0), (.invokeinterface 125 4, 11), (.iastore, 0), (.aload 0, 0), (.checkcast 11, 4), (.iconst (110), 0), (.aload 0, 0), (.aload 0, 0), (.checkcast 11, 26), (.iconst (5), 0), (.iload 8, 0), (.imul, 0), (.iconst (20), 0), (.iload 2, 0), (.iadd, 0), (.invokeinterface 125 4, 11), (.iastore, 0), (.aload 0, 0), (.checkcast 11, 4), (.iconst (119), 0), (.iload 7, 0), (.iconst (-1), 0), (.if_icmp .ne 8, 0), (.iload 8, 0), (.goto 9, 0)] := rfl
theorem b170_8 : blk 170 8 = [(.iload 8, 0), (.iload 7, 0), (.isub, 0), (.jsr 9, 0)] := rfl
theorem b170_9 : blk 170 9 = [(.iastore, 0), (.aload 0, 0), (.checkcast 11, 4), (.iconst (116), 0), (.iload 8, 0), (.iastore, 0), (.aload 0, 0), (.aload 0, 0), (.checkcast 11, 2), (.iconst (120), 0), (.iload 1, 0), (.imul, 0), (.aload 0, 0), (.checkcast 11, 3), (.iload 1, 0), (.iaload, 0), (.invokeinterface 104 4, 11), (.aload 0, 0), (.getfield 11, 14), (.ifCond .le 12, 0), (.iinc 4 (1), 0), (.iload 5, 0), (.aload 0, 0), (.iload 2, 0), (.iload 8, 0), (.invokeinterface 138 3, 11), (.ifCond .eq 10, 0), (.iconst (0), 0), (.goto 11, 0)] := rfl
theorem b170_10 : blk 170 10 = [(.iconst (1), 0), (.jsr 11, 0)] := rfl
theorem b170_11 : blk 170 11 = [(.iadd, 0), (.istore 5, 0), (.iload 8, 0), (.istore 7, 0), (.goto 15, 0)] := rfl
theorem b170_12 : blk 170 12 = [(.iload 6, 0), (.aload 0, 0), (.iload 2, 0), (.iload 8, 0), (.invokeinterface 139 3, 11), (.ifCond .eq 13, 0), (.iconst (1), 0), (.goto 14, 0)] := rfl
theorem b170_13 : blk 170 13 = [(.iconst (0), 0), (.jsr 14, 0)] := rfl
theorem b170_14 : blk 170 14 = [(.iadd, 0), (.istore 6, 0), (.jsr 15, 0)] := rfl
theorem b170_15 : blk 170 15 = [(.iinc 8 (1), 0), (.goto 3, 0)] := rfl
theorem b170_16 : blk 170 16 = [(.iload 3, 0), (.ifCond .ne 17, 0), (.iload 4, 0), (.goto 19, 0)] := rfl
theorem b170_17 : blk 170 17 = [(.iload 3, 0), (.iconst (1), 0), (.if_icmp .ne 18, 0), (.iload 5, 0), (.goto 19, 0)] := rfl
theorem b170_18 : blk 170 18 = [(.iload 6, 0), (.jsr 19, 0)] := rfl
theorem b170_19 : blk 170 19 = [(.ireturn, 0)] := rfl
/-! 171: DiceLawModel.lawfulGiven(III)J -/
theorem eL171 : eL (mOf 171) = 4 := rfl
theorem b171_0 : blk 171 0 = [(.aload 0, 0), (.iload 3, 0), (.putfield 11, 35), (.aload 0, 0), (.iconst (9), 0), (.iload 1, 0), (.iload 2, 0), (.invokeinterface 145 4, 11), (.lreturn, 0)] := rfl
/-! 172: DiceLawModel.given(IIII)J -/
theorem eL172 : eL (mOf 172) = 7 := rfl
theorem b172_0 : blk 172 0 = [(.aload 0, 0), (.iconst (0), 0), (.putfield 11, 0), (.aload 0, 0), (.iload 4, 0), (.invokeinterface 149 2, 11), (.ifCond .eq 1, 0), (.aload 0, 0), (.iload 1, 0), (.invokeinterface 109 2, 11), (.ifCond .eq 1, 0), (.iload 2, 0), (.invokestatic 110, 1), (.ifCond .eq 1, 0), (.iload 3, 0), (.invokestatic 111, 1), (.ifCond .ne 2, 0), (.jsr 1, 0)] := rfl
theorem b172_1 : blk 172 1 = [(.sipush (-1), 0), (.lreturn, 0)] := rfl
theorem b172_2 : blk 172 2 = [(.aload 0, 0), (.iconst (8), 0), (.iload 1, 0), (.iload 2, 0), (.invokeinterface 145 4, 11), (.lstore 5, 0), (.lload 5, 0), (.sipush (0), 0), (.lcmp, 0), (.ifCond .ne 3, 0), (.sipush (-1), 0), (.goto 4, 0)] := rfl
theorem b172_3 : blk 172 3 = [(.aload 0, 0), (.iload 1, 0), (.iload 2, 0), (.iload 3, 0), (.invokeinterface 171 4, 11), (.lload 5, 0), (.iload 4, 0), (.invokestatic 148, 3), (.jsr 4, 0)] := rfl
theorem b172_4 : blk 172 4 = [(.lreturn, 0)] := rfl
/-! 173: DiceLawModel.harm(I)I -/
theorem eL173 : eL (mOf 173) = 13 := rfl
theorem b173_0 : blk 173 0 = [(.aload 0, 0), (.iconst (0), 0), (.putfield 11, 0), (.aload 0, 0), (.getfield 11, 20), (.ifCond .eq 1, 0), (.iload 1, 0), (.invokestatic 111, 1), (.ifCond .ne 2, 0), (.jsr 1, 0)] := rfl
theorem b173_1 : blk 173 1 = [(.iconst (-1), 0), (.ireturn, 0)] := rfl
theorem b173_2 : blk 173 2 = [(.iconst (-1), 0), (.istore 2, 0), (.sipush (0), 0), (.lstore 3, 0), (.sipush (1), 0), (.lstore 5, 0), (.iconst (0), 0), (.istore 7, 0), (.jsr 3, 0)] := rfl
theorem b173_3 : blk 173 3 = [(.iload 7, 0), (.aload 0, 0), (.getfield 11, 20), (.if_icmp .ge 9, 0), (.iconst (0), 0), (.istore 8, 0), (.jsr 4, 0)] := rfl
theorem b173_4 : blk 173 4 = [(.iload 8, 0), (.iconst (6), 0), (.if_icmp .ge 8, 0), (.aload 0, 0), (.iconst (8), 0), (.iload 7, 0), (.iload 8, 0), (.invokeinterface 145 4, 11), (.lstore 9, 0), (.lload 9, 0), (.sipush (0), 0), (.lcmp, 0), (.ifCond .ne 5, 0), (.goto 7, 0)] := rfl
theorem b173_5 : blk 173 5 = [(.aload 0, 0), (.iload 7, 0), (.iload 8, 0), (.iload 1, 0), (.invokeinterface 171 4, 11), (.lstore 11, 0), (.iload 2, 0), (.iconst (-1), 0), (.if_icmp .eq 6, 0), (.lload 11, 0), (.lload 5, 0), (.lmul, 0), (.lload 3, 0), (.lload 9, 0), (.lmul, 0), (.lcmp, 0), (.ifCond .lt 6, 0), (.goto 7, 0)] := rfl
theorem b173_6 : blk 173 6 = [(.iconst (6), 0), (.iload 7, 0), (.imul, 0), (.iload 8, 0), (.iadd, 0), (.istore 2, 0), (.lload 11, 0), (.lstore 3, 0), (.lload 9, 0), (.lstore 5, 0), (.jsr 7, 0)] := rfl
theorem b173_7 : blk 173 7 = [(.iinc 8 (1), 0), (.goto 4, 0)] := rfl
theorem b173_8 : blk 173 8 = [(.iinc 7 (1), 0), (.goto 3, 0)] := rfl
theorem b173_9 : blk 173 9 = [(.iload 2, 0), (.ireturn, 0)] := rfl
/-! 174: DiceLawModel.layWays()V -/
theorem eL174 : eL (mOf 174) = 3 := rfl
theorem b174_0 : blk 174 0 = [(.iconst (0), 0), (.istore 1, 0), (.jsr 1, 0)] := rfl
theorem b174_1 : blk 174 1 = [(.iload 1, 0), (.aload 0, 0), (.checkcast 11, 39), (.arraylength, 0), (.if_icmp .ge 2, 0), (.aload 0, 0), (.checkcast 11, 39), (.iload 1, 0), (.sipush (0), 0), (.lastore, 0), (.iinc 1 (1), 0), (.goto 1, 0)] := rfl
theorem b174_2 : blk 174 2 = [(.aload 0, 0), (.sipush (0), 0), (.putstatic 11, 40), (.aload 0, 0), (.iconst (10), 0), (.iconst (0), 0), (.iconst (0), 0), (.invokeinterface 145 4, 11), (.lstore 1, 0), (.return_, 0)] := rfl
/-! 175: DiceLawModel.likeliest(I)J -/
theorem eL175 : eL (mOf 175) = 4 := rfl
theorem b175_0 : blk 175 0 = [(.aload 0, 0), (.iconst (0), 0), (.putfield 11, 0), (.aload 0, 0), (.getfield 11, 20), (.ifCond .eq 1, 0), (.iload 1, 0), (.i2l, 0), (.sipush (0), 0), (.sipush (1), 0), (.invokestatic 82, 3), (.ifCond .ne 2, 0), (.jsr 1, 0)] := rfl
theorem b175_1 : blk 175 1 = [(.sipush (-1), 0), (.lreturn, 0)] := rfl
theorem b175_2 : blk 175 2 = [(.aload 0, 0), (.invokeinterface 174 1, 11), (.iconst (0), 0), (.istore 2, 0), (.iconst (1), 0), (.istore 3, 0), (.jsr 3, 0)] := rfl
theorem b175_3 : blk 175 3 = [(.iload 3, 0), (.aload 0, 0), (.checkcast 11, 39), (.arraylength, 0), (.if_icmp .ge 5, 0), (.aload 0, 0), (.checkcast 11, 39), (.iload 3, 0), (.laload, 0), (.aload 0, 0), (.checkcast 11, 39), (.iload 2, 0), (.laload, 0), (.lcmp, 0), (.ifCond .le 4, 0), (.iload 3, 0), (.istore 2, 0), (.jsr 4, 0)] := rfl
theorem b175_4 : blk 175 4 = [(.iinc 3 (1), 0), (.goto 3, 0)] := rfl
theorem b175_5 : blk 175 5 = [(.iload 1, 0), (.ifCond .ne 6, 0), (.iload 2, 0), (.i2l, 0), (.goto 7, 0)] := rfl
theorem b175_6 : blk 175 6 = [(.aload 0, 0), (.checkcast 11, 39), (.iload 2, 0), (.laload, 0), (.jsr 7, 0)] := rfl
theorem b175_7 : blk 175 7 = [(.lreturn, 0)] := rfl
/-! 176: DiceLawModel.apart(II)I -/
theorem eL176 : eL (mOf 176) = 3 := rfl
theorem b176_0 : blk 176 0 = [(.aload 0, 0), (.iconst (0), 0), (.putfield 11, 0), (.aload 0, 0), (.getfield 11, 20), (.ifCond .eq 1, 0), (.iload 1, 0), (.invokestatic 111, 1), (.ifCond .eq 1, 0), (.iload 2, 0), (.invokestatic 111, 1), (.ifCond .eq 1, 0), (.iload 1, 0), (.iload 2, 0), (.if_icmp .ne 2, 0), (.jsr 1, 0)] := rfl
theorem b176_1 : blk 176 1 = [(.iconst (-1), 0), (.ireturn, 0)] := rfl
theorem b176_2 : blk 176 2 = [(.aload 0, 0), (.iconst (3), 0), (.iload 1, 0), (.iload 2, 0), (.invokeinterface 145 4, 11), (.aload 0, 0), (.invokeinterface 146 1, 11), (.lmul, 0), (.aload 0, 0), (.iconst (0), 0), (.iload 1, 0), (.iconst (0), 0), (.invokeinterface 145 4, 11), (.aload 0, 0), (.iconst (0), 0), (.iload 2, 0), (.iconst (0), 0), (.invokeinterface 145 4, 11), (.lmul, 0), (.lcmp, 0), (.ifCond .ne 3, 0), (.iconst (1), 0), (.goto 4, 0)] := rfl
theorem b176_3 : blk 176 3 = [(.iconst (0), 0), (.jsr 4, 0)] := rfl
theorem b176_4 : blk 176 4 = [(.ireturn, 0)] := rfl
/-! 177: DiceLawModel.mean(I)J -/
theorem eL177 : eL (mOf 177) = 2 := rfl
theorem b177_0 : blk 177 0 = [(.aload 0, 0), (.iconst (0), 0), (.putfield 11, 0), (.aload 0, 0), (.iload 1, 0), (.invokeinterface 149 2, 11), (.ifCond .ne 1, 0), (.sipush (-1), 0), (.lreturn, 0)] := rfl
theorem b177_1 : blk 177 1 = [(.aload 0, 0), (.invokeinterface 174 1, 11), (.aload 0, 0), (.aload 0, 0), (.getstatic 11, 40), (.iload 1, 0), (.invokeinterface 147 3, 11), (.lreturn, 0)] := rfl
/-! 178: DiceLawModel.change(IIII)J -/
theorem eL178 : eL (mOf 178) = 9 := rfl
theorem b178_0 : blk 178 0 = [(.aload 0, 0), (.iconst (0), 0), (.putfield 11, 0), (.aload 0, 0), (.iload 1, 0), (.invokeinterface 109 2, 11), (.ifCond .eq 1, 0), (.iload 2, 0), (.invokestatic 110, 1), (.ifCond .eq 1, 0), (.iload 3, 0), (.invokestatic 110, 1), (.ifCond .eq 1, 0), (.iload 2, 0), (.iload 3, 0), (.if_icmp .eq 1, 0), (.iload 4, 0), (.invokestatic 111, 1), (.ifCond .eq 1, 0), (.aload 0, 0), (.checkcast 11, 21), (.iconst (6), 0), (.iload 1, 0), (.imul, 0), (.iload 2, 0), (.iadd, 0), (.iaload, 0), (.ifCond .ne 2, 0), (.jsr 1, 0)] := rfl
theorem b178_1 : blk 178 1 = [(.sipush (-1000000000), 0), (.lreturn, 0)] := rfl
theorem b178_2 : blk 178 2 = [(.aload 0, 0), (.iconst (0), 0), (.iload 4, 0), (.iconst (0), 0), (.invokeinterface 145 4, 11), (.lstore 5, 0), (.aload 0, 0), (.checkcast 11, 21), (.iconst (6), 0), (.iload 1, 0), (.imul, 0), (.iload 2, 0), (.iadd, 0), (.dup2, 0), (.iaload, 0), (.iconst (1), 0), (.isub, 0), (.iastore, 0), (.aload 0, 0), (.checkcast 11, 21), (.iconst (6), 0), (.iload 1, 0), (.imul, 0), (.iload 3, 0), (.iadd, 0), (.dup2, 0), (.iaload, 0), (.iconst (1), 0), (.iadd, 0), (.iastore, 0), (.aload 0, 0), (.iconst (0), 0), (.iload 4, 0), (.iconst (0), 0), (.invokeinterface 145 4, 11), (.lload 5, 0), (.lsub, 0), (.lstore 7, 0), (.aload 0, 0), (.checkcast 11, 21), (.iconst (6), 0), (.iload 1, 0), (.imul, 0), (.iload 2, 0), (.iadd, 0), (.dup2, 0), (.iaload, 0), (.iconst (1), 0), (.iadd, 0), (.iastore, 0), (.aload 0, 0), (.checkcast 11, 21), (.iconst (6), 0), (.iload 1, 0), (.imul, 0), (.iload 3, 0), (.iadd, 0), (.dup2, 0), (.iaload, 0), (.iconst (1), 0), (.isub, 0), (.iastore, 0), (.lload 7, 0), (.lreturn, 0)] := rfl
/-! 179: DiceLawModel.run(II)I -/
theorem eL179 : eL (mOf 179) = 7 := rfl
theorem b179_0 : blk 179 0 = [(.aload 0, 0), (.iconst (0), 0), (.putfield 11, 0), (.iload 1, 0), (.invokestatic 111, 1), (.ifCond .eq 1, 0), (.iload 2, 0), (.i2l, 0), (.sipush (0), 0), (.sipush (1), 0), (.invokestatic 82, 3), (.ifCond .ne 2, 0), (.jsr 1, 0)] := rfl
theorem b179_1 : blk 179 1 = [(.iconst (-1000000000), 0), (.ireturn, 0)] := rfl
theorem b179_2 : blk 179 2 = [(.iconst (0), 0), (.istore 3, 0), (.iconst (-1), 0), (.istore 4, 0), (.iconst (0), 0), (.istore 5, 0), (.iconst (0), 0), (.istore 6, 0), (.jsr 3, 0)] := rfl
theorem b179_3 : blk 179 3 = [(.iload 6, 0), (.aload 0, 0), (.getfield 11, 30), (.if_icmp .ge 8, 0), (.aload 0, 0), (.iload 1, 0), (.iload 6, 0), (.invokeinterface 138 3, 11), (.ifCond .eq 4, 0), (.iload 5, 0), (.iconst (1), 0), (.iadd, 0), (.goto 5, 0)] := rfl
theorem b179_4 : blk 179 4 = [(.iconst (0), 0), (.jsr 5, 0)] := rfl
theorem b179_5 : blk 179 5 = [(.istore 5, 0), (.iload 5, 0), (.iload 3, 0), (.if_icmp .gt 6, 0), (.goto 7, 0)] := rfl
theorem b179_6 : blk 179 6 = [(.iload 5, 0), (.istore 3, 0), (.iload 6, 0), (.iload 5, 0), (.isub, 0), (.iconst (1), 0), (.iadd, 0), (.istore 4, 0), (.jsr 7, 0)] := rfl
theorem b179_7 : blk 179 7 = [(.iinc 6 (1), 0), (.goto 3, 0)] := rfl
theorem b179_8 : blk 179 8 = [(.iload 2, 0), (.ifCond .ne 9, 0), (.iload 3, 0), (.goto 10, 0)] := rfl
theorem b179_9 : blk 179 9 = [(.iload 4, 0), (.jsr 10, 0)] := rfl
theorem b179_10 : blk 179 10 = [(.ireturn, 0)] := rfl
/-! 180: DiceLawModel.isPeace(I)Z -/
theorem eL180 : eL (mOf 180) = 3 := rfl
theorem b180_0 : blk 180 0 = [(.iconst (0), 0), (.istore 2, 0), (.jsr 1, 0)] := rfl
theorem b180_1 : blk 180 1 = [(.iload 2, 0), (.iconst (6), 0), (.if_icmp .ge 3, 0), (.aload 0, 0), (.aload 0, 0), (.checkcast 11, 26), (.iconst (5), 0), (.iload 1, 0), (.imul, 0), (.iconst (20), 0), (.iload 2, 0), (.iadd, 0), (.invokeinterface 125 4, 11), (.ifCond .le 2, 0), (.iconst (0), 0), (.ireturn, 1)] := rfl
theorem b180_2 : blk 180 2 = [(.iinc 2 (1), 0), (.goto 1, 0)] := rfl
theorem b180_3 : blk 180 3 = [(.iconst (1), 0), (.ireturn, 1)] := rfl
/-! 181: DiceLawModel.peace(I)I -/
theorem eL181 : eL (mOf 181) = 5 := rfl
theorem b181_0 : blk 181 0 = [(.aload 0, 0), (.iconst (0), 0), (.putfield 11, 0), (.iload 1, 0), (.i2l, 0), (.sipush (0), 0), (.sipush (1), 0), (.invokestatic 82, 3), (.ifCond .ne 1, 0), (.iconst (-1000000000), 0), (.ireturn, 0)] := rfl
theorem b181_1 : blk 181 1 = [(.iconst (0), 0), (.istore 2, 0), (.iconst (-1), 0), (.istore 3, 0), (.iconst (0), 0), (.istore 4, 0), (.jsr 2, 0)] := rfl
theorem b181_2 : blk 181 2 = [(.iload 4, 0), (.aload 0, 0), (.getfield 11, 30), (.if_icmp .ge 7, 0), (.aload 0, 0), (.iload 4, 0), (.invokeinterface 180 2, 11), (.ifCond .ne 3, 0), (.goto 6, 0)] := rfl
theorem b181_3 : blk 181 3 = [(.iinc 2 (1), 0), (.iload 3, 0), (.iconst (-1), 0), (.if_icmp .ne 4, 0), (.iload 4, 0), (.goto 5, 0)] := rfl
theorem b181_4 : blk 181 4 = [(.iload 3, 0), (.jsr 5, 0)] := rfl
theorem b181_5 : blk 181 5 = [(.istore 3, 0), (.jsr 6, 0)] := rfl
theorem b181_6 : blk 181 6 = [(.iinc 4 (1), 0), (.goto 2, 0)] := rfl
theorem b181_7 : blk 181 7 = [(.iload 1, 0), (.ifCond .ne 8, 0), (.iload 2, 0), (.goto 9, 0)] := rfl
theorem b181_8 : blk 181 8 = [(.iload 3, 0), (.jsr 9, 0)] := rfl
theorem b181_9 : blk 181 9 = [(.ireturn, 0)] := rfl
/-! 182: DiceLawModel.idle(I)I -/
theorem eL182 : eL (mOf 182) = 6 := rfl
theorem b182_0 : blk 182 0 = [(.aload 0, 0), (.iconst (0), 0), (.putfield 11, 0), (.iload 1, 0), (.invokestatic 160, 1), (.ifCond .ne 1, 0), (.iconst (-1), 0), (.ireturn, 0)] := rfl
theorem b182_1 : blk 182 1 = [(.iconst (0), 0), (.istore 2, 0), (.iconst (0), 0), (.istore 3, 0), (.jsr 2, 0)] := rfl
theorem b182_2 : blk 182 2 = [(.iload 3, 0), (.aload 0, 0), (.getfield 11, 30), (.if_icmp .ge 9, 0), (.iconst (1), 0), (.istore 4, 0), (.iconst (0), 0), (.istore 5, 0), (.jsr 3, 0)] := rfl
theorem b182_3 : blk 182 3 = [(.iload 5, 0), (.iconst (6), 0), (.if_icmp .ge 6, 0), (.iload 4, 0), (.ifCond .eq 4, 0), (.aload 0, 0), (.iload 1, 0), (.iload 5, 0), (.iload 3, 0), (.invokeinterface 159 4, 11), (.ifCond .ne 4, 0), (.iconst (1), 0), (.goto 5, 0)] := rfl
theorem b182_4 : blk 182 4 = [(.iconst (0), 0), (.jsr 5, 0)] := rfl
theorem b182_5 : blk 182 5 = [(.istore 4, 0), (.iinc 5 (1), 0), (.goto 3, 0)] := rfl
theorem b182_6 : blk 182 6 = [(.iload 2, 0), (.iload 4, 0), (.ifCond .eq 7, 0), (.iconst (1), 0), (.goto 8, 0)] := rfl
theorem b182_7 : blk 182 7 = [(.iconst (0), 0), (.jsr 8, 0)] := rfl
theorem b182_8 : blk 182 8 = [(.iadd, 0), (.istore 2, 0), (.iinc 3 (1), 0), (.goto 2, 0)] := rfl
theorem b182_9 : blk 182 9 = [(.iload 2, 0), (.ireturn, 0)] := rfl
/-! 183: DiceLawModel.busiest()I -/
theorem eL183 : eL (mOf 183) = 6 := rfl
theorem b183_0 : blk 183 0 = [(.aload 0, 0), (.iconst (0), 0), (.putfield 11, 0), (.iconst (-1), 0), (.istore 1, 0), (.iconst (0), 0), (.istore 2, 0), (.iconst (0), 0), (.istore 3, 0), (.jsr 1, 0)] := rfl
theorem b183_1 : blk 183 1 = [(.iload 3, 0), (.aload 0, 0), (.getfield 11, 30), (.if_icmp .ge 8, 0), (.iconst (0), 0), (.istore 4, 0), (.iconst (0), 0), (.istore 5, 0), (.jsr 2, 0)] := rfl
theorem b183_2 : blk 183 2 = [(.iload 5, 0), (.iconst (6), 0), (.if_icmp .ge 5, 0), (.iload 4, 0), (.aload 0, 0), (.iload 5, 0), (.iload 3, 0), (.invokeinterface 139 3, 11), (.ifCond .eq 3, 0), (.iconst (1), 0), (.goto 4, 0)] := rfl
theorem b183_3 : blk 183 3 = [(.iconst (0), 0), (.jsr 4, 0)] := rfl
theorem b183_4 : blk 183 4 = [(.iadd, 0), (.istore 4, 0), (.iinc 5 (1), 0), (.goto 2, 0)] := rfl
theorem b183_5 : blk 183 5 = [(.iload 1, 0), (.iconst (-1), 0), (.if_icmp .eq 6, 0), (.iload 4, 0), (.iload 2, 0), (.if_icmp .gt 6, 0), (.goto 7, 0)] := rfl
theorem b183_6 : blk 183 6 = [(.iload 3, 0), (.istore 1, 0), (.iload 4, 0), (.istore 2, 0), (.jsr 7, 0)] := rfl
theorem b183_7 : blk 183 7 = [(.iinc 3 (1), 0), (.goto 1, 0)] := rfl
theorem b183_8 : blk 183 8 = [(.iload 1, 0), (.ireturn, 0)] := rfl
/-! 184: DiceLawModel.keep([I)V -/
theorem eL184 : eL (mOf 184) = 3 := rfl
theorem b184_0 : blk 184 0 = [(.iconst (0), 0), (.istore 2, 0), (.jsr 1, 0)] := rfl
theorem b184_1 : blk 184 1 = [(.iload 2, 0), (.aload 1, 0), (.arraylength, 0), (.if_icmp .ge 2, 0), (.aload 0, 0), (.checkcast 11, 45), (.aload 0, 0), (.getfield 11, 50), (.aload 1, 0), (.iload 2, 0), (.iaload, 0), (.iastore, 0), (.aload 0, 0), (.dup, 0), (.getfield 11, 50), (.iconst (1), 0), (.iadd, 0), (.putfield 11, 50), (.iinc 2 (1), 0), (.goto 1, 0)] := rfl
theorem b184_2 : blk 184 2 = [(.return_, 0)] := rfl
/-! 185: DiceLawModel.bring([I)V -/
theorem eL185 : eL (mOf 185) = 3 := rfl
theorem b185_0 : blk 185 0 = [(.iconst (0), 0), (.istore 2, 0), (.jsr 1, 0)] := rfl
theorem b185_1 : blk 185 1 = [(.iload 2, 0), (.aload 1, 0), (.arraylength, 0), (.if_icmp .ge 2, 0), (.aload 1, 0), (.iload 2, 0), (.aload 0, 0), (.checkcast 11, 45), (.aload 0, 0), (.getfield 11, 50), (.iaload, 0), (.iastore, 0), (.aload 0, 0), (.dup, 0), (.getfield 11, 50), (.iconst (1), 0), (.iadd, 0), (.putfield 11, 50), (.iinc 2 (1), 0), (.goto 1, 0)] := rfl
theorem b185_2 : blk 185 2 = [(.return_, 0)] := rfl
/-! 186: DiceLawModel.image()I -/
theorem eL186 : eL (mOf 186) = 2 := rfl
theorem b186_0 : blk 186 0 = [(.aload 0, 0), (.iconst (0), 0), (.putfield 11, 0), (.aload 0, 0), (.iconst (0), 0), (.putfield 11, 50), (.aload 0, 0), (.aload 0, 0), (.checkcast 11, 18), (.invokeinterface 184 2, 11), (.aload 0, 0), (.aload 0, 0), (.checkcast 11, 21), (.invokeinterface 184 2, 11), (.aload 0, 0), (.aload 0, 0), (.checkcast 11, 26), (.invokeinterface 184 2, 11), (.aload 0, 0), (.aload 0, 0), (.checkcast 11, 27), (.invokeinterface 184 2, 11), (.aload 0, 0), (.aload 0, 0), (.checkcast 11, 28), (.invokeinterface 184 2, 11), (.aload 0, 0), (.aload 0, 0), (.checkcast 11, 41), (.invokeinterface 184 2, 11), (.aload 0, 0), (.aload 0, 0), (.checkcast 11, 42), (.invokeinterface 184 2, 11), (.aload 0, 0), (.aload 0, 0), (.checkcast 11, 43), (.invokeinterface 184 2, 11), (.iconst (0), 0), (.istore 1, 0), (.jsr 1, 0)] := rfl
theorem b186_1 : blk 186 1 = [(.iload 1, 0), (.iconst (40), 0), (.if_icmp .ge 2, 0), (.aload 0, 0), (.checkcast 11, 46), (.iload 1, 0), (.aload 0, 0), (.checkcast 11, 29), (.iload 1, 0), (.laload, 0), (.lastore, 0), (.iinc 1 (1), 0), (.goto 1, 0)] := rfl
theorem b186_2 : blk 186 2 = [(.aload 0, 0), (.aload 0, 0), (.getfield 11, 20), (.putfield 11, 47), (.aload 0, 0), (.aload 0, 0), (.getfield 11, 30), (.putfield 11, 48), (.aload 0, 0), (.aload 0, 0), (.getfield 11, 44), (.putfield 11, 49), (.aload 0, 0), (.aload 0, 0), (.getstatic 11, 31), (.putstatic 11, 51), (.aload 0, 0), (.iconst (1), 0), (.ret 11, 52), (.aload 0, 0), (.getfield 11, 30), (.ireturn, 0)] := rfl
/-! 187: DiceLawModel.back()I -/
theorem eL187 : eL (mOf 187) = 2 := rfl
theorem b187_0 : blk 187 0 = [(.aload 0, 0), (.iconst (0), 0), (.putfield 11, 0), (.aload 0, 0), (.getfield 11, 52), (.ifCond .ne 1, 0), (.iconst (-1), 0), (.ireturn, 0)] := rfl
theorem b187_1 : blk 187 1 = [(.aload 0, 0), (.iconst (0), 0), (.putfield 11, 50), (.aload 0, 0), (.aload 0, 0), (.checkcast 11, 18), (.invokeinterface 185 2, 11), (.aload 0, 0), (.aload 0, 0), (.checkcast 11, 21), (.invokeinterface 185 2, 11), (.aload 0, 0), (.aload 0, 0), (.checkcast 11, 26), (.invokeinterface 185 2, 11), (.aload 0, 0), (.aload 0, 0), (.checkcast 11, 27), (.invokeinterface 185 2, 11), (.aload 0, 0), (.aload 0, 0), (.checkcast 11, 28), (.invokeinterface 185 2, 11), (.aload 0, 0), (.aload 0, 0), (.checkcast 11, 41), (.invokeinterface 185 2, 11), (.aload 0, 0), (.aload 0, 0), (.checkcast 11, 42), (.invokeinterface 185 2, 11), (.aload 0, 0), (.aload 0, 0), (.checkcast 11, 43), (.invokeinterface 185 2, 11), (.iconst (0), 0), (.istore 1, 0), (.jsr 2, 0)] := rfl
theorem b187_2 : blk 187 2 = [(.iload 1, 0), (.iconst (40), 0), (.if_icmp .ge 3, 0), (.aload 0, 0), (.checkcast 11, 29), (.iload 1, 0), (.aload 0, 0), (.checkcast 11, 46), (.iload 1, 0), (.laload, 0), (.lastore, 0), (.iinc 1 (1), 0), (.goto 2, 0)] := rfl
theorem b187_3 : blk 187 3 = [(.aload 0, 0), (.aload 0, 0), (.getfield 11, 47), (.putfield 11, 20), (.aload 0, 0), (.aload 0, 0), (.getfield 11, 48), (.putfield 11, 30), (.aload 0, 0), (.aload 0, 0), (.getfield 11, 49), (.putfield 11, 44), (.aload 0, 0), (.aload 0, 0), (.getstatic 11, 51), (.putstatic 11, 31), (.aload 0, 0), (.getfield 11, 30), (.ireturn, 0)] := rfl
/-! 188: DiceLawModel.count(I)I -/
theorem eL188 : eL (mOf 188) = 2 := rfl
theorem b188_0 : blk 188 0 = [(.aload 0, 0), (.iconst (0), 0), (.putfield 11, 0), (.iload 1, 0), (.tableswitch 6 (0) (4) #[1, 2, 3, 4, 5], 0)] := rfl
theorem b188_1 : blk 188 1 = [(.aload 0, 0), (.getfield 11, 20), (.ireturn, 0)] := rfl
theorem b188_2 : blk 188 2 = [(.aload 0, 0), (.getfield 11, 7), (.ireturn, 0)] := rfl
theorem b188_3 : blk 188 3 = [(.aload 0, 0), (.getfield 11, 6), (.ireturn, 0)] := rfl
theorem b188_4 : blk 188 4 = [(.aload 0, 0), (.getfield 11, 30), (.ireturn, 0)] := rfl
theorem b188_5 : blk 188 5 = [(.aload 0, 0), (.getfield 11, 44), (.ireturn, 0)] := rfl
theorem b188_6 : blk 188 6 = [(.iconst (-1000000000), 0), (.ireturn, 0)] := rfl
/-! 189: DiceLaw$Book.<init>()V -/
theorem eL189 : eL (mOf 189) = 1 := rfl
theorem b189_0 : blk 189 0 = [(.aload 0, 0), (.monitorexit, 0), (.aload 0, 0), (.iconst (30), 0), (.newarray .int, 0), (.instanceof 0, 1), (.aload 0, 0), (.iconst (30), 0), (.newarray .int, 0), (.instanceof 0, 2), (.return_, 0)] := rfl
/-! 190: DiceLaw$Book.add([I)V -/
theorem eL190 : eL (mOf 190) = 3 := rfl
theorem b190_0 : blk 190 0 = [(.iconst (0), 0), (.istore 2, 0), (.jsr 1, 0)] := rfl
theorem b190_1 : blk 190 1 = [(.iload 2, 0), (.iconst (6), 0), (.if_icmp .ge 2, 0), (.aload 0, 0), (.checkcast 0, 1), (.aload 0, 0), (.getfield 0, 0), (.iconst (6), 0), (.imul, 0), (.iload 2, 0), (.iadd, 0), (.aload 1, 0), (.iload 2, 0), (.invokestatic 61, 2), (.invokestatic 63, 3), (.aload 0, 0), (.checkcast 0, 2), (.aload 0, 0), (.getfield 0, 0), (.iconst (6), 0), (.imul, 0), (.iload 2, 0), (.iadd, 0), (.iconst (2), 0), (.invokestatic 63, 3), (.iinc 2 (1), 0), (.goto 1, 0)] := rfl
theorem b190_2 : blk 190 2 = [(.aload 0, 0), (.dup, 0), (.getfield 0, 0), (.iconst (1), 0), (.iadd, 0), (.putfield 0, 0), (.return_, 0)] := rfl
/-! 191: DiceLaw$Book.has(II)Z -/
theorem eL191 : eL (mOf 191) = 3 := rfl
theorem b191_0 : blk 191 0 = [(.iload 1, 0), (.ifCond .lt 1, 0), (.iload 1, 0), (.aload 0, 0), (.getfield 0, 0), (.if_icmp .ge 1, 0), (.iload 2, 0), (.ifCond .lt 1, 0), (.iload 2, 0), (.iconst (6), 0), (.if_icmp .ge 1, 0), (.iconst (1), 0), (.goto 2, 0)] := rfl
theorem b191_1 : blk 191 1 = [(.iconst (0), 0), (.jsr 2, 0)] := rfl
theorem b191_2 : blk 191 2 = [(.ireturn, 1)] := rfl
/-! 192: DiceLaw$Book.clauseOf(II)I -/
theorem eL192 : eL (mOf 192) = 3 := rfl
theorem b192_0 : blk 192 0 = [(.aload 0, 0), (.checkcast 0, 1), (.iload 1, 0), (.iconst (6), 0), (.imul, 0), (.iload 2, 0), (.iadd, 0), (.invokestatic 61, 2), (.ireturn, 0)] := rfl
/-! 193: DiceLaw$Book.weightOf(II)I -/
theorem eL193 : eL (mOf 193) = 3 := rfl
theorem b193_0 : blk 193 0 = [(.aload 0, 0), (.checkcast 0, 2), (.iload 1, 0), (.iconst (6), 0), (.imul, 0), (.iload 2, 0), (.iadd, 0), (.invokestatic 61, 2), (.ireturn, 0)] := rfl
/-! 194: DiceLaw$Book.take(LDiceLaw$Book;)V -/
theorem eL194 : eL (mOf 194) = 2 := rfl
theorem b194_0 : blk 194 0 = [(.aload 0, 0), (.aload 1, 0), (.getfield 0, 0), (.putfield 0, 0), (.aload 1, 0), (.checkcast 0, 1), (.aload 0, 0), (.checkcast 0, 1), (.invokestatic 68, 2), (.aload 1, 0), (.checkcast 0, 2), (.aload 0, 0), (.checkcast 0, 2), (.invokestatic 68, 2), (.return_, 0)] := rfl
/-! 195: DiceLaw$Chances.<init>()V -/
theorem eL195 : eL (mOf 195) = 1 := rfl
theorem b195_0 : blk 195 0 = [(.aload 0, 0), (.monitorexit, 0), (.aload 0, 0), (.new 9, 13), (.dup, 0), (.invokeinterface 261 1, 9), (.instanceof 1, 0), (.aload 0, 0), (.new 5, 3), (.dup, 0), (.invokeinterface 236 1, 5), (.instanceof 1, 1), (.aload 0, 0), (.iconst (30), 0), (.newarray .int, 0), (.instanceof 1, 2), (.aload 0, 0), (.iconst (30), 0), (.newarray .int, 0), (.instanceof 1, 3), (.aload 0, 0), (.iconst (5), 0), (.newarray .int, 0), (.instanceof 1, 4), (.aload 0, 0), (.iconst (5), 0), (.newarray .int, 0), (.instanceof 1, 5), (.aload 0, 0), (.iconst (5), 0), (.newarray .int, 0), (.instanceof 1, 6), (.aload 0, 0), (.iconst (30), 0), (.newarray .long, 0), (.instanceof 1, 7), (.aload 0, 0), (.iconst (30), 0), (.newarray .long, 0), (.instanceof 1, 8), (.return_, 0)] := rfl
/-! 196: DiceLaw$Chances.ask(III)J -/
theorem eL196 : eL (mOf 196) = 4 := rfl
theorem b196_0 : blk 196 0 = [(.aload 0, 0), (.iload 1, 0), (.putfield 1, 9), (.aload 0, 0), (.iload 2, 0), (.putfield 1, 10), (.aload 0, 0), (.iload 3, 0), (.putfield 1, 11), (.aload 0, 0), (.sipush (0), 0), (.putstatic 1, 12), (.aload 0, 0), (.sipush (0), 0), (.putstatic 1, 13), (.aload 0, 0), (.iconst (0), 0), (.putfield 1, 14), (.aload 0, 0), (.checkcast 1, 7), (.aload 0, 0), (.checkcast 1, 7), (.arraylength, 0), (.invokestatic 66, 2), (.aload 0, 0), (.checkcast 1, 8), (.aload 0, 0), (.checkcast 1, 8), (.arraylength, 0), (.invokestatic 66, 2), (.aload 0, 0), (.invokeinterface 197 1, 1), (.aload 0, 0), (.iconst (0), 0), (.iconst (0), 0), (.sipush (1), 0), (.sipush (1), 0), (.invokeinterface 200 5, 1), (.aload 0, 0), (.getstatic 1, 12), (.lreturn, 0)] := rfl
/-! 197: DiceLaw$Chances.sortKinds()V -/
theorem eL197 : eL (mOf 197) = 5 := rfl
theorem b197_0 : blk 197 0 = [(.aload 0, 0), (.checkcast 1, 1), (.invokeinterface 237 1, 5), (.iconst (0), 0), (.istore 1, 0), (.jsr 1, 0)] := rfl
theorem b197_1 : blk 197 1 = [(.iload 1, 0), (.aload 0, 0), (.checkcast 1, 0), (.getfield 9, 0), (.iconst (6), 0), (.imul, 0), (.if_icmp .ge 3, 0), (.iload 1, 0), (.iconst (6), 0), (.idiv, 0), (.istore 2, 0), (.aload 0, 0), (.checkcast 1, 0), (.checkcast 9, 2), (.iload 1, 0), (.invokestatic 61, 2), (.istore 3, 0), (.iconst (-1), 0), (.istore 4, 0), (.iload 3, 0), (.ifCond .le 2, 0), (.aload 0, 0), (.checkcast 1, 1), (.iload 2, 0), (.aload 0, 0), (.aload 0, 0), (.checkcast 1, 0), (.iload 2, 0), (.iload 1, 0), (.iconst (6), 0), (.irem, 0), (.invokeinterface 266 3, 9), (.iload 1, 0), (.iconst (6), 0), (.irem, 0), (.invokeinterface 198 3, 1), (.iload 3, 0), (.invokeinterface 238 4, 5), (.istore 4, 0), (.aload 0, 0), (.checkcast 1, 3), (.iload 2, 0), (.iconst (6), 0), (.imul, 0), (.iload 4, 0), (.iadd, 0), (.aload 0, 0), (.checkcast 1, 0), (.checkcast 9, 8), (.iload 1, 0), (.invokestatic 61, 2), (.invokestatic 63, 3), (.jsr 2, 0)] := rfl
theorem b197_2 : blk 197 2 = [(.aload 0, 0), (.checkcast 1, 2), (.iload 1, 0), (.iload 4, 0), (.invokestatic 63, 3), (.iinc 1 (1), 0), (.goto 1, 0)] := rfl
theorem b197_3 : blk 197 3 = [(.return_, 0)] := rfl
/-! 198: DiceLaw$Chances.meaning(II)I -/
theorem eL198 : eL (mOf 198) = 4 := rfl
theorem b198_0 : blk 198 0 = [(.aload 0, 0), (.getfield 1, 9), (.iconst (6), 0), (.if_icmp .ne 1, 0), (.iload 2, 0), (.ireturn, 0)] := rfl
theorem b198_1 : blk 198 1 = [(.iload 1, 0), (.iconst (50), 0), (.if_icmp .lt 2, 0), (.iload 1, 0), (.ireturn, 0)] := rfl
theorem b198_2 : blk 198 2 = [(.iload 1, 0), (.iconst (40), 0), (.if_icmp .lt 3, 0), (.iconst (40), 0), (.aload 0, 0), (.checkcast 1, 0), (.iload 1, 0), (.iconst (40), 0), (.isub, 0), (.invokeinterface 272 2, 9), (.iadd, 0), (.ireturn, 0)] := rfl
theorem b198_3 : blk 198 3 = [(.aload 0, 0), (.getfield 1, 9), (.iconst (4), 0), (.if_icmp .ne 6, 0), (.iload 1, 0), (.iconst (20), 0), (.if_icmp .lt 4, 0), (.iload 1, 0), (.iconst (30), 0), (.if_icmp .ge 4, 0), (.iconst (20), 0), (.goto 5, 0)] := rfl
theorem b198_4 : blk 198 4 = [(.iconst (0), 0), (.jsr 5, 0)] := rfl
theorem b198_5 : blk 198 5 = [(.ireturn, 0)] := rfl
theorem b198_6 : blk 198 6 = [(.aload 0, 0), (.getfield 1, 9), (.iconst (5), 0), (.if_icmp .ne 11, 0), (.aload 0, 0), (.getfield 1, 11), (.ifCond .ne 7, 0), (.iconst (10), 0), (.goto 8, 0)] := rfl
theorem b198_7 : blk 198 7 = [(.iconst (0), 0), (.jsr 8, 0)] := rfl
theorem b198_8 : blk 198 8 = [(.istore 3, 0), (.iload 1, 0), (.aload 0, 0), (.getfield 1, 11), (.if_icmp .ne 9, 0), (.aload 0, 0), (.getfield 1, 11), (.goto 10, 0)] := rfl
theorem b198_9 : blk 198 9 = [(.iload 3, 0), (.jsr 10, 0)] := rfl
theorem b198_10 : blk 198 10 = [(.ireturn, 0)] := rfl
theorem b198_11 : blk 198 11 = [(.iload 1, 0), (.iconst (10), 0), (.irem, 0), (.istore 3, 0), (.iload 1, 0), (.iconst (10), 0), (.if_icmp .lt 13, 0), (.iload 3, 0), (.aload 0, 0), (.getfield 1, 10), (.if_icmp .eq 12, 0), (.iload 3, 0), (.aload 0, 0), (.getfield 1, 11), (.if_icmp .ne 13, 0), (.jsr 12, 0)] := rfl
theorem b198_12 : blk 198 12 = [(.aload 0, 0), (.iload 1, 0), (.invokeinterface 199 2, 1), (.ifCond .eq 13, 0), (.iload 1, 0), (.goto 14, 0)] := rfl
theorem b198_13 : blk 198 13 = [(.iconst (0), 0), (.jsr 14, 0)] := rfl
theorem b198_14 : blk 198 14 = [(.ireturn, 0)] := rfl
/-! 199: DiceLaw$Chances.bears(I)Z -/
theorem eL199 : eL (mOf 199) = 2 := rfl
theorem b199_0 : blk 199 0 = [(.aload 0, 0), (.getfield 1, 9), (.iconst (1), 0), (.if_icmp .ne 1, 0), (.iconst (1), 0), (.ireturn, 1)] := rfl
theorem b199_1 : blk 199 1 = [(.aload 0, 0), (.getfield 1, 9), (.iconst (2), 0), (.if_icmp .ne 3, 0), (.iload 1, 0), (.iconst (20), 0), (.if_icmp .lt 2, 0), (.iload 1, 0), (.iconst (30), 0), (.if_icmp .ge 2, 0), (.iconst (1), 0), (.goto 5, 0)] := rfl
theorem b199_2 : blk 199 2 = [(.iconst (0), 0), (.goto 5, 0)] := rfl
theorem b199_3 : blk 199 3 = [(.iload 1, 0), (.iconst (30), 0), (.if_icmp .ge 4, 0), (.iconst (1), 0), (.goto 5, 0)] := rfl
theorem b199_4 : blk 199 4 = [(.iconst (0), 0), (.jsr 5, 0)] := rfl
theorem b199_5 : blk 199 5 = [(.ireturn, 1)] := rfl
/-! 200: DiceLaw$Chances.lay(IIJJ)V -/
theorem eL200 : eL (mOf 200) = 12 := rfl
theorem b200_0 : blk 200 0 = [(.iload 1, 0), (.aload 0, 0), (.checkcast 1, 0), (.getfield 9, 0), (.if_icmp .lt 7, 0), (.lload 5, 0), (.sipush (0), 0), (.lcmp, 0), (.ifCond .ne 1, 0), (.sipush (0), 0), (.goto 2, 0)] := rfl
theorem b200_1 : blk 200 1 = [(.aload 0, 0), (.checkcast 1, 0), (.checkcast 9, 11), (.iload 2, 0), (.invokestatic 62, 2), (.lload 5, 0), (.ldiv, 0), (.lload 3, 0), (.lmul, 0), (.jsr 2, 0)] := rfl
theorem b200_2 : blk 200 2 = [(.lstore 7, 0), (.aload 0, 0), (.getfield 1, 9), (.iconst (6), 0), (.if_icmp .ne 3, 0), (.aload 0, 0), (.lload 7, 0), (.invokeinterface 202 2, 1), (.goto 6, 0)] := rfl
theorem b200_3 : blk 200 3 = [(.lload 7, 0), (.sipush (0), 0), (.lcmp, 0), (.ifCond .le 6, 0), (.aload 0, 0), (.lload 7, 0), (.aload 0, 0), (.invokeinterface 203 1, 1), (.ifCond .eq 4, 0), (.lload 7, 0), (.goto 5, 0)] := rfl
theorem b200_4 : blk 200 4 = [(.sipush (0), 0), (.jsr 5, 0)] := rfl
theorem b200_5 : blk 200 5 = [(.invokeinterface 201 3, 1), (.jsr 6, 0)] := rfl
theorem b200_6 : blk 200 6 = [(.return_, 0)] := rfl
theorem b200_7 : blk 200 7 = [(.aload 0, 0), (.checkcast 1, 0), (.checkcast 9, 9), (.iload 1, 0), (.invokestatic 61, 2), (.istore 7, 0), (.iconst (0), 0), (.istore 8, 0), (.jsr 8, 0)] := rfl
theorem b200_8 : blk 200 8 = [(.iload 8, 0), (.aload 0, 0), (.checkcast 1, 1), (.checkcast 5, 0), (.iload 1, 0), (.invokestatic 61, 2), (.if_icmp .ge 11, 0), (.aload 0, 0), (.checkcast 1, 3), (.iload 1, 0), (.iconst (6), 0), (.imul, 0), (.iload 8, 0), (.iadd, 0), (.invokestatic 61, 2), (.istore 9, 0), (.aload 0, 0), (.checkcast 1, 1), (.iload 1, 0), (.iload 8, 0), (.invokeinterface 240 3, 5), (.istore 10, 0), (.aload 0, 0), (.checkcast 1, 0), (.checkcast 9, 6), (.iload 1, 0), (.iload 9, 0), (.invokeinterface 240 3, 5), (.istore 11, 0), (.aload 0, 0), (.checkcast 1, 4), (.iload 1, 0), (.iload 8, 0), (.invokestatic 63, 3), (.aload 0, 0), (.checkcast 1, 5), (.iload 1, 0), (.aload 0, 0), (.checkcast 1, 1), (.iload 1, 0), (.iload 8, 0), (.invokeinterface 239 3, 5), (.invokestatic 63, 3), (.iload 10, 0), (.iload 11, 0), (.if_icmp .ne 9, 0), (.aload 0, 0), (.iload 1, 0), (.iconst (1), 0), (.iadd, 0), (.iload 2, 0), (.iload 9, 0), (.iload 7, 0), (.imul, 0), (.iadd, 0), (.lload 3, 0), (.lload 5, 0), (.invokeinterface 200 5, 1), (.goto 10, 0)] := rfl
theorem b200_9 : blk 200 9 = [(.aload 0, 0), (.iload 1, 0), (.iconst (1), 0), (.iadd, 0), (.iload 2, 0), (.iload 9, 0), (.iload 7, 0), (.imul, 0), (.iadd, 0), (.lload 3, 0), (.iload 10, 0), (.i2l, 0), (.lmul, 0), (.lload 5, 0), (.iload 11, 0), (.i2l, 0), (.lmul, 0), (.invokeinterface 200 5, 1), (.jsr 10, 0)] := rfl
theorem b200_10 : blk 200 10 = [(.iinc 8 (1), 0), (.goto 8, 0)] := rfl
theorem b200_11 : blk 200 11 = [(.return_, 0)] := rfl
/-! 201: DiceLaw$Chances.note(JJ)V -/
theorem eL201 : eL (mOf 201) = 6 := rfl
theorem b201_0 : blk 201 0 = [(.aload 0, 0), (.dup, 0), (.getstatic 1, 12), (.lload 3, 0), (.ladd, 0), (.putstatic 1, 12), (.aload 0, 0), (.getfield 1, 9), (.iconst (7), 0), (.if_icmp .eq 1, 0), (.return_, 0)] := rfl
theorem b201_1 : blk 201 1 = [(.iconst (0), 0), (.istore 5, 0), (.jsr 2, 0)] := rfl
theorem b201_2 : blk 201 2 = [(.iload 5, 0), (.aload 0, 0), (.checkcast 1, 0), (.getfield 9, 0), (.if_icmp .ge 3, 0), (.aload 0, 0), (.checkcast 1, 7), (.iload 5, 0), (.iconst (6), 0), (.imul, 0), (.aload 0, 0), (.checkcast 1, 4), (.iload 5, 0), (.invokestatic 61, 2), (.iadd, 0), (.lload 1, 0), (.invokestatic 65, 3), (.aload 0, 0), (.checkcast 1, 8), (.iload 5, 0), (.iconst (6), 0), (.imul, 0), (.aload 0, 0), (.checkcast 1, 4), (.iload 5, 0), (.invokestatic 61, 2), (.iadd, 0), (.lload 3, 0), (.invokestatic 65, 3), (.iinc 5 (1), 0), (.goto 2, 0)] := rfl
theorem b201_3 : blk 201 3 = [(.return_, 0)] := rfl
/-! 202: DiceLaw$Chances.noteFaces(J)V -/
theorem eL202 : eL (mOf 202) = 4 := rfl
theorem b202_0 : blk 202 0 = [(.lload 1, 0), (.aload 0, 0), (.getstatic 1, 13), (.lcmp, 0), (.ifCond .gt 1, 0), (.return_, 0)] := rfl
theorem b202_1 : blk 202 1 = [(.aload 0, 0), (.lload 1, 0), (.putstatic 1, 13), (.aload 0, 0), (.iconst (0), 0), (.putfield 1, 14), (.iconst (0), 0), (.istore 3, 0), (.jsr 2, 0)] := rfl
theorem b202_2 : blk 202 2 = [(.iload 3, 0), (.aload 0, 0), (.checkcast 1, 0), (.getfield 9, 0), (.if_icmp .ge 3, 0), (.aload 0, 0), (.aload 0, 0), (.getfield 1, 14), (.iconst (6), 0), (.imul, 0), (.aload 0, 0), (.checkcast 1, 5), (.iload 3, 0), (.invokestatic 61, 2), (.iadd, 0), (.putfield 1, 14), (.iinc 3 (1), 0), (.goto 2, 0)] := rfl
theorem b202_3 : blk 202 3 = [(.return_, 0)] := rfl
/-! 203: DiceLaw$Chances.isMet()Z -/
theorem eL203 : eL (mOf 203) = 3 := rfl
theorem b203_0 : blk 203 0 = [(.aload 0, 0), (.checkcast 1, 0), (.getfield 9, 0), (.istore 1, 0), (.iconst (0), 0), (.istore 2, 0), (.jsr 1, 0)] := rfl
theorem b203_1 : blk 203 1 = [(.iload 2, 0), (.iload 1, 0), (.if_icmp .ge 2, 0), (.aload 0, 0), (.checkcast 1, 6), (.iload 2, 0), (.aload 0, 0), (.checkcast 1, 5), (.iload 1, 0), (.iload 2, 0), (.invokestatic 75, 3), (.invokestatic 63, 3), (.iinc 2 (1), 0), (.goto 1, 0)] := rfl
theorem b203_2 : blk 203 2 = [(.aload 0, 0), (.getfield 1, 9), (.tableswitch 16 (1) (5) #[3, 4, 7, 10, 13], 0)] := rfl
theorem b203_3 : blk 203 3 = [(.aload 0, 0), (.checkcast 1, 6), (.iconst (0), 0), (.iload 1, 0), (.aload 0, 0), (.getfield 1, 10), (.invokestatic 79, 4), (.ireturn, 1)] := rfl
theorem b203_4 : blk 203 4 = [(.aload 0, 0), (.checkcast 1, 6), (.iconst (0), 0), (.iload 1, 0), (.iconst (20), 0), (.aload 0, 0), (.getfield 1, 10), (.iadd, 0), (.invokestatic 77, 4), (.ifCond .le 5, 0), (.iconst (1), 0), (.goto 6, 0)] := rfl
theorem b203_5 : blk 203 5 = [(.iconst (0), 0), (.jsr 6, 0)] := rfl
theorem b203_6 : blk 203 6 = [(.ireturn, 1)] := rfl
theorem b203_7 : blk 203 7 = [(.aload 0, 0), (.checkcast 1, 6), (.iconst (0), 0), (.iload 1, 0), (.aload 0, 0), (.getfield 1, 10), (.invokestatic 78, 4), (.ifCond .eq 8, 0), (.aload 0, 0), (.checkcast 1, 6), (.iconst (0), 0), (.iload 1, 0), (.aload 0, 0), (.getfield 1, 11), (.invokestatic 78, 4), (.ifCond .eq 8, 0), (.iconst (1), 0), (.goto 9, 0)] := rfl
theorem b203_8 : blk 203 8 = [(.iconst (0), 0), (.jsr 9, 0)] := rfl
theorem b203_9 : blk 203 9 = [(.ireturn, 1)] := rfl
theorem b203_10 : blk 203 10 = [(.aload 0, 0), (.checkcast 1, 6), (.iconst (0), 0), (.iload 1, 0), (.iconst (20), 0), (.invokestatic 77, 4), (.ifCond .ne 11, 0), (.iconst (1), 0), (.goto 12, 0)] := rfl
theorem b203_11 : blk 203 11 = [(.iconst (0), 0), (.jsr 12, 0)] := rfl
theorem b203_12 : blk 203 12 = [(.ireturn, 1)] := rfl
theorem b203_13 : blk 203 13 = [(.aload 0, 0), (.checkcast 1, 6), (.aload 0, 0), (.getfield 1, 10), (.invokestatic 61, 2), (.aload 0, 0), (.getfield 1, 11), (.if_icmp .ne 14, 0), (.iconst (1), 0), (.goto 15, 0)] := rfl
theorem b203_14 : blk 203 14 = [(.iconst (0), 0), (.jsr 15, 0)] := rfl
theorem b203_15 : blk 203 15 = [(.ireturn, 1)] := rfl
theorem b203_16 : blk 203 16 = [(.aload 0, 0), (.checkcast 1, 6), (.iconst (0), 0), (.iload 1, 0), (.aload 0, 0), (.getfield 1, 10), (.invokestatic 78, 4), (.ireturn, 1)] := rfl
/-! 204: DiceLaw$Chances.allBy(II)J -/
theorem eL204 : eL (mOf 204) = 4 := rfl
theorem b204_0 : blk 204 0 = [(.aload 0, 0), (.checkcast 1, 2), (.iload 1, 0), (.iconst (6), 0), (.imul, 0), (.iload 2, 0), (.iadd, 0), (.invokestatic 61, 2), (.istore 3, 0), (.iload 3, 0), (.iconst (-1), 0), (.if_icmp .ne 1, 0), (.sipush (0), 0), (.goto 2, 0)] := rfl
theorem b204_1 : blk 204 1 = [(.aload 0, 0), (.checkcast 1, 7), (.iload 1, 0), (.iconst (6), 0), (.imul, 0), (.iload 3, 0), (.iadd, 0), (.invokestatic 62, 2), (.jsr 2, 0)] := rfl
theorem b204_2 : blk 204 2 = [(.lreturn, 0)] := rfl
/-! 205: DiceLaw$Chances.metBy(II)J -/
theorem eL205 : eL (mOf 205) = 4 := rfl
theorem b205_0 : blk 205 0 = [(.aload 0, 0), (.checkcast 1, 2), (.iload 1, 0), (.iconst (6), 0), (.imul, 0), (.iload 2, 0), (.iadd, 0), (.invokestatic 61, 2), (.istore 3, 0), (.iload 3, 0), (.iconst (-1), 0), (.if_icmp .ne 1, 0), (.sipush (0), 0), (.goto 2, 0)] := rfl
theorem b205_1 : blk 205 1 = [(.aload 0, 0), (.checkcast 1, 8), (.iload 1, 0), (.iconst (6), 0), (.imul, 0), (.iload 3, 0), (.iadd, 0), (.invokestatic 62, 2), (.jsr 2, 0)] := rfl
theorem b205_2 : blk 205 2 = [(.lreturn, 0)] := rfl
/-! 206: DiceLaw$Cursor.<init>()V -/
theorem eL206 : eL (mOf 206) = 1 := rfl
theorem b206_0 : blk 206 0 = [(.aload 0, 0), (.monitorexit, 0), (.return_, 0)] := rfl
/-! 207: DiceLaw$Cursor.start(LDiceLaw$Text;)V -/
theorem eL207 : eL (mOf 207) = 2 := rfl
theorem b207_0 : blk 207 0 = [(.aload 0, 0), (.aload 1, 0), (.instanceof 2, 0), (.aload 0, 0), (.iconst (0), 0), (.putfield 2, 1), (.aload 0, 0), (.iconst (-1), 0), (.putfield 2, 2), (.return_, 0)] := rfl
/-! 208: DiceLaw$Cursor.peek()I -/
theorem eL208 : eL (mOf 208) = 2 := rfl
theorem b208_0 : blk 208 0 = [(.aload 0, 0), (.getfield 2, 2), (.iconst (-1), 0), (.if_icmp .ne 1, 0), (.aload 0, 0), (.checkcast 2, 0), (.ifnonnull 2, 0), (.jsr 1, 0)] := rfl
theorem b208_1 : blk 208 1 = [(.iconst (0), 0), (.ireturn, 0)] := rfl
theorem b208_2 : blk 208 2 = [(.aload 0, 0), (.checkcast 2, 0), (.checkcast 8, 0), (.astore 1, 0), (.jsr 3, 0)] := rfl
theorem b208_3 : blk 208 3 = [(.aload 0, 0), (.getfield 2, 1), (.ifCond .lt 5, 0), (.aload 0, 0), (.getfield 2, 1), (.aload 0, 0), (.checkcast 2, 0), (.getfield 8, 1), (.if_icmp .ge 5, 0), (.aload 0, 0), (.getfield 2, 1), (.aload 1, 0), (.arraylength, 0), (.if_icmp .ge 5, 0), (.aload 1, 0), (.aload 0, 0), (.getfield 2, 1), (.iaload, 0), (.iconst (32), 0), (.if_icmp .eq 4, 0), (.aload 1, 0), (.aload 0, 0), (.getfield 2, 1), (.iaload, 0), (.ireturn, 0)] := rfl
theorem b208_4 : blk 208 4 = [(.aload 0, 0), (.dup, 0), (.getfield 2, 1), (.iconst (1), 0), (.iadd, 0), (.putfield 2, 1), (.goto 3, 0)] := rfl
theorem b208_5 : blk 208 5 = [(.iconst (0), 0), (.ireturn, 0)] := rfl
/-! 209: DiceLaw$Cursor.here()I -/
theorem eL209 : eL (mOf 209) = 1 := rfl
theorem b209_0 : blk 209 0 = [(.aload 0, 0), (.checkcast 2, 0), (.ifnull 1, 0), (.aload 0, 0), (.getfield 2, 1), (.ifCond .lt 1, 0), (.aload 0, 0), (.getfield 2, 1), (.aload 0, 0), (.checkcast 2, 0), (.getfield 8, 1), (.if_icmp .ge 1, 0), (.aload 0, 0), (.getfield 2, 1), (.aload 0, 0), (.checkcast 2, 0), (.checkcast 8, 0), (.arraylength, 0), (.if_icmp .lt 2, 0), (.jsr 1, 0)] := rfl
theorem b209_1 : blk 209 1 = [(.iconst (0), 0), (.ireturn, 0)] := rfl
theorem b209_2 : blk 209 2 = [(.aload 0, 0), (.checkcast 2, 0), (.checkcast 8, 0), (.aload 0, 0), (.getfield 2, 1), (.iaload, 0), (.ireturn, 0)] := rfl
/-! 210: DiceLaw$Cursor.step()V -/
theorem eL210 : eL (mOf 210) = 1 := rfl
theorem b210_0 : blk 210 0 = [(.aload 0, 0), (.dup, 0), (.getfield 2, 1), (.iconst (1), 0), (.iadd, 0), (.putfield 2, 1), (.return_, 0)] := rfl
/-! 211: DiceLaw$Cursor.accept(I)Z -/
theorem eL211 : eL (mOf 211) = 2 := rfl
theorem b211_0 : blk 211 0 = [(.aload 0, 0), (.invokeinterface 208 1, 2), (.iload 1, 0), (.if_icmp .eq 1, 0), (.iconst (0), 0), (.ireturn, 1)] := rfl
theorem b211_1 : blk 211 1 = [(.aload 0, 0), (.dup, 0), (.getfield 2, 1), (.iconst (1), 0), (.iadd, 0), (.putfield 2, 1), (.iconst (1), 0), (.ireturn, 1)] := rfl
/-! 212: DiceLaw$Cursor.need(I)V -/
theorem eL212 : eL (mOf 212) = 2 := rfl
theorem b212_0 : blk 212 0 = [(.aload 0, 0), (.invokeinterface 208 1, 2), (.iload 1, 0), (.if_icmp .ne 1, 0), (.aload 0, 0), (.dup, 0), (.getfield 2, 1), (.iconst (1), 0), (.iadd, 0), (.putfield 2, 1), (.goto 2, 0)] := rfl
theorem b212_1 : blk 212 1 = [(.aload 0, 0), (.invokeinterface 215 1, 2), (.jsr 2, 0)] := rfl
theorem b212_2 : blk 212 2 = [(.return_, 0)] := rfl
/-! 213: DiceLaw$Cursor.needEnd()V -/
theorem eL213 : eL (mOf 213) = 1 := rfl
theorem b213_0 : blk 213 0 = [(.aload 0, 0), (.invokeinterface 208 1, 2), (.ifCond .eq 1, 0), (.aload 0, 0), (.invokeinterface 215 1, 2), (.jsr 1, 0)] := rfl
theorem b213_1 : blk 213 1 = [(.return_, 0)] := rfl
/-! 214: DiceLaw$Cursor.needOneOf(II)I -/
theorem eL214 : eL (mOf 214) = 4 := rfl
theorem b214_0 : blk 214 0 = [(.aload 0, 0), (.invokeinterface 208 1, 2), (.istore 3, 0), (.iload 3, 0), (.iload 1, 0), (.if_icmp .lt 1, 0), (.iload 3, 0), (.iload 2, 0), (.if_icmp .le 2, 0), (.jsr 1, 0)] := rfl
theorem b214_1 : blk 214 1 = [(.aload 0, 0), (.invokeinterface 215 1, 2), (.iconst (0), 0), (.ireturn, 0)] := rfl
theorem b214_2 : blk 214 2 = [(.aload 0, 0), (.dup, 0), (.getfield 2, 1), (.iconst (1), 0), (.iadd, 0), (.putfield 2, 1), (.iload 3, 0), (.iload 1, 0), (.isub, 0), (.ireturn, 0)] := rfl
/-! 215: DiceLaw$Cursor.fail()V -/
theorem eL215 : eL (mOf 215) = 1 := rfl
theorem b215_0 : blk 215 0 = [(.aload 0, 0), (.getfield 2, 2), (.iconst (-1), 0), (.if_icmp .ne 1, 0), (.aload 0, 0), (.aload 0, 0), (.getfield 2, 1), (.putfield 2, 2), (.jsr 1, 0)] := rfl
theorem b215_1 : blk 215 1 = [(.return_, 0)] := rfl
/-! 216: DiceLaw$Diary.<init>()V -/
theorem eL216 : eL (mOf 216) = 1 := rfl
theorem b216_0 : blk 216 0 = [(.aload 0, 0), (.monitorexit, 0), (.aload 0, 0), (.iconst (200), 0), (.newarray .int, 0), (.instanceof 3, 4), (.aload 0, 0), (.iconst (200), 0), (.newarray .int, 0), (.instanceof 3, 5), (.aload 0, 0), (.iconst (40), 0), (.newarray .int, 0), (.instanceof 3, 6), (.aload 0, 0), (.iconst (240), 0), (.newarray .int, 0), (.instanceof 3, 7), (.aload 0, 0), (.iconst (40), 0), (.newarray .long, 0), (.instanceof 3, 8), (.aload 0, 0), (.iconst (5), 0), (.newarray .int, 0), (.instanceof 3, 9), (.return_, 0)] := rfl
/-! 217: DiceLaw$Diary.has(I)Z -/
theorem eL217 : eL (mOf 217) = 2 := rfl
theorem b217_0 : blk 217 0 = [(.iload 1, 0), (.ifCond .lt 1, 0), (.iload 1, 0), (.aload 0, 0), (.getfield 3, 2), (.if_icmp .ge 1, 0), (.iconst (1), 0), (.goto 2, 0)] := rfl
theorem b217_1 : blk 217 1 = [(.iconst (0), 0), (.jsr 2, 0)] := rfl
theorem b217_2 : blk 217 2 = [(.ireturn, 1)] := rfl
/-! 218: DiceLaw$Diary.add(LDiceLaw$Book;[IIJ)I -/
theorem eL218 : eL (mOf 218) = 8 := rfl
theorem b218_0 : blk 218 0 = [(.aload 0, 0), (.aload 1, 0), (.getfield 0, 0), (.putfield 3, 1), (.iconst (0), 0), (.istore 6, 0), (.jsr 1, 0)] := rfl
theorem b218_1 : blk 218 1 = [(.iload 6, 0), (.aload 0, 0), (.getfield 3, 1), (.if_icmp .ge 2, 0), (.aload 1, 0), (.iload 6, 0), (.aload 2, 0), (.iload 6, 0), (.invokestatic 61, 2), (.invokeinterface 192 3, 0), (.istore 7, 0), (.aload 0, 0), (.checkcast 3, 4), (.aload 0, 0), (.getfield 3, 2), (.iconst (5), 0), (.imul, 0), (.iload 6, 0), (.iadd, 0), (.aload 2, 0), (.iload 6, 0), (.invokestatic 61, 2), (.invokestatic 63, 3), (.aload 0, 0), (.checkcast 3, 9), (.iload 6, 0), (.iload 7, 0), (.aload 0, 0), (.getfield 3, 1), (.aload 0, 0), (.iload 6, 0), (.invokeinterface 223 2, 3), (.invokestatic 74, 3), (.invokestatic 63, 3), (.iinc 6 (1), 0), (.goto 1, 0)] := rfl
theorem b218_2 : blk 218 2 = [(.iconst (0), 0), (.istore 6, 0), (.jsr 3, 0)] := rfl
theorem b218_3 : blk 218 3 = [(.iload 6, 0), (.aload 0, 0), (.getfield 3, 1), (.if_icmp .ge 4, 0), (.aload 0, 0), (.checkcast 3, 5), (.aload 0, 0), (.getfield 3, 2), (.iconst (5), 0), (.imul, 0), (.iload 6, 0), (.iadd, 0), (.aload 0, 0), (.checkcast 3, 9), (.aload 0, 0), (.getfield 3, 1), (.iload 6, 0), (.invokestatic 75, 3), (.invokestatic 63, 3), (.iinc 6 (1), 0), (.goto 3, 0)] := rfl
theorem b218_4 : blk 218 4 = [(.aload 0, 0), (.checkcast 3, 6), (.aload 0, 0), (.getfield 3, 2), (.iload 3, 0), (.invokestatic 63, 3), (.aload 0, 0), (.checkcast 3, 8), (.aload 0, 0), (.getfield 3, 2), (.lload 4, 0), (.invokestatic 64, 3), (.aload 0, 0), (.dup, 0), (.getfield 3, 2), (.iconst (1), 0), (.iadd, 0), (.putfield 3, 2), (.aload 0, 0), (.getfield 3, 2), (.ireturn, 0)] := rfl
/-! 219: DiceLaw$Diary.drop()I -/
theorem eL219 : eL (mOf 219) = 2 := rfl
theorem b219_0 : blk 219 0 = [(.aload 0, 0), (.dup, 0), (.getfield 3, 2), (.iconst (1), 0), (.isub, 0), (.putfield 3, 2), (.aload 0, 0), (.aload 0, 0), (.checkcast 3, 8), (.aload 0, 0), (.getfield 3, 2), (.invokestatic 62, 2), (.putstatic 3, 0), (.iconst (0), 0), (.istore 1, 0), (.jsr 1, 0)] := rfl
theorem b219_1 : blk 219 1 = [(.iload 1, 0), (.iconst (6), 0), (.if_icmp .ge 2, 0), (.aload 0, 0), (.dup, 0), (.getfield 3, 3), (.aload 0, 0), (.checkcast 3, 7), (.aload 0, 0), (.getfield 3, 2), (.iconst (6), 0), (.imul, 0), (.iload 1, 0), (.iadd, 0), (.invokestatic 61, 2), (.invokestatic 276, 1), (.isub, 0), (.putfield 3, 3), (.aload 0, 0), (.checkcast 3, 7), (.aload 0, 0), (.getfield 3, 2), (.iconst (6), 0), (.imul, 0), (.iload 1, 0), (.iadd, 0), (.iconst (0), 0), (.invokestatic 63, 3), (.iinc 1 (1), 0), (.goto 1, 0)] := rfl
theorem b219_2 : blk 219 2 = [(.aload 0, 0), (.getfield 3, 2), (.ireturn, 0)] := rfl
/-! 220: DiceLaw$Diary.digits(I)I -/
theorem eL220 : eL (mOf 220) = 4 := rfl
theorem b220_0 : blk 220 0 = [(.iconst (0), 0), (.istore 2, 0), (.iconst (0), 0), (.istore 3, 0), (.jsr 1, 0)] := rfl
theorem b220_1 : blk 220 1 = [(.iload 3, 0), (.aload 0, 0), (.getfield 3, 1), (.if_icmp .ge 2, 0), (.iload 2, 0), (.iconst (6), 0), (.imul, 0), (.aload 0, 0), (.iload 3, 0), (.iload 1, 0), (.invokeinterface 221 3, 3), (.iadd, 0), (.istore 2, 0), (.iinc 3 (1), 0), (.goto 1, 0)] := rfl
theorem b220_2 : blk 220 2 = [(.iload 2, 0), (.ireturn, 0)] := rfl
/-! 221: DiceLaw$Diary.faceOf(II)I -/
theorem eL221 : eL (mOf 221) = 3 := rfl
theorem b221_0 : blk 221 0 = [(.aload 0, 0), (.checkcast 3, 4), (.iload 2, 0), (.iconst (5), 0), (.imul, 0), (.iload 1, 0), (.iadd, 0), (.invokestatic 61, 2), (.ireturn, 0)] := rfl
/-! 222: DiceLaw$Diary.holdingOf(II)I -/
theorem eL222 : eL (mOf 222) = 3 := rfl
theorem b222_0 : blk 222 0 = [(.aload 0, 0), (.checkcast 3, 5), (.iload 2, 0), (.iconst (5), 0), (.imul, 0), (.iload 1, 0), (.iadd, 0), (.invokestatic 61, 2), (.ireturn, 0)] := rfl
/-! 223: DiceLaw$Diary.today(I)I -/
theorem eL223 : eL (mOf 223) = 2 := rfl
theorem b223_0 : blk 223 0 = [(.aload 0, 0), (.getfield 3, 2), (.ifCond .ne 1, 0), (.iconst (0), 0), (.goto 2, 0)] := rfl
theorem b223_1 : blk 223 1 = [(.aload 0, 0), (.iload 1, 0), (.aload 0, 0), (.getfield 3, 2), (.iconst (1), 0), (.isub, 0), (.invokeinterface 222 3, 3), (.jsr 2, 0)] := rfl
theorem b223_2 : blk 223 2 = [(.ireturn, 0)] := rfl
/-! 224: DiceLaw$Diary.by(II)I -/
theorem eL224 : eL (mOf 224) = 3 := rfl
theorem b224_0 : blk 224 0 = [(.aload 0, 0), (.checkcast 3, 5), (.iload 1, 0), (.iconst (5), 0), (.imul, 0), (.aload 0, 0), (.getfield 3, 1), (.iload 2, 0), (.invokestatic 77, 4), (.ireturn, 0)] := rfl
/-! 225: DiceLaw$Diary.lawfulOn(II)Z -/
theorem eL225 : eL (mOf 225) = 3 := rfl
theorem b225_0 : blk 225 0 = [(.aload 0, 0), (.checkcast 3, 5), (.iload 1, 0), (.iconst (5), 0), (.imul, 0), (.aload 0, 0), (.getfield 3, 1), (.iload 2, 0), (.invokestatic 78, 4), (.ireturn, 1)] := rfl
/-! 226: DiceLaw$Diary.boundOn(II)Z -/
theorem eL226 : eL (mOf 226) = 3 := rfl
theorem b226_0 : blk 226 0 = [(.aload 0, 0), (.checkcast 3, 5), (.iload 1, 0), (.iconst (5), 0), (.imul, 0), (.aload 0, 0), (.getfield 3, 1), (.iload 2, 0), (.invokestatic 79, 4), (.ireturn, 1)] := rfl
/-! 227: DiceLaw$Diary.isPeaceful(I)Z -/
theorem eL227 : eL (mOf 227) = 3 := rfl
theorem b227_0 : blk 227 0 = [(.iconst (0), 0), (.istore 2, 0), (.jsr 1, 0)] := rfl
theorem b227_1 : blk 227 1 = [(.iload 2, 0), (.iconst (6), 0), (.if_icmp .ge 3, 0), (.aload 0, 0), (.iload 1, 0), (.iconst (20), 0), (.iload 2, 0), (.iadd, 0), (.invokeinterface 224 3, 3), (.ifCond .le 2, 0), (.iconst (0), 0), (.ireturn, 1)] := rfl
theorem b227_2 : blk 227 2 = [(.iinc 2 (1), 0), (.goto 1, 0)] := rfl
theorem b227_3 : blk 227 3 = [(.iconst (1), 0), (.ireturn, 1)] := rfl
/-! 228: DiceLaw$Diary.did(III)Z -/
theorem eL228 : eL (mOf 228) = 4 := rfl
theorem b228_0 : blk 228 0 = [(.aload 0, 0), (.checkcast 3, 7), (.iload 3, 0), (.iconst (6), 0), (.imul, 0), (.iload 1, 0), (.iadd, 0), (.invokestatic 61, 2), (.iload 2, 0), (.ishr, 0), (.iconst (1), 0), (.iand, 0), (.ifCond .eq 1, 0), (.iconst (1), 0), (.goto 2, 0)] := rfl
theorem b228_1 : blk 228 1 = [(.iconst (0), 0), (.jsr 2, 0)] := rfl
theorem b228_2 : blk 228 2 = [(.ireturn, 1)] := rfl
/-! 229: DiceLaw$Diary.enter(III)I -/
theorem eL229 : eL (mOf 229) = 5 := rfl
theorem b229_0 : blk 229 0 = [(.iload 3, 0), (.iconst (6), 0), (.imul, 0), (.iload 1, 0), (.iadd, 0), (.istore 4, 0), (.aload 0, 0), (.checkcast 3, 7), (.iload 4, 0), (.aload 0, 0), (.checkcast 3, 7), (.iload 4, 0), (.invokestatic 61, 2), (.iconst (1), 0), (.iload 2, 0), (.ishl, 0), (.ior, 0), (.invokestatic 63, 3), (.aload 0, 0), (.dup, 0), (.getfield 3, 3), (.iconst (1), 0), (.iadd, 0), (.putfield 3, 3), (.aload 0, 0), (.getfield 3, 3), (.ireturn, 0)] := rfl
/-! 230: DiceLaw$Diary.breach(III)I -/
theorem eL230 : eL (mOf 230) = 6 := rfl
theorem b230_0 : blk 230 0 = [(.aload 0, 0), (.iload 1, 0), (.iload 2, 0), (.iload 3, 0), (.invokeinterface 228 4, 3), (.istore 4, 0), (.iload 4, 0), (.ifCond .eq 2, 0), (.aload 0, 0), (.iload 3, 0), (.iload 2, 0), (.invokeinterface 225 3, 3), (.ifCond .ne 1, 0), (.iconst (1), 0), (.goto 3, 0)] := rfl
theorem b230_1 : blk 230 1 = [(.iconst (0), 0), (.goto 3, 0)] := rfl
theorem b230_2 : blk 230 2 = [(.aload 0, 0), (.iload 3, 0), (.iload 2, 0), (.invokeinterface 226 3, 3), (.jsr 3, 0)] := rfl
theorem b230_3 : blk 230 3 = [(.istore 5, 0), (.iload 5, 0), (.ifCond .eq 6, 0), (.iconst (12), 0), (.iload 3, 0), (.imul, 0), (.iconst (2), 0), (.iload 2, 0), (.imul, 0), (.iadd, 0), (.iload 4, 0), (.ifCond .ne 4, 0), (.iconst (1), 0), (.goto 5, 0)] := rfl
theorem b230_4 : blk 230 4 = [(.iconst (0), 0), (.jsr 5, 0)] := rfl
theorem b230_5 : blk 230 5 = [(.invokestatic 69, 1), (.iadd, 0), (.goto 7, 0)] := rfl
theorem b230_6 : blk 230 6 = [(.iconst (-1), 0), (.jsr 7, 0)] := rfl
theorem b230_7 : blk 230 7 = [(.ireturn, 0)] := rfl
/-! 231: DiceLaw$Diary.take(LDiceLaw$Diary;)V -/
theorem eL231 : eL (mOf 231) = 3 := rfl
theorem b231_0 : blk 231 0 = [(.aload 0, 0), (.aload 1, 0), (.getstatic 3, 0), (.putstatic 3, 0), (.aload 0, 0), (.aload 1, 0), (.getfield 3, 1), (.putfield 3, 1), (.aload 0, 0), (.aload 1, 0), (.getfield 3, 2), (.putfield 3, 2), (.aload 0, 0), (.aload 1, 0), (.getfield 3, 3), (.putfield 3, 3), (.aload 1, 0), (.checkcast 3, 4), (.aload 0, 0), (.checkcast 3, 4), (.invokestatic 68, 2), (.aload 1, 0), (.checkcast 3, 5), (.aload 0, 0), (.checkcast 3, 5), (.invokestatic 68, 2), (.aload 1, 0), (.checkcast 3, 6), (.aload 0, 0), (.checkcast 3, 6), (.invokestatic 68, 2), (.aload 1, 0), (.checkcast 3, 7), (.aload 0, 0), (.checkcast 3, 7), (.invokestatic 68, 2), (.iconst (0), 0), (.istore 2, 0), (.jsr 1, 0)] := rfl
theorem b231_1 : blk 231 1 = [(.iload 2, 0), (.aload 0, 0), (.checkcast 3, 8), (.arraylength, 0), (.if_icmp .ge 2, 0), (.aload 0, 0), (.checkcast 3, 8), (.iload 2, 0), (.aload 1, 0), (.checkcast 3, 8), (.iload 2, 0), (.invokestatic 62, 2), (.invokestatic 64, 3), (.iinc 2 (1), 0), (.goto 1, 0)] := rfl
theorem b231_2 : blk 231 2 = [(.return_, 0)] := rfl
/-! 232: DiceLaw$Dice.<init>()V -/
theorem eL232 : eL (mOf 232) = 1 := rfl
theorem b232_0 : blk 232 0 = [(.aload 0, 0), (.monitorexit, 0), (.aload 0, 0), (.iconst (5), 0), (.newarray .int, 0), (.instanceof 4, 0), (.aload 0, 0), (.iconst (5), 0), (.newarray .int, 0), (.instanceof 4, 1), (.return_, 0)] := rfl
/-! 233: DiceLaw$Dice.lay(II)Z -/
theorem eL233 : eL (mOf 233) = 5 := rfl
theorem b233_0 : blk 233 0 = [(.iload 2, 0), (.istore 3, 0), (.iload 1, 0), (.iconst (1), 0), (.isub, 0), (.istore 4, 0), (.jsr 1, 0)] := rfl
theorem b233_1 : blk 233 1 = [(.iload 4, 0), (.ifCond .lt 2, 0), (.aload 0, 0), (.checkcast 4, 0), (.iload 4, 0), (.iload 3, 0), (.iconst (6), 0), (.irem, 0), (.invokestatic 63, 3), (.iload 3, 0), (.iconst (6), 0), (.idiv, 0), (.istore 3, 0), (.iinc 4 (-1), 0), (.goto 1, 0)] := rfl
theorem b233_2 : blk 233 2 = [(.iload 2, 0), (.ifCond .lt 3, 0), (.iload 3, 0), (.ifCond .ne 3, 0), (.iconst (1), 0), (.goto 4, 0)] := rfl
theorem b233_3 : blk 233 3 = [(.iconst (0), 0), (.jsr 4, 0)] := rfl
theorem b233_4 : blk 233 4 = [(.ireturn, 1)] := rfl
/-! 234: DiceLaw$Dice.throwAll(LDiceLaw$Book;J)J -/
theorem eL234 : eL (mOf 234) = 8 := rfl
theorem b234_0 : blk 234 0 = [(.aload 0, 0), (.lload 2, 0), (.putstatic 4, 3), (.aload 0, 0), (.iconst (0), 0), (.putfield 4, 2), (.iconst (0), 0), (.istore 4, 0), (.jsr 1, 0)] := rfl
theorem b234_1 : blk 234 1 = [(.iload 4, 0), (.aload 1, 0), (.getfield 0, 0), (.if_icmp .ge 2, 0), (.aload 0, 0), (.aload 1, 0), (.iload 4, 0), (.invokeinterface 235 3, 4), (.iinc 4 (1), 0), (.goto 1, 0)] := rfl
theorem b234_2 : blk 234 2 = [(.iconst (0), 0), (.istore 4, 0), (.iconst (0), 0), (.istore 5, 0), (.jsr 3, 0)] := rfl
theorem b234_3 : blk 234 3 = [(.iload 5, 0), (.iconst (3), 0), (.if_icmp .ge 5, 0), (.aload 0, 0), (.checkcast 4, 1), (.aload 1, 0), (.getfield 0, 0), (.iload 4, 0), (.invokestatic 76, 3), (.istore 6, 0), (.iload 6, 0), (.iconst (-1), 0), (.if_icmp .ne 4, 0), (.aload 0, 0), (.getstatic 4, 3), (.lreturn, 0)] := rfl
theorem b234_4 : blk 234 4 = [(.aload 0, 0), (.checkcast 4, 1), (.iload 6, 0), (.invokestatic 61, 2), (.istore 7, 0), (.iload 4, 0), (.iconst (1), 0), (.iload 6, 0), (.ishl, 0), (.ior, 0), (.iconst (1), 0), (.iload 7, 0), (.ishl, 0), (.iconst (-1), 0), (.ixor, 0), (.iand, 0), (.istore 4, 0), (.aload 0, 0), (.aload 1, 0), (.iload 7, 0), (.invokeinterface 235 3, 4), (.aload 0, 0), (.dup, 0), (.getfield 4, 2), (.iconst (1), 0), (.iadd, 0), (.putfield 4, 2), (.iinc 5 (1), 0), (.goto 3, 0)] := rfl
theorem b234_5 : blk 234 5 = [(.aload 0, 0), (.getstatic 4, 3), (.lreturn, 0)] := rfl
/-! 235: DiceLaw$Dice.throwOne(LDiceLaw$Book;I)V -/
theorem eL235 : eL (mOf 235) = 8 := rfl
theorem b235_0 : blk 235 0 = [(.aload 0, 0), (.aload 0, 0), (.getstatic 4, 3), (.sipush (6364136223846793005), 0), (.lmul, 0), (.sipush (1442695040888963407), 0), (.ladd, 0), (.putstatic 4, 3), (.aload 0, 0), (.getstatic 4, 3), (.iconst (33), 0), (.lushr, 0), (.sipush (12), 0), (.lrem, 0), (.lstore 3, 0), (.iconst (0), 0), (.istore 5, 0), (.aload 1, 0), (.iload 2, 0), (.iconst (0), 0), (.invokeinterface 193 3, 0), (.istore 6, 0), (.iconst (1), 0), (.istore 7, 0), (.jsr 1, 0)] := rfl
theorem b235_1 : blk 235 1 = [(.iload 7, 0), (.iconst (6), 0), (.if_icmp .ge 2, 0), (.iload 6, 0), (.i2l, 0), (.lload 3, 0), (.lcmp, 0), (.ifCond .gt 2, 0), (.iload 7, 0), (.istore 5, 0), (.iload 6, 0), (.aload 1, 0), (.iload 2, 0), (.iload 7, 0), (.invokeinterface 193 3, 0), (.iadd, 0), (.istore 6, 0), (.iinc 7 (1), 0), (.goto 1, 0)] := rfl
theorem b235_2 : blk 235 2 = [(.aload 0, 0), (.checkcast 4, 0), (.iload 2, 0), (.iload 5, 0), (.invokestatic 63, 3), (.aload 0, 0), (.checkcast 4, 1), (.iload 2, 0), (.aload 1, 0), (.iload 2, 0), (.iload 5, 0), (.invokeinterface 192 3, 0), (.aload 1, 0), (.getfield 0, 0), (.invokestatic 73, 2), (.invokestatic 63, 3), (.return_, 0)] := rfl
/-! 236: DiceLaw$Kinds.<init>()V -/
theorem eL236 : eL (mOf 236) = 1 := rfl
theorem b236_0 : blk 236 0 = [(.aload 0, 0), (.monitorexit, 0), (.aload 0, 0), (.iconst (5), 0), (.newarray .int, 0), (.instanceof 5, 0), (.aload 0, 0), (.iconst (30), 0), (.newarray .int, 0), (.instanceof 5, 1), (.aload 0, 0), (.iconst (30), 0), (.newarray .int, 0), (.instanceof 5, 2), (.return_, 0)] := rfl
/-! 237: DiceLaw$Kinds.empty()V -/
theorem eL237 : eL (mOf 237) = 2 := rfl
theorem b237_0 : blk 237 0 = [(.iconst (0), 0), (.istore 1, 0), (.jsr 1, 0)] := rfl
theorem b237_1 : blk 237 1 = [(.iload 1, 0), (.iconst (5), 0), (.if_icmp .ge 2, 0), (.aload 0, 0), (.checkcast 5, 0), (.iload 1, 0), (.iconst (0), 0), (.invokestatic 63, 3), (.iinc 1 (1), 0), (.goto 1, 0)] := rfl
theorem b237_2 : blk 237 2 = [(.return_, 0)] := rfl
/-! 238: DiceLaw$Kinds.add(III)I -/
theorem eL238 : eL (mOf 238) = 6 := rfl
theorem b238_0 : blk 238 0 = [(.aload 0, 0), (.checkcast 5, 0), (.iload 1, 0), (.invokestatic 61, 2), (.istore 4, 0), (.iconst (0), 0), (.istore 5, 0), (.jsr 1, 0)] := rfl
theorem b238_1 : blk 238 1 = [(.iload 5, 0), (.iload 4, 0), (.if_icmp .ge 3, 0), (.aload 0, 0), (.iload 1, 0), (.iload 5, 0), (.invokeinterface 239 3, 5), (.iload 2, 0), (.if_icmp .ne 2, 0), (.aload 0, 0), (.checkcast 5, 2), (.iload 1, 0), (.iconst (6), 0), (.imul, 0), (.iload 5, 0), (.iadd, 0), (.aload 0, 0), (.iload 1, 0), (.iload 5, 0), (.invokeinterface 240 3, 5), (.iload 3, 0), (.iadd, 0), (.invokestatic 63, 3), (.iload 5, 0), (.ireturn, 0)] := rfl
theorem b238_2 : blk 238 2 = [(.iinc 5 (1), 0), (.goto 1, 0)] := rfl
theorem b238_3 : blk 238 3 = [(.aload 0, 0), (.checkcast 5, 1), (.iload 1, 0), (.iconst (6), 0), (.imul, 0), (.iload 4, 0), (.iadd, 0), (.iload 2, 0), (.invokestatic 63, 3), (.aload 0, 0), (.checkcast 5, 2), (.iload 1, 0), (.iconst (6), 0), (.imul, 0), (.iload 4, 0), (.iadd, 0), (.iload 3, 0), (.invokestatic 63, 3), (.aload 0, 0), (.checkcast 5, 0), (.iload 1, 0), (.iload 4, 0), (.iconst (1), 0), (.iadd, 0), (.invokestatic 63, 3), (.iload 4, 0), (.ireturn, 0)] := rfl
/-! 239: DiceLaw$Kinds.signOf(II)I -/
theorem eL239 : eL (mOf 239) = 3 := rfl
theorem b239_0 : blk 239 0 = [(.aload 0, 0), (.checkcast 5, 1), (.iload 1, 0), (.iconst (6), 0), (.imul, 0), (.iload 2, 0), (.iadd, 0), (.invokestatic 61, 2), (.ireturn, 0)] := rfl
/-! 240: DiceLaw$Kinds.shareOf(II)I -/
theorem eL240 : eL (mOf 240) = 3 := rfl
theorem b240_0 : blk 240 0 = [(.aload 0, 0), (.checkcast 5, 2), (.iload 1, 0), (.iconst (6), 0), (.imul, 0), (.iload 2, 0), (.iadd, 0), (.invokestatic 61, 2), (.ireturn, 0)] := rfl
/-! 241: DiceLaw$LawReader.<init>()V -/
theorem eL241 : eL (mOf 241) = 1 := rfl
theorem b241_0 : blk 241 0 = [(.aload 0, 0), (.monitorexit, 0), (.aload 0, 0), (.new 2, 3), (.dup, 0), (.invokeinterface 206 1, 2), (.instanceof 6, 0), (.aload 0, 0), (.iconst (6), 0), (.newarray .int, 0), (.instanceof 6, 1), (.return_, 0)] := rfl
/-! 242: DiceLaw$LawReader.read(LDiceLaw$Text;)I -/
theorem eL242 : eL (mOf 242) = 3 := rfl
theorem b242_0 : blk 242 0 = [(.aload 0, 0), (.checkcast 6, 0), (.aload 1, 0), (.invokeinterface 207 2, 2), (.iconst (0), 0), (.istore 2, 0), (.jsr 1, 0)] := rfl
theorem b242_1 : blk 242 1 = [(.iload 2, 0), (.iconst (6), 0), (.if_icmp .ge 3, 0), (.iload 2, 0), (.ifCond .le 2, 0), (.aload 0, 0), (.checkcast 6, 0), (.iconst (44), 0), (.invokeinterface 212 2, 2), (.jsr 2, 0)] := rfl
theorem b242_2 : blk 242 2 = [(.aload 0, 0), (.checkcast 6, 1), (.iload 2, 0), (.aload 0, 0), (.invokeinterface 243 1, 6), (.invokestatic 63, 3), (.iinc 2 (1), 0), (.goto 1, 0)] := rfl
theorem b242_3 : blk 242 3 = [(.aload 0, 0), (.checkcast 6, 0), (.invokeinterface 213 1, 2), (.aload 0, 0), (.checkcast 6, 0), (.getfield 2, 2), (.ireturn, 0)] := rfl
/-! 243: DiceLaw$LawReader.readClause()I -/
theorem eL243 : eL (mOf 243) = 1 := rfl
theorem b243_0 : blk 243 0 = [(.aload 0, 0), (.checkcast 6, 0), (.iconst (46), 0), (.invokeinterface 211 2, 2), (.ifCond .eq 1, 0), (.iconst (0), 0), (.ireturn, 0)] := rfl
theorem b243_1 : blk 243 1 = [(.aload 0, 0), (.checkcast 6, 0), (.iconst (109), 0), (.invokeinterface 211 2, 2), (.ifCond .eq 2, 0), (.iconst (10), 0), (.aload 0, 0), (.checkcast 6, 0), (.iconst (97), 0), (.iconst (102), 0), (.invokeinterface 214 3, 2), (.iadd, 0), (.ireturn, 0)] := rfl
theorem b243_2 : blk 243 2 = [(.aload 0, 0), (.checkcast 6, 0), (.iconst (110), 0), (.invokeinterface 211 2, 2), (.ifCond .eq 3, 0), (.iconst (20), 0), (.aload 0, 0), (.checkcast 6, 0), (.iconst (97), 0), (.iconst (102), 0), (.invokeinterface 214 3, 2), (.iadd, 0), (.ireturn, 0)] := rfl
theorem b243_3 : blk 243 3 = [(.aload 0, 0), (.checkcast 6, 0), (.iconst (111), 0), (.invokeinterface 211 2, 2), (.ifCond .eq 4, 0), (.iconst (30), 0), (.aload 0, 0), (.checkcast 6, 0), (.iconst (97), 0), (.iconst (102), 0), (.invokeinterface 214 3, 2), (.iadd, 0), (.ireturn, 0)] := rfl
theorem b243_4 : blk 243 4 = [(.aload 0, 0), (.checkcast 6, 0), (.iconst (116), 0), (.invokeinterface 211 2, 2), (.ifCond .eq 5, 0), (.iconst (40), 0), (.aload 0, 0), (.checkcast 6, 0), (.iconst (48), 0), (.iconst (52), 0), (.invokeinterface 214 3, 2), (.iadd, 0), (.ireturn, 0)] := rfl
theorem b243_5 : blk 243 5 = [(.aload 0, 0), (.checkcast 6, 0), (.iconst (99), 0), (.invokeinterface 211 2, 2), (.ifCond .eq 6, 0), (.iconst (50), 0), (.aload 0, 0), (.checkcast 6, 0), (.iconst (48), 0), (.iconst (52), 0), (.invokeinterface 214 3, 2), (.iadd, 0), (.ireturn, 0)] := rfl
theorem b243_6 : blk 243 6 = [(.aload 0, 0), (.checkcast 6, 0), (.iconst (121), 0), (.invokeinterface 212 2, 2), (.iconst (60), 0), (.ireturn, 0)] := rfl
/-! 244: DiceLaw$RuleReader.<init>()V -/
theorem eL244 : eL (mOf 244) = 1 := rfl
theorem b244_0 : blk 244 0 = [(.aload 0, 0), (.monitorexit, 0), (.aload 0, 0), (.new 2, 3), (.dup, 0), (.invokeinterface 206 1, 2), (.instanceof 7, 0), (.aload 0, 0), (.iconst (6), 0), (.newarray .int, 0), (.instanceof 7, 1), (.return_, 0)] := rfl
/-! 245: DiceLaw$RuleReader.read(LDiceLaw$Text;[I)I -/
theorem eL245 : eL (mOf 245) = 4 := rfl
theorem b245_0 : blk 245 0 = [(.aload 2, 0), (.aload 0, 0), (.checkcast 7, 1), (.invokestatic 68, 2), (.aload 0, 0), (.checkcast 7, 0), (.aload 1, 0), (.invokeinterface 207 2, 2), (.aload 0, 0), (.iconst (0), 0), (.putfield 7, 2), (.aload 0, 0), (.iconst (0), 0), (.ret 7, 3), (.aload 0, 0), (.invokeinterface 246 1, 7), (.iconst (0), 0), (.istore 3, 0), (.jsr 1, 0)] := rfl
theorem b245_1 : blk 245 1 = [(.iload 3, 0), (.iconst (120), 0), (.if_icmp .ge 2, 0), (.aload 0, 0), (.checkcast 7, 0), (.iconst (59), 0), (.invokeinterface 211 2, 2), (.ifCond .eq 2, 0), (.aload 0, 0), (.invokeinterface 246 1, 7), (.iinc 3 (1), 0), (.goto 1, 0)] := rfl
theorem b245_2 : blk 245 2 = [(.aload 0, 0), (.checkcast 7, 0), (.invokeinterface 213 1, 2), (.aload 0, 0), (.checkcast 7, 0), (.getfield 2, 2), (.ireturn, 0)] := rfl
/-! 246: DiceLaw$RuleReader.readClause()V -/
theorem eL246 : eL (mOf 246) = 5 := rfl
theorem b246_0 : blk 246 0 = [(.aload 0, 0), (.checkcast 7, 0), (.iconst (121), 0), (.invokeinterface 212 2, 2), (.aload 0, 0), (.checkcast 7, 0), (.iconst (58), 0), (.invokeinterface 212 2, 2), (.aload 0, 0), (.checkcast 7, 0), (.invokeinterface 208 1, 2), (.istore 1, 0), (.iload 1, 0), (.iconst (33), 0), (.if_icmp .eq 1, 0), (.iload 1, 0), (.iconst (40), 0), (.if_icmp .ne 2, 0), (.jsr 1, 0)] := rfl
theorem b246_1 : blk 246 1 = [(.iconst (1), 0), (.goto 3, 0)] := rfl
theorem b246_2 : blk 246 2 = [(.iconst (0), 0), (.jsr 3, 0)] := rfl
theorem b246_3 : blk 246 3 = [(.istore 2, 0), (.iload 2, 0), (.ifCond .eq 4, 0), (.iconst (0), 0), (.goto 5, 0)] := rfl
theorem b246_4 : blk 246 4 = [(.aload 0, 0), (.iconst (0), 0), (.invokeinterface 250 2, 7), (.jsr 5, 0)] := rfl
theorem b246_5 : blk 246 5 = [(.istore 3, 0), (.iconst (1), 0), (.istore 4, 0), (.iload 2, 0), (.ifCond .ne 6, 0), (.aload 0, 0), (.checkcast 7, 0), (.invokeinterface 208 1, 2), (.invokestatic 256, 1), (.ifCond .eq 9, 0), (.jsr 6, 0)] := rfl
theorem b246_6 : blk 246 6 = [(.aload 0, 0), (.iload 2, 0), (.ifCond .ne 7, 0), (.iconst (1), 0), (.goto 8, 0)] := rfl
theorem b246_7 : blk 246 7 = [(.iconst (0), 0), (.jsr 8, 0)] := rfl
theorem b246_8 : blk 246 8 = [(.ret 7, 4), (.aload 0, 0), (.iload 3, 0), (.putfield 7, 5), (.aload 0, 0), (.iconst (0), 0), (.invokeinterface 247 2, 7), (.istore 4, 0), (.aload 0, 0), (.checkcast 7, 0), (.iconst (63), 0), (.invokeinterface 212 2, 2), (.aload 0, 0), (.iconst (0), 0), (.invokeinterface 250 2, 7), (.istore 3, 0), (.jsr 9, 0)] := rfl
theorem b246_9 : blk 246 9 = [(.iload 4, 0), (.ifCond .eq 10, 0), (.aload 0, 0), (.getfield 7, 3), (.ifCond .ne 10, 0), (.aload 0, 0), (.iload 3, 0), (.putfield 7, 2), (.aload 0, 0), (.iconst (1), 0), (.ret 7, 3), (.jsr 10, 0)] := rfl
theorem b246_10 : blk 246 10 = [(.return_, 0)] := rfl
/-! 247: DiceLaw$RuleReader.readCondition(I)Z -/
theorem eL247 : eL (mOf 247) = 4 := rfl
theorem b247_0 : blk 247 0 = [(.aload 0, 0), (.iload 1, 0), (.invokeinterface 248 2, 7), (.istore 2, 0), (.iconst (0), 0), (.istore 3, 0), (.jsr 1, 0)] := rfl
theorem b247_1 : blk 247 1 = [(.iload 3, 0), (.iconst (120), 0), (.if_icmp .ge 5, 0), (.aload 0, 0), (.checkcast 7, 0), (.iconst (124), 0), (.invokeinterface 211 2, 2), (.ifCond .eq 5, 0), (.aload 0, 0), (.iload 1, 0), (.invokeinterface 248 2, 7), (.ifCond .ne 2, 0), (.iload 2, 0), (.ifCond .eq 3, 0), (.jsr 2, 0)] := rfl
theorem b247_2 : blk 247 2 = [(.iconst (1), 0), (.goto 4, 0)] := rfl
theorem b247_3 : blk 247 3 = [(.iconst (0), 0), (.jsr 4, 0)] := rfl
theorem b247_4 : blk 247 4 = [(.istore 2, 0), (.iinc 3 (1), 0), (.goto 1, 0)] := rfl
theorem b247_5 : blk 247 5 = [(.iload 2, 0), (.ireturn, 1)] := rfl
/-! 248: DiceLaw$RuleReader.readTruth(I)Z -/
theorem eL248 : eL (mOf 248) = 4 := rfl
theorem b248_0 : blk 248 0 = [(.aload 0, 0), (.iload 1, 0), (.invokeinterface 249 2, 7), (.istore 2, 0), (.iconst (0), 0), (.istore 3, 0), (.jsr 1, 0)] := rfl
theorem b248_1 : blk 248 1 = [(.iload 3, 0), (.iconst (120), 0), (.if_icmp .ge 4, 0), (.aload 0, 0), (.checkcast 7, 0), (.iconst (38), 0), (.invokeinterface 211 2, 2), (.ifCond .eq 4, 0), (.aload 0, 0), (.iload 1, 0), (.invokeinterface 249 2, 7), (.ifCond .eq 2, 0), (.iload 2, 0), (.ifCond .eq 2, 0), (.iconst (1), 0), (.goto 3, 0)] := rfl
theorem b248_2 : blk 248 2 = [(.iconst (0), 0), (.jsr 3, 0)] := rfl
theorem b248_3 : blk 248 3 = [(.istore 2, 0), (.iinc 3 (1), 0), (.goto 1, 0)] := rfl
theorem b248_4 : blk 248 4 = [(.iload 2, 0), (.ireturn, 1)] := rfl
/-! 249: DiceLaw$RuleReader.readUnit(I)Z -/
theorem eL249 : eL (mOf 249) = 6 := rfl
theorem b249_0 : blk 249 0 = [(.aload 0, 0), (.getfield 7, 4), (.ifCond .eq 1, 0), (.iconst (0), 0), (.goto 2, 0)] := rfl
theorem b249_1 : blk 249 1 = [(.aload 0, 0), (.checkcast 7, 0), (.invokeinterface 208 1, 2), (.jsr 2, 0)] := rfl
theorem b249_2 : blk 249 2 = [(.istore 2, 0), (.iload 2, 0), (.iconst (33), 0), (.if_icmp .ne 5, 0), (.aload 0, 0), (.iload 1, 0), (.invokeinterface 254 2, 7), (.ifCond .eq 3, 0), (.aload 0, 0), (.iload 1, 0), (.iconst (1), 0), (.iadd, 0), (.invokeinterface 249 2, 7), (.ifCond .ne 3, 0), (.iconst (1), 0), (.goto 4, 0)] := rfl
theorem b249_3 : blk 249 3 = [(.iconst (0), 0), (.jsr 4, 0)] := rfl
theorem b249_4 : blk 249 4 = [(.ireturn, 1)] := rfl
theorem b249_5 : blk 249 5 = [(.iload 2, 0), (.iconst (40), 0), (.if_icmp .ne 8, 0), (.aload 0, 0), (.iload 1, 0), (.invokeinterface 254 2, 7), (.ifCond .eq 6, 0), (.aload 0, 0), (.iload 1, 0), (.iconst (1), 0), (.iadd, 0), (.invokeinterface 247 2, 7), (.ifCond .eq 6, 0), (.iconst (1), 0), (.goto 7, 0)] := rfl
theorem b249_6 : blk 249 6 = [(.iconst (0), 0), (.jsr 7, 0)] := rfl
theorem b249_7 : blk 249 7 = [(.istore 3, 0), (.aload 0, 0), (.checkcast 7, 0), (.iconst (41), 0), (.invokeinterface 212 2, 2), (.iload 3, 0), (.ireturn, 1)] := rfl
theorem b249_8 : blk 249 8 = [(.aload 0, 0), (.getfield 7, 4), (.ifCond .eq 9, 0), (.aload 0, 0), (.getfield 7, 5), (.goto 10, 0)] := rfl
theorem b249_9 : blk 249 9 = [(.aload 0, 0), (.iload 1, 0), (.invokeinterface 250 2, 7), (.jsr 10, 0)] := rfl
theorem b249_10 : blk 249 10 = [(.istore 3, 0), (.aload 0, 0), (.iconst (0), 0), (.ret 7, 4), (.aload 0, 0), (.checkcast 7, 0), (.invokeinterface 208 1, 2), (.istore 4, 0), (.iload 4, 0), (.invokestatic 256, 1), (.ifCond .ne 11, 0), (.aload 0, 0), (.checkcast 7, 0), (.invokeinterface 215 1, 2), (.iconst (0), 0), (.ireturn, 1)] := rfl
theorem b249_11 : blk 249 11 = [(.aload 0, 0), (.checkcast 7, 0), (.invokeinterface 210 1, 2), (.aload 0, 0), (.iload 1, 0), (.invokeinterface 250 2, 7), (.istore 5, 0), (.iload 4, 0), (.iconst (61), 0), (.if_icmp .ne 13, 0), (.iload 3, 0), (.iload 5, 0), (.if_icmp .ne 12, 0), (.iconst (1), 0), (.goto 17, 0)] := rfl
theorem b249_12 : blk 249 12 = [(.iconst (0), 0), (.goto 17, 0)] := rfl
theorem b249_13 : blk 249 13 = [(.iload 4, 0), (.iconst (60), 0), (.if_icmp .ne 15, 0), (.iload 3, 0), (.iload 5, 0), (.if_icmp .ge 14, 0), (.iconst (1), 0), (.goto 17, 0)] := rfl
theorem b249_14 : blk 249 14 = [(.iconst (0), 0), (.goto 17, 0)] := rfl
theorem b249_15 : blk 249 15 = [(.iload 3, 0), (.iload 5, 0), (.if_icmp .le 16, 0), (.iconst (1), 0), (.goto 17, 0)] := rfl
theorem b249_16 : blk 249 16 = [(.iconst (0), 0), (.jsr 17, 0)] := rfl
theorem b249_17 : blk 249 17 = [(.ireturn, 1)] := rfl
/-! 250: DiceLaw$RuleReader.readSum(I)I -/
theorem eL250 : eL (mOf 250) = 4 := rfl
theorem b250_0 : blk 250 0 = [(.aload 0, 0), (.iload 1, 0), (.invokeinterface 251 2, 7), (.istore 2, 0), (.iconst (0), 0), (.istore 3, 0), (.jsr 1, 0)] := rfl
theorem b250_1 : blk 250 1 = [(.iload 3, 0), (.iconst (120), 0), (.if_icmp .ge 5, 0), (.aload 0, 0), (.checkcast 7, 0), (.iconst (43), 0), (.invokeinterface 211 2, 2), (.ifCond .eq 2, 0), (.iload 2, 0), (.i2l, 0), (.aload 0, 0), (.iload 1, 0), (.invokeinterface 251 2, 7), (.i2l, 0), (.ladd, 0), (.invokestatic 257, 1), (.istore 2, 0), (.goto 4, 0)] := rfl
theorem b250_2 : blk 250 2 = [(.aload 0, 0), (.checkcast 7, 0), (.iconst (45), 0), (.invokeinterface 211 2, 2), (.ifCond .eq 3, 0), (.iload 2, 0), (.i2l, 0), (.aload 0, 0), (.iload 1, 0), (.invokeinterface 251 2, 7), (.i2l, 0), (.lsub, 0), (.invokestatic 257, 1), (.istore 2, 0), (.goto 4, 0)] := rfl
theorem b250_3 : blk 250 3 = [(.iload 2, 0), (.ireturn, 0)] := rfl
theorem b250_4 : blk 250 4 = [(.iinc 3 (1), 0), (.goto 1, 0)] := rfl
theorem b250_5 : blk 250 5 = [(.iload 2, 0), (.ireturn, 0)] := rfl
/-! 251: DiceLaw$RuleReader.readTerm(I)I -/
theorem eL251 : eL (mOf 251) = 5 := rfl
theorem b251_0 : blk 251 0 = [(.aload 0, 0), (.iload 1, 0), (.invokeinterface 252 2, 7), (.istore 2, 0), (.iconst (0), 0), (.istore 3, 0), (.jsr 1, 0)] := rfl
theorem b251_1 : blk 251 1 = [(.iload 3, 0), (.iconst (120), 0), (.if_icmp .ge 7, 0), (.aload 0, 0), (.checkcast 7, 0), (.iconst (42), 0), (.invokeinterface 211 2, 2), (.ifCond .eq 2, 0), (.iload 2, 0), (.i2l, 0), (.aload 0, 0), (.iload 1, 0), (.invokeinterface 252 2, 7), (.i2l, 0), (.lmul, 0), (.invokestatic 257, 1), (.istore 2, 0), (.goto 6, 0)] := rfl
theorem b251_2 : blk 251 2 = [(.aload 0, 0), (.checkcast 7, 0), (.iconst (47), 0), (.invokeinterface 211 2, 2), (.ifCond .eq 5, 0), (.aload 0, 0), (.iload 1, 0), (.invokeinterface 252 2, 7), (.istore 4, 0), (.iload 4, 0), (.ifCond .ne 3, 0), (.iconst (0), 0), (.goto 4, 0)] := rfl
theorem b251_3 : blk 251 3 = [(.iload 2, 0), (.iload 4, 0), (.idiv, 0), (.i2l, 0), (.invokestatic 257, 1), (.jsr 4, 0)] := rfl
theorem b251_4 : blk 251 4 = [(.istore 2, 0), (.goto 6, 0)] := rfl
theorem b251_5 : blk 251 5 = [(.iload 2, 0), (.ireturn, 0)] := rfl
theorem b251_6 : blk 251 6 = [(.iinc 3 (1), 0), (.goto 1, 0)] := rfl
theorem b251_7 : blk 251 7 = [(.iload 2, 0), (.ireturn, 0)] := rfl
/-! 252: DiceLaw$RuleReader.readAtom(I)I -/
theorem eL252 : eL (mOf 252) = 4 := rfl
theorem b252_0 : blk 252 0 = [(.aload 0, 0), (.checkcast 7, 0), (.invokeinterface 208 1, 2), (.istore 2, 0), (.iload 2, 0), (.iconst (48), 0), (.if_icmp .lt 1, 0), (.iload 2, 0), (.iconst (57), 0), (.if_icmp .gt 1, 0), (.aload 0, 0), (.invokeinterface 253 1, 7), (.ireturn, 0)] := rfl
theorem b252_1 : blk 252 1 = [(.iload 2, 0), (.iconst (91), 0), (.if_icmp .ne 4, 0), (.aload 0, 0), (.iload 1, 0), (.invokeinterface 254 2, 7), (.ifCond .eq 2, 0), (.aload 0, 0), (.iload 1, 0), (.iconst (1), 0), (.iadd, 0), (.invokeinterface 250 2, 7), (.goto 3, 0)] := rfl
theorem b252_2 : blk 252 2 = [(.iconst (0), 0), (.jsr 3, 0)] := rfl
theorem b252_3 : blk 252 3 = [(.istore 3, 0), (.aload 0, 0), (.checkcast 7, 0), (.iconst (93), 0), (.invokeinterface 212 2, 2), (.iload 3, 0), (.ireturn, 0)] := rfl
theorem b252_4 : blk 252 4 = [(.iload 2, 0), (.invokestatic 255, 1), (.istore 3, 0), (.iload 3, 0), (.iconst (-1), 0), (.if_icmp .ne 5, 0), (.aload 0, 0), (.checkcast 7, 0), (.invokeinterface 215 1, 2), (.iconst (0), 0), (.ireturn, 0)] := rfl
theorem b252_5 : blk 252 5 = [(.aload 0, 0), (.checkcast 7, 0), (.invokeinterface 210 1, 2), (.aload 0, 0), (.checkcast 7, 1), (.iload 3, 0), (.invokestatic 61, 2), (.ireturn, 0)] := rfl
/-! 253: DiceLaw$RuleReader.readNumber()I -/
theorem eL253 : eL (mOf 253) = 3 := rfl
theorem b253_0 : blk 253 0 = [(.iconst (0), 0), (.istore 1, 0), (.iconst (0), 0), (.istore 2, 0), (.jsr 1, 0)] := rfl
theorem b253_1 : blk 253 1 = [(.iload 2, 0), (.iconst (4), 0), (.if_icmp .ge 2, 0), (.aload 0, 0), (.checkcast 7, 0), (.invokeinterface 209 1, 2), (.iconst (48), 0), (.if_icmp .lt 2, 0), (.aload 0, 0), (.checkcast 7, 0), (.invokeinterface 209 1, 2), (.iconst (57), 0), (.if_icmp .gt 2, 0), (.iload 1, 0), (.iconst (10), 0), (.imul, 0), (.aload 0, 0), (.checkcast 7, 0), (.invokeinterface 209 1, 2), (.iadd, 0), (.iconst (48), 0), (.isub, 0), (.istore 1, 0), (.aload 0, 0), (.checkcast 7, 0), (.invokeinterface 210 1, 2), (.iinc 2 (1), 0), (.goto 1, 0)] := rfl
theorem b253_2 : blk 253 2 = [(.iload 1, 0), (.ireturn, 0)] := rfl
/-! 254: DiceLaw$RuleReader.opens(I)Z -/
theorem eL254 : eL (mOf 254) = 2 := rfl
theorem b254_0 : blk 254 0 = [(.iload 1, 0), (.iconst (6), 0), (.if_icmp .lt 1, 0), (.aload 0, 0), (.checkcast 7, 0), (.invokeinterface 215 1, 2), (.iconst (0), 0), (.ireturn, 1)] := rfl
theorem b254_1 : blk 254 1 = [(.aload 0, 0), (.checkcast 7, 0), (.invokeinterface 210 1, 2), (.iconst (1), 0), (.ireturn, 1)] := rfl
/-! 255: DiceLaw$RuleReader.letterOf(I)I -/
theorem eL255 : eL (mOf 255) = 1 := rfl
theorem b255_0 : blk 255 0 = [(.iload 0, 0), (.tableswitch 7 (100) (119) #[2, 7, 7, 7, 7, 7, 7, 7, 1, 3, 4, 7, 7, 7, 7, 7, 6, 7, 7, 5], 0)] := rfl
theorem b255_1 : blk 255 1 = [(.iconst (0), 0), (.ireturn, 0)] := rfl
theorem b255_2 : blk 255 2 = [(.iconst (1), 0), (.ireturn, 0)] := rfl
theorem b255_3 : blk 255 3 = [(.iconst (2), 0), (.ireturn, 0)] := rfl
theorem b255_4 : blk 255 4 = [(.iconst (3), 0), (.ireturn, 0)] := rfl
theorem b255_5 : blk 255 5 = [(.iconst (4), 0), (.ireturn, 0)] := rfl
theorem b255_6 : blk 255 6 = [(.iconst (5), 0), (.ireturn, 0)] := rfl
theorem b255_7 : blk 255 7 = [(.iconst (-1), 0), (.ireturn, 0)] := rfl
/-! 256: DiceLaw$RuleReader.isComparison(I)Z -/
theorem eL256 : eL (mOf 256) = 1 := rfl
theorem b256_0 : blk 256 0 = [(.iload 0, 0), (.iconst (61), 0), (.if_icmp .eq 1, 0), (.iload 0, 0), (.iconst (60), 0), (.if_icmp .eq 1, 0), (.iload 0, 0), (.iconst (62), 0), (.if_icmp .ne 2, 0), (.jsr 1, 0)] := rfl
theorem b256_1 : blk 256 1 = [(.iconst (1), 0), (.goto 3, 0)] := rfl
theorem b256_2 : blk 256 2 = [(.iconst (0), 0), (.jsr 3, 0)] := rfl
theorem b256_3 : blk 256 3 = [(.ireturn, 1)] := rfl
/-! 257: DiceLaw$RuleReader.bounded(J)I -/
theorem eL257 : eL (mOf 257) = 2 := rfl
theorem b257_0 : blk 257 0 = [(.sipush (-1000000), 0), (.sipush (1000000), 0), (.lload 0, 0), (.invokestatic 279, 2), (.invokestatic 277, 2), (.l2i, 0), (.ireturn, 0)] := rfl
/-! 258: DiceLaw$Text.<init>()V -/
theorem eL258 : eL (mOf 258) = 1 := rfl
theorem b258_0 : blk 258 0 = [(.aload 0, 0), (.monitorexit, 0), (.aload 0, 0), (.iconst (120), 0), (.newarray .int, 0), (.instanceof 8, 0), (.return_, 0)] := rfl
/-! 259: DiceLaw$Text.append(I)V -/
theorem eL259 : eL (mOf 259) = 4 := rfl
theorem b259_0 : blk 259 0 = [(.iconst (24), 0), (.istore 2, 0), (.jsr 1, 0)] := rfl
theorem b259_1 : blk 259 1 = [(.iload 2, 0), (.ifCond .lt 3, 0), (.iload 1, 0), (.iload 2, 0), (.iushr, 0), (.iconst (255), 0), (.iand, 0), (.istore 3, 0), (.iload 3, 0), (.ifCond .eq 2, 0), (.aload 0, 0), (.getfield 8, 1), (.iconst (120), 0), (.if_icmp .ge 2, 0), (.aload 0, 0), (.checkcast 8, 0), (.aload 0, 0), (.getfield 8, 1), (.iload 3, 0), (.invokestatic 63, 3), (.aload 0, 0), (.dup, 0), (.getfield 8, 1), (.iconst (1), 0), (.iadd, 0), (.putfield 8, 1), (.jsr 2, 0)] := rfl
theorem b259_2 : blk 259 2 = [(.iinc 2 (-8), 0), (.goto 1, 0)] := rfl
theorem b259_3 : blk 259 3 = [(.return_, 0)] := rfl
/-! 260: DiceLaw$Text.take(LDiceLaw$Text;)V -/
theorem eL260 : eL (mOf 260) = 2 := rfl
theorem b260_0 : blk 260 0 = [(.aload 1, 0), (.checkcast 8, 0), (.aload 0, 0), (.checkcast 8, 0), (.invokestatic 68, 2), (.aload 0, 0), (.aload 1, 0), (.getfield 8, 1), (.putfield 8, 1), (.return_, 0)] := rfl
/-! 261: DiceLaw$Tomorrow.<init>()V -/
theorem eL261 : eL (mOf 261) = 1 := rfl
theorem b261_0 : blk 261 0 = [(.aload 0, 0), (.monitorexit, 0), (.aload 0, 0), (.iconst (30), 0), (.newarray .int, 0), (.instanceof 9, 1), (.aload 0, 0), (.iconst (30), 0), (.newarray .int, 0), (.instanceof 9, 2), (.aload 0, 0), (.iconst (5), 0), (.newarray .int, 0), (.instanceof 9, 3), (.aload 0, 0), (.new 5, 3), (.dup, 0), (.invokeinterface 236 1, 5), (.instanceof 9, 5), (.aload 0, 0), (.new 5, 3), (.dup, 0), (.invokeinterface 236 1, 5), (.instanceof 9, 6), (.aload 0, 0), (.iconst (30), 0), (.newarray .int, 0), (.instanceof 9, 7), (.aload 0, 0), (.iconst (30), 0), (.newarray .int, 0), (.instanceof 9, 8), (.aload 0, 0), (.iconst (5), 0), (.newarray .int, 0), (.instanceof 9, 9), (.aload 0, 0), (.iconst (5), 0), (.newarray .int, 0), (.instanceof 9, 10), (.aload 0, 0), (.iconst (7776), 0), (.newarray .long, 0), (.instanceof 9, 11), (.aload 0, 0), (.iconst (4), 0), (.newarray .long, 0), (.instanceof 9, 12), (.return_, 0)] := rfl
/-! 262: DiceLaw$Tomorrow.load(LDiceLaw$Book;LDiceLaw$Diary;)V -/
theorem eL262 : eL (mOf 262) = 4 := rfl
theorem b262_0 : blk 262 0 = [(.aload 0, 0), (.aload 1, 0), (.getfield 0, 0), (.putfield 9, 0), (.aload 1, 0), (.checkcast 0, 1), (.aload 0, 0), (.checkcast 9, 1), (.invokestatic 68, 2), (.aload 1, 0), (.checkcast 0, 2), (.aload 0, 0), (.checkcast 9, 2), (.invokestatic 68, 2), (.iconst (0), 0), (.istore 3, 0), (.jsr 1, 0)] := rfl
theorem b262_1 : blk 262 1 = [(.iload 3, 0), (.aload 0, 0), (.getfield 9, 0), (.if_icmp .ge 2, 0), (.aload 0, 0), (.checkcast 9, 3), (.iload 3, 0), (.aload 2, 0), (.iload 3, 0), (.invokeinterface 223 2, 3), (.invokestatic 63, 3), (.iinc 3 (1), 0), (.goto 1, 0)] := rfl
theorem b262_2 : blk 262 2 = [(.return_, 0)] := rfl
/-! 263: DiceLaw$Tomorrow.alter(III)V -/
theorem eL263 : eL (mOf 263) = 4 := rfl
theorem b263_0 : blk 263 0 = [(.aload 0, 0), (.checkcast 9, 1), (.iload 1, 0), (.iconst (6), 0), (.imul, 0), (.iload 2, 0), (.iadd, 0), (.iload 3, 0), (.invokestatic 63, 3), (.return_, 0)] := rfl
/-! 264: DiceLaw$Tomorrow.shift(III)V -/
theorem eL264 : eL (mOf 264) = 4 := rfl
theorem b264_0 : blk 264 0 = [(.aload 0, 0), (.checkcast 9, 2), (.iload 1, 0), (.iconst (6), 0), (.imul, 0), (.iload 2, 0), (.iadd, 0), (.aload 0, 0), (.checkcast 9, 2), (.iload 1, 0), (.iconst (6), 0), (.imul, 0), (.iload 2, 0), (.iadd, 0), (.invokestatic 61, 2), (.iconst (1), 0), (.isub, 0), (.invokestatic 63, 3), (.aload 0, 0), (.checkcast 9, 2), (.iload 1, 0), (.iconst (6), 0), (.imul, 0), (.iload 3, 0), (.iadd, 0), (.aload 0, 0), (.checkcast 9, 2), (.iload 1, 0), (.iconst (6), 0), (.imul, 0), (.iload 3, 0), (.iadd, 0), (.invokestatic 61, 2), (.iconst (1), 0), (.iadd, 0), (.invokestatic 63, 3), (.return_, 0)] := rfl
/-! 265: DiceLaw$Tomorrow.total()J -/
theorem eL265 : eL (mOf 265) = 4 := rfl
theorem b265_0 : blk 265 0 = [(.sipush (1), 0), (.lstore 1, 0), (.iconst (0), 0), (.istore 3, 0), (.jsr 1, 0)] := rfl
theorem b265_1 : blk 265 1 = [(.iload 3, 0), (.aload 0, 0), (.getfield 9, 0), (.iconst (3), 0), (.iadd, 0), (.if_icmp .ge 2, 0), (.lload 1, 0), (.sipush (12), 0), (.lmul, 0), (.lstore 1, 0), (.iinc 3 (1), 0), (.goto 1, 0)] := rfl
theorem b265_2 : blk 265 2 = [(.lload 1, 0), (.lreturn, 0)] := rfl
/-! 266: DiceLaw$Tomorrow.showsOn(II)I -/
theorem eL266 : eL (mOf 266) = 3 := rfl
theorem b266_0 : blk 266 0 = [(.aload 0, 0), (.checkcast 9, 1), (.iload 1, 0), (.iconst (6), 0), (.imul, 0), (.iload 2, 0), (.iadd, 0), (.invokestatic 61, 2), (.aload 0, 0), (.getfield 9, 0), (.aload 0, 0), (.checkcast 9, 3), (.iload 1, 0), (.invokestatic 61, 2), (.invokestatic 74, 3), (.ireturn, 0)] := rfl
/-! 267: DiceLaw$Tomorrow.toss(Z)V -/
theorem eL267 : eL (mOf 267) = 4 := rfl
theorem b267_0 : blk 267 0 = [(.aload 0, 0), (.iload 1, 0), (.ret 9, 4), (.aload 0, 0), (.invokeinterface 268 1, 9), (.iconst (1), 0), (.istore 2, 0), (.iconst (0), 0), (.istore 3, 0), (.jsr 1, 0)] := rfl
theorem b267_1 : blk 267 1 = [(.iload 3, 0), (.aload 0, 0), (.getfield 9, 0), (.if_icmp .ge 2, 0), (.aload 0, 0), (.checkcast 9, 10), (.iload 3, 0), (.iconst (-1), 0), (.invokestatic 63, 3), (.aload 0, 0), (.checkcast 9, 9), (.iload 3, 0), (.iload 2, 0), (.invokestatic 63, 3), (.iload 2, 0), (.aload 0, 0), (.checkcast 9, 6), (.checkcast 5, 0), (.iload 3, 0), (.invokestatic 61, 2), (.imul, 0), (.istore 2, 0), (.iinc 3 (1), 0), (.goto 1, 0)] := rfl
theorem b267_2 : blk 267 2 = [(.aload 0, 0), (.checkcast 9, 11), (.iload 2, 0), (.invokestatic 66, 2), (.aload 0, 0), (.checkcast 9, 12), (.aload 0, 0), (.checkcast 9, 12), (.arraylength, 0), (.invokestatic 66, 2), (.aload 0, 0), (.iconst (0), 0), (.iconst (0), 0), (.sipush (1), 0), (.invokeinterface 269 4, 9), (.return_, 0)] := rfl
/-! 268: DiceLaw$Tomorrow.sortTypes()V -/
theorem eL268 : eL (mOf 268) = 6 := rfl
theorem b268_0 : blk 268 0 = [(.aload 0, 0), (.checkcast 9, 5), (.invokeinterface 237 1, 5), (.aload 0, 0), (.checkcast 9, 6), (.invokeinterface 237 1, 5), (.iconst (0), 0), (.istore 1, 0), (.jsr 1, 0)] := rfl
theorem b268_1 : blk 268 1 = [(.iload 1, 0), (.aload 0, 0), (.getfield 9, 0), (.iconst (6), 0), (.imul, 0), (.if_icmp .ge 3, 0), (.aload 0, 0), (.checkcast 9, 2), (.iload 1, 0), (.invokestatic 61, 2), (.istore 2, 0), (.iload 2, 0), (.ifCond .le 2, 0), (.iload 1, 0), (.iconst (6), 0), (.idiv, 0), (.istore 3, 0), (.aload 0, 0), (.checkcast 9, 1), (.iload 1, 0), (.invokestatic 61, 2), (.aload 0, 0), (.getfield 9, 0), (.invokestatic 73, 2), (.istore 4, 0), (.aload 0, 0), (.checkcast 9, 6), (.iload 3, 0), (.aload 0, 0), (.iload 4, 0), (.invokeinterface 272 2, 9), (.iload 2, 0), (.invokeinterface 238 4, 5), (.istore 5, 0), (.aload 0, 0), (.checkcast 9, 7), (.iload 3, 0), (.iconst (6), 0), (.imul, 0), (.aload 0, 0), (.checkcast 9, 5), (.iload 3, 0), (.iload 4, 0), (.iload 2, 0), (.invokeinterface 238 4, 5), (.iadd, 0), (.iload 5, 0), (.invokestatic 63, 3), (.aload 0, 0), (.checkcast 9, 8), (.iload 1, 0), (.iload 5, 0), (.invokestatic 63, 3), (.jsr 2, 0)] := rfl
theorem b268_2 : blk 268 2 = [(.iinc 1 (1), 0), (.goto 1, 0)] := rfl
theorem b268_3 : blk 268 3 = [(.return_, 0)] := rfl
/-! 269: DiceLaw$Tomorrow.look(IIJ)V -/
theorem eL269 : eL (mOf 269) = 9 := rfl
theorem b269_0 : blk 269 0 = [(.iload 1, 0), (.istore 5, 0), (.jsr 1, 0)] := rfl
theorem b269_1 : blk 269 1 = [(.iload 5, 0), (.aload 0, 0), (.getfield 9, 0), (.if_icmp .ge 2, 0), (.aload 0, 0), (.checkcast 9, 10), (.iload 5, 0), (.invokestatic 61, 2), (.iconst (-1), 0), (.if_icmp .eq 2, 0), (.iinc 5 (1), 0), (.goto 1, 0)] := rfl
theorem b269_2 : blk 269 2 = [(.iload 5, 0), (.aload 0, 0), (.getfield 9, 0), (.if_icmp .lt 3, 0), (.aload 0, 0), (.iload 2, 0), (.lload 3, 0), (.invokeinterface 273 3, 9), (.return_, 0)] := rfl
theorem b269_3 : blk 269 3 = [(.iconst (0), 0), (.istore 6, 0), (.jsr 4, 0)] := rfl
theorem b269_4 : blk 269 4 = [(.iload 6, 0), (.aload 0, 0), (.checkcast 9, 5), (.checkcast 5, 0), (.iload 5, 0), (.invokestatic 61, 2), (.if_icmp .ge 7, 0), (.aload 0, 0), (.checkcast 9, 10), (.iload 5, 0), (.iload 6, 0), (.invokestatic 63, 3), (.lload 3, 0), (.aload 0, 0), (.checkcast 9, 5), (.iload 5, 0), (.iload 6, 0), (.invokeinterface 240 3, 5), (.i2l, 0), (.lmul, 0), (.lstore 7, 0), (.aload 0, 0), (.checkcast 9, 5), (.iload 5, 0), (.iload 6, 0), (.invokeinterface 239 3, 5), (.iconst (-1), 0), (.if_icmp .ne 5, 0), (.aload 0, 0), (.iload 5, 0), (.iconst (1), 0), (.iadd, 0), (.iload 2, 0), (.lload 7, 0), (.invokeinterface 269 4, 9), (.goto 6, 0)] := rfl
theorem b269_5 : blk 269 5 = [(.aload 0, 0), (.iload 5, 0), (.iload 2, 0), (.lload 7, 0), (.invokeinterface 270 4, 9), (.jsr 6, 0)] := rfl
theorem b269_6 : blk 269 6 = [(.iinc 6 (1), 0), (.goto 4, 0)] := rfl
theorem b269_7 : blk 269 7 = [(.aload 0, 0), (.checkcast 9, 10), (.iload 5, 0), (.iconst (-1), 0), (.invokestatic 63, 3), (.return_, 0)] := rfl
/-! 270: DiceLaw$Tomorrow.throwAgain(IIJ)V -/
theorem eL270 : eL (mOf 270) = 9 := rfl
theorem b270_0 : blk 270 0 = [(.aload 0, 0), (.checkcast 9, 5), (.iload 1, 0), (.aload 0, 0), (.checkcast 9, 10), (.iload 1, 0), (.invokestatic 61, 2), (.invokeinterface 239 3, 5), (.istore 5, 0), (.aload 0, 0), (.checkcast 9, 10), (.iload 5, 0), (.invokestatic 61, 2), (.istore 6, 0), (.iload 6, 0), (.iconst (-1), 0), (.if_icmp .ne 1, 0), (.lload 3, 0), (.sipush (12), 0), (.lmul, 0), (.goto 2, 0)] := rfl
theorem b270_1 : blk 270 1 = [(.lload 3, 0), (.jsr 2, 0)] := rfl
theorem b270_2 : blk 270 2 = [(.lstore 7, 0), (.aload 0, 0), (.checkcast 9, 10), (.iload 5, 0), (.iconst (-1), 0), (.invokestatic 63, 3), (.iload 2, 0), (.iconst (1), 0), (.iadd, 0), (.iconst (3), 0), (.if_icmp .ge 3, 0), (.aload 0, 0), (.iload 1, 0), (.iload 5, 0), (.invokestatic 278, 2), (.iload 2, 0), (.iconst (1), 0), (.iadd, 0), (.lload 7, 0), (.invokeinterface 269 4, 9), (.goto 4, 0)] := rfl
theorem b270_3 : blk 270 3 = [(.aload 0, 0), (.iconst (3), 0), (.lload 7, 0), (.invokeinterface 273 3, 9), (.jsr 4, 0)] := rfl
theorem b270_4 : blk 270 4 = [(.aload 0, 0), (.checkcast 9, 10), (.iload 5, 0), (.iload 6, 0), (.invokestatic 63, 3), (.return_, 0)] := rfl
/-! 271: DiceLaw$Tomorrow.spread(IIJ)V -/
theorem eL271 : eL (mOf 271) = 8 := rfl
theorem b271_0 : blk 271 0 = [(.iload 1, 0), (.aload 0, 0), (.getfield 9, 0), (.if_icmp .lt 1, 0), (.aload 0, 0), (.checkcast 9, 11), (.iload 2, 0), (.lload 3, 0), (.invokestatic 65, 3), (.return_, 0)] := rfl
theorem b271_1 : blk 271 1 = [(.aload 0, 0), (.checkcast 9, 10), (.iload 1, 0), (.invokestatic 61, 2), (.istore 5, 0), (.aload 0, 0), (.checkcast 9, 9), (.iload 1, 0), (.invokestatic 61, 2), (.istore 6, 0), (.iload 5, 0), (.iconst (-1), 0), (.if_icmp .eq 2, 0), (.aload 0, 0), (.iload 1, 0), (.iconst (1), 0), (.iadd, 0), (.iload 2, 0), (.aload 0, 0), (.checkcast 9, 7), (.iload 1, 0), (.iconst (6), 0), (.imul, 0), (.iload 5, 0), (.iadd, 0), (.invokestatic 61, 2), (.iload 6, 0), (.imul, 0), (.iadd, 0), (.lload 3, 0), (.invokeinterface 271 4, 9), (.return_, 0)] := rfl
theorem b271_2 : blk 271 2 = [(.iconst (0), 0), (.istore 7, 0), (.jsr 3, 0)] := rfl
theorem b271_3 : blk 271 3 = [(.iload 7, 0), (.aload 0, 0), (.checkcast 9, 6), (.checkcast 5, 0), (.iload 1, 0), (.invokestatic 61, 2), (.if_icmp .ge 4, 0), (.aload 0, 0), (.iload 1, 0), (.iconst (1), 0), (.iadd, 0), (.iload 2, 0), (.iload 7, 0), (.iload 6, 0), (.imul, 0), (.iadd, 0), (.lload 3, 0), (.aload 0, 0), (.checkcast 9, 6), (.iload 1, 0), (.iload 7, 0), (.invokeinterface 240 3, 5), (.i2l, 0), (.lmul, 0), (.invokeinterface 271 4, 9), (.iinc 7 (1), 0), (.goto 3, 0)] := rfl
theorem b271_4 : blk 271 4 = [(.return_, 0)] := rfl
/-! 272: DiceLaw$Tomorrow.lotSign(I)I -/
theorem eL272 : eL (mOf 272) = 2 := rfl
theorem b272_0 : blk 272 0 = [(.aload 0, 0), (.getfield 9, 4), (.ifCond .eq 1, 0), (.iload 1, 0), (.goto 2, 0)] := rfl
theorem b272_1 : blk 272 1 = [(.iload 1, 0), (.iconst (0), 0), (.invokestatic 278, 2), (.jsr 2, 0)] := rfl
theorem b272_2 : blk 272 2 = [(.ireturn, 0)] := rfl
/-! 273: DiceLaw$Tomorrow.rest(IJ)V -/
theorem eL273 : eL (mOf 273) = 9 := rfl
theorem b273_0 : blk 273 0 = [(.lload 2, 0), (.lstore 4, 0), (.iload 1, 0), (.istore 6, 0), (.jsr 1, 0)] := rfl
theorem b273_1 : blk 273 1 = [(.iload 6, 0), (.iconst (3), 0), (.if_icmp .ge 2, 0), (.lload 4, 0), (.sipush (12), 0), (.lmul, 0), (.lstore 4, 0), (.iinc 6 (1), 0), (.goto 1, 0)] := rfl
theorem b273_2 : blk 273 2 = [(.lload 4, 0), (.lstore 6, 0), (.iconst (0), 0), (.istore 8, 0), (.jsr 3, 0)] := rfl
theorem b273_3 : blk 273 3 = [(.iload 8, 0), (.aload 0, 0), (.getfield 9, 0), (.if_icmp .ge 6, 0), (.lload 6, 0), (.aload 0, 0), (.checkcast 9, 10), (.iload 8, 0), (.invokestatic 61, 2), (.iconst (-1), 0), (.if_icmp .ne 4, 0), (.sipush (12), 0), (.goto 5, 0)] := rfl
theorem b273_4 : blk 273 4 = [(.sipush (1), 0), (.jsr 5, 0)] := rfl
theorem b273_5 : blk 273 5 = [(.lmul, 0), (.lstore 6, 0), (.iinc 8 (1), 0), (.goto 3, 0)] := rfl
theorem b273_6 : blk 273 6 = [(.aload 0, 0), (.checkcast 9, 12), (.iload 1, 0), (.lload 6, 0), (.invokestatic 65, 3), (.aload 0, 0), (.iconst (0), 0), (.iconst (0), 0), (.lload 4, 0), (.invokeinterface 271 4, 9), (.return_, 0)] := rfl
/-! 275: DiceLawLaw.law([I)Z -/
theorem eL275 : eL (mOf 275) = 7 := rfl
theorem b275_0 : blk 275 0 = [(.new 10, 16), (.dup, 0), (.invokeinterface 0 1, 10), (.astore 1, 0), (.new 11, 53), (.dup, 0), (.invokeinterface 80 1, 11), (.astore 2, 0), (.iconst (1), 0), (.newarray .long, 0), (.astore 3, 0), (.iconst (0), 0), (.istore 4, 0), (.jsr 1, 0)] := rfl
theorem b275_1 : blk 275 1 = [(.iload 4, 0), (.aload 0, 0), (.arraylength, 0), (.iconst (8), 0), (.isub, 0), (.if_icmp .gt 49, 0), (.aload 0, 0), (.iload 4, 0), (.iaload, 0), (.iconst (63), 0), (.iand, 0), (.tableswitch 48 (0) (43) #[2, 3, 4, 5, 6, 9, 10, 11, 12, 13, 14, 15, 16, 17, 18, 19, 20, 21, 22, 23, 24, 25, 26, 27, 28, 29, 30, 31, 32, 33, 34, 35, 36, 37, 38, 39, 40, 41, 42, 43, 44, 45, 46, 47], 0)] := rfl
theorem b275_2 : blk 275 2 = [(.aload 1, 0), (.aload 0, 0), (.iload 4, 0), (.iconst (1), 0), (.iadd, 0), (.iaload, 0), (.aload 0, 0), (.iload 4, 0), (.iconst (2), 0), (.iadd, 0), (.iaload, 0), (.aload 0, 0), (.iload 4, 0), (.iconst (3), 0), (.iadd, 0), (.iaload, 0), (.aload 0, 0), (.iload 4, 0), (.iconst (4), 0), (.iadd, 0), (.iaload, 0), (.aload 0, 0), (.iload 4, 0), (.iconst (5), 0), (.iadd, 0), (.iaload, 0), (.invokeinterface 1 6, 10), (.aload 2, 0), (.aload 0, 0), (.iload 4, 0), (.iconst (1), 0), (.iadd, 0), (.iaload, 0), (.aload 0, 0), (.iload 4, 0), (.iconst (2), 0), (.iadd, 0), (.iaload, 0), (.aload 0, 0), (.iload 4, 0), (.iconst (3), 0), (.iadd, 0), (.iaload, 0), (.aload 0, 0), (.iload 4, 0), (.iconst (4), 0), (.iadd, 0), (.iaload, 0), (.aload 0, 0), (.iload 4, 0), (.iconst (5), 0), (.iadd, 0), (.iaload, 0), (.invokeinterface 86 6, 11), (.if_icmp .eq 48, 0), (.iconst (0), 0), (.ireturn, 1)] := rfl
theorem b275_3 : blk 275 3 = [(.aload 1, 0), (.aload 0, 0), (.iload 4, 0), (.iconst (1), 0), (.iadd, 0), (.iaload, 0), (.invokeinterface 2 2, 10), (.aload 2, 0), (.aload 0, 0), (.iload 4, 0), (.iconst (1), 0), (.iadd, 0), (.iaload, 0), (.invokeinterface 87 2, 11), (.if_icmp .eq 48, 0), (.iconst (0), 0), (.ireturn, 1)] := rfl
theorem b275_4 : blk 275 4 = [(.aload 1, 0), (.aload 0, 0), (.iload 4, 0), (.iconst (1), 0), (.iadd, 0), (.iaload, 0), (.invokeinterface 3 2, 10), (.aload 2, 0), (.aload 0, 0), (.iload 4, 0), (.iconst (1), 0), (.iadd, 0), (.iaload, 0), (.invokeinterface 107 2, 11), (.if_icmp .eq 48, 0), (.iconst (0), 0), (.ireturn, 1)] := rfl
theorem b275_5 : blk 275 5 = [(.aload 1, 0), (.aload 0, 0), (.iload 4, 0), (.iconst (1), 0), (.iadd, 0), (.iaload, 0), (.invokeinterface 4 2, 10), (.aload 2, 0), (.aload 0, 0), (.iload 4, 0), (.iconst (1), 0), (.iadd, 0), (.iaload, 0), (.invokeinterface 108 2, 11), (.if_icmp .eq 48, 0), (.iconst (0), 0), (.ireturn, 1)] := rfl
theorem b275_6 : blk 275 6 = [(.aload 1, 0), (.aload 0, 0), (.iload 4, 0), (.iconst (1), 0), (.iadd, 0), (.iaload, 0), (.aload 0, 0), (.iload 4, 0), (.iconst (2), 0), (.iadd, 0), (.iaload, 0), (.aload 3, 0), (.invokestatic 274, 4), (.istore 5, 0), (.aload 2, 0), (.aload 0, 0), (.iload 4, 0), (.iconst (1), 0), (.iadd, 0), (.iaload, 0), (.aload 0, 0), (.iload 4, 0), (.iconst (2), 0), (.iadd, 0), (.iaload, 0), (.invokeinterface 113 3, 11), (.istore 6, 0), (.aload 2, 0), (.invokeinterface 81 1, 11), (.iload 5, 0), (.if_icmp .eq 7, 0), (.iconst (0), 0), (.ireturn, 1)] := rfl
theorem b275_7 : blk 275 7 = [(.iload 5, 0), (.ifCond .ne 8, 0), (.aload 3, 0), (.iconst (0), 0), (.laload, 0), (.iload 6, 0), (.i2l, 0), (.lcmp, 0), (.ifCond .eq 8, 0), (.iconst (0), 0), (.ireturn, 1)] := rfl
theorem b275_8 : blk 275 8 = [(.goto 48, 0)] := rfl
theorem b275_9 : blk 275 9 = [(.aload 1, 0), (.aload 0, 0), (.iload 4, 0), (.iconst (1), 0), (.iadd, 0), (.iaload, 0), (.aload 0, 0), (.iload 4, 0), (.iconst (2), 0), (.iadd, 0), (.iaload, 0), (.aload 0, 0), (.iload 4, 0), (.iconst (3), 0), (.iadd, 0), (.iaload, 0), (.aload 0, 0), (.iload 4, 0), (.iconst (4), 0), (.iadd, 0), (.iaload, 0), (.aload 0, 0), (.iload 4, 0), (.iconst (5), 0), (.iadd, 0), (.iaload, 0), (.aload 0, 0), (.iload 4, 0), (.iconst (6), 0), (.iadd, 0), (.iaload, 0), (.aload 0, 0), (.iload 4, 0), (.iconst (7), 0), (.iadd, 0), (.iaload, 0), (.invokeinterface 8 8, 10), (.aload 2, 0), (.aload 0, 0), (.iload 4, 0), (.iconst (1), 0), (.iadd, 0), (.iaload, 0), (.aload 0, 0), (.iload 4, 0), (.iconst (2), 0), (.iadd, 0), (.iaload, 0), (.aload 0, 0), (.iload 4, 0), (.iconst (3), 0), (.iadd, 0), (.iaload, 0), (.aload 0, 0), (.iload 4, 0), (.iconst (4), 0), (.iadd, 0), (.iaload, 0), (.aload 0, 0), (.iload 4, 0), (.iconst (5), 0), (.iadd, 0), (.iaload, 0), (.aload 0, 0), (.iload 4, 0), (.iconst (6), 0), (.iadd, 0), (.iaload, 0), (.aload 0, 0), (.iload 4, 0), (.iconst (7), 0), (.iadd, 0), (.iaload, 0), (.invokeinterface 116 8, 11), (.if_icmp .eq 48, 0), (.iconst (0), 0), (.ireturn, 1)] := rfl
theorem b275_10 : blk 275 10 = [(.aload 1, 0), (.aload 0, 0), (.iload 4, 0), (.iconst (1), 0), (.iadd, 0), (.iaload, 0), (.aload 0, 0), (.iload 4, 0), (.iconst (2), 0), (.iadd, 0), (.iaload, 0), (.invokeinterface 10 3, 10), (.aload 2, 0), (.aload 0, 0), (.iload 4, 0), (.iconst (1), 0), (.iadd, 0), (.iaload, 0), (.aload 0, 0), (.iload 4, 0), (.iconst (2), 0), (.iadd, 0), (.iaload, 0), (.invokeinterface 117 3, 11), (.if_icmp .eq 48, 0), (.iconst (0), 0), (.ireturn, 1)] := rfl
theorem b275_11 : blk 275 11 = [(.aload 1, 0), (.aload 0, 0), (.iload 4, 0), (.iconst (1), 0), (.iadd, 0), (.iaload, 0), (.i2l, 0), (.iconst (32), 0), (.lshl, 0), (.aload 0, 0), (.iload 4, 0), (.iconst (2), 0), (.iadd, 0), (.iaload, 0), (.i2l, 0), (.sipush (4294967295), 0), (.land, 0), (.lor, 0), (.invokeinterface 12 2, 10), (.aload 2, 0), (.aload 0, 0), (.iload 4, 0), (.iconst (1), 0), (.iadd, 0), (.iaload, 0), (.i2l, 0), (.iconst (32), 0), (.lshl, 0), (.aload 0, 0), (.iload 4, 0), (.iconst (2), 0), (.iadd, 0), (.iaload, 0), (.i2l, 0), (.sipush (4294967295), 0), (.land, 0), (.lor, 0), (.invokeinterface 129 2, 11), (.goto 48, 0)] := rfl
theorem b275_12 : blk 275 12 = [(.aload 1, 0), (.invokeinterface 13 1, 10), (.aload 2, 0), (.invokeinterface 132 1, 11), (.if_icmp .eq 48, 0), (.iconst (0), 0), (.ireturn, 1)] := rfl
theorem b275_13 : blk 275 13 = [(.aload 1, 0), (.aload 0, 0), (.iload 4, 0), (.iconst (1), 0), (.iadd, 0), (.iaload, 0), (.invokeinterface 14 2, 10), (.aload 2, 0), (.aload 0, 0), (.iload 4, 0), (.iconst (1), 0), (.iadd, 0), (.iaload, 0), (.invokeinterface 133 2, 11), (.if_icmp .eq 48, 0), (.iconst (0), 0), (.ireturn, 1)] := rfl
theorem b275_14 : blk 275 14 = [(.aload 1, 0), (.invokeinterface 15 1, 10), (.aload 2, 0), (.invokeinterface 134 1, 11), (.if_icmp .eq 48, 0), (.iconst (0), 0), (.ireturn, 1)] := rfl
theorem b275_15 : blk 275 15 = [(.aload 1, 0), (.aload 0, 0), (.iload 4, 0), (.iconst (1), 0), (.iadd, 0), (.iaload, 0), (.aload 0, 0), (.iload 4, 0), (.iconst (2), 0), (.iadd, 0), (.iaload, 0), (.invokeinterface 16 3, 10), (.aload 2, 0), (.aload 0, 0), (.iload 4, 0), (.iconst (1), 0), (.iadd, 0), (.iaload, 0), (.aload 0, 0), (.iload 4, 0), (.iconst (2), 0), (.iadd, 0), (.iaload, 0), (.invokeinterface 136 3, 11), (.if_icmp .eq 48, 0), (.iconst (0), 0), (.ireturn, 1)] := rfl
theorem b275_16 : blk 275 16 = [(.aload 1, 0), (.aload 0, 0), (.iload 4, 0), (.iconst (1), 0), (.iadd, 0), (.iaload, 0), (.aload 0, 0), (.iload 4, 0), (.iconst (2), 0), (.iadd, 0), (.iaload, 0), (.invokeinterface 17 3, 10), (.aload 2, 0), (.aload 0, 0), (.iload 4, 0), (.iconst (1), 0), (.iadd, 0), (.iaload, 0), (.aload 0, 0), (.iload 4, 0), (.iconst (2), 0), (.iadd, 0), (.iaload, 0), (.invokeinterface 137 3, 11), (.if_icmp .eq 48, 0), (.iconst (0), 0), (.ireturn, 1)] := rfl
theorem b275_17 : blk 275 17 = [(.aload 1, 0), (.aload 0, 0), (.iload 4, 0), (.iconst (1), 0), (.iadd, 0), (.iaload, 0), (.aload 0, 0), (.iload 4, 0), (.iconst (2), 0), (.iadd, 0), (.iaload, 0), (.aload 0, 0), (.iload 4, 0), (.iconst (3), 0), (.iadd, 0), (.iaload, 0), (.invokeinterface 18 4, 10), (.aload 2, 0), (.aload 0, 0), (.iload 4, 0), (.iconst (1), 0), (.iadd, 0), (.iaload, 0), (.aload 0, 0), (.iload 4, 0), (.iconst (2), 0), (.iadd, 0), (.iaload, 0), (.aload 0, 0), (.iload 4, 0), (.iconst (3), 0), (.iadd, 0), (.iaload, 0), (.invokeinterface 140 4, 11), (.if_icmp .eq 48, 0), (.iconst (0), 0), (.ireturn, 1)] := rfl
theorem b275_18 : blk 275 18 = [(.aload 1, 0), (.aload 0, 0), (.iload 4, 0), (.iconst (1), 0), (.iadd, 0), (.iaload, 0), (.aload 0, 0), (.iload 4, 0), (.iconst (2), 0), (.iadd, 0), (.iaload, 0), (.aload 0, 0), (.iload 4, 0), (.iconst (3), 0), (.iadd, 0), (.iaload, 0), (.invokeinterface 19 4, 10), (.aload 2, 0), (.aload 0, 0), (.iload 4, 0), (.iconst (1), 0), (.iadd, 0), (.iaload, 0), (.aload 0, 0), (.iload 4, 0), (.iconst (2), 0), (.iadd, 0), (.iaload, 0), (.aload 0, 0), (.iload 4, 0), (.iconst (3), 0), (.iadd, 0), (.iaload, 0), (.invokeinterface 150 4, 11), (.lcmp, 0), (.ifCond .eq 48, 0), (.iconst (0), 0), (.ireturn, 1)] := rfl
theorem b275_19 : blk 275 19 = [(.aload 1, 0), (.aload 0, 0), (.iload 4, 0), (.iconst (1), 0), (.iadd, 0), (.iaload, 0), (.aload 0, 0), (.iload 4, 0), (.iconst (2), 0), (.iadd, 0), (.iaload, 0), (.aload 0, 0), (.iload 4, 0), (.iconst (3), 0), (.iadd, 0), (.iaload, 0), (.invokeinterface 20 4, 10), (.aload 2, 0), (.aload 0, 0), (.iload 4, 0), (.iconst (1), 0), (.iadd, 0), (.iaload, 0), (.aload 0, 0), (.iload 4, 0), (.iconst (2), 0), (.iadd, 0), (.iaload, 0), (.aload 0, 0), (.iload 4, 0), (.iconst (3), 0), (.iadd, 0), (.iaload, 0), (.invokeinterface 151 4, 11), (.lcmp, 0), (.ifCond .eq 48, 0), (.iconst (0), 0), (.ireturn, 1)] := rfl
theorem b275_20 : blk 275 20 = [(.aload 1, 0), (.aload 0, 0), (.iload 4, 0), (.iconst (1), 0), (.iadd, 0), (.iaload, 0), (.invokeinterface 21 2, 10), (.aload 2, 0), (.aload 0, 0), (.iload 4, 0), (.iconst (1), 0), (.iadd, 0), (.iaload, 0), (.invokeinterface 152 2, 11), (.lcmp, 0), (.ifCond .eq 48, 0), (.iconst (0), 0), (.ireturn, 1)] := rfl
theorem b275_21 : blk 275 21 = [(.aload 1, 0), (.aload 0, 0), (.iload 4, 0), (.iconst (1), 0), (.iadd, 0), (.iaload, 0), (.aload 0, 0), (.iload 4, 0), (.iconst (2), 0), (.iadd, 0), (.iaload, 0), (.aload 0, 0), (.iload 4, 0), (.iconst (3), 0), (.iadd, 0), (.iaload, 0), (.invokeinterface 22 4, 10), (.aload 2, 0), (.aload 0, 0), (.iload 4, 0), (.iconst (1), 0), (.iadd, 0), (.iaload, 0), (.aload 0, 0), (.iload 4, 0), (.iconst (2), 0), (.iadd, 0), (.iaload, 0), (.aload 0, 0), (.iload 4, 0), (.iconst (3), 0), (.iadd, 0), (.iaload, 0), (.invokeinterface 153 4, 11), (.lcmp, 0), (.ifCond .eq 48, 0), (.iconst (0), 0), (.ireturn, 1)] := rfl
theorem b275_22 : blk 275 22 = [(.aload 1, 0), (.aload 0, 0), (.iload 4, 0), (.iconst (1), 0), (.iadd, 0), (.iaload, 0), (.aload 0, 0), (.iload 4, 0), (.iconst (2), 0), (.iadd, 0), (.iaload, 0), (.invokeinterface 23 3, 10), (.aload 2, 0), (.aload 0, 0), (.iload 4, 0), (.iconst (1), 0), (.iadd, 0), (.iaload, 0), (.aload 0, 0), (.iload 4, 0), (.iconst (2), 0), (.iadd, 0), (.iaload, 0), (.invokeinterface 154 3, 11), (.lcmp, 0), (.ifCond .eq 48, 0), (.iconst (0), 0), (.ireturn, 1)] := rfl
theorem b275_23 : blk 275 23 = [(.aload 1, 0), (.aload 0, 0), (.iload 4, 0), (.iconst (1), 0), (.iadd, 0), (.iaload, 0), (.invokeinterface 24 2, 10), (.aload 2, 0), (.aload 0, 0), (.iload 4, 0), (.iconst (1), 0), (.iadd, 0), (.iaload, 0), (.invokeinterface 155 2, 11), (.if_icmp .eq 48, 0), (.iconst (0), 0), (.ireturn, 1)] := rfl
theorem b275_24 : blk 275 24 = [(.aload 1, 0), (.aload 0, 0), (.iload 4, 0), (.iconst (1), 0), (.iadd, 0), (.iaload, 0), (.aload 0, 0), (.iload 4, 0), (.iconst (2), 0), (.iadd, 0), (.iaload, 0), (.invokeinterface 25 3, 10), (.aload 2, 0), (.aload 0, 0), (.iload 4, 0), (.iconst (1), 0), (.iadd, 0), (.iaload, 0), (.aload 0, 0), (.iload 4, 0), (.iconst (2), 0), (.iadd, 0), (.iaload, 0), (.invokeinterface 157 3, 11), (.if_icmp .eq 48, 0), (.iconst (0), 0), (.ireturn, 1)] := rfl
theorem b275_25 : blk 275 25 = [(.aload 1, 0), (.aload 0, 0), (.iload 4, 0), (.iconst (1), 0), (.iadd, 0), (.iaload, 0), (.aload 0, 0), (.iload 4, 0), (.iconst (2), 0), (.iadd, 0), (.iaload, 0), (.aload 0, 0), (.iload 4, 0), (.iconst (3), 0), (.iadd, 0), (.iaload, 0), (.aload 0, 0), (.iload 4, 0), (.iconst (4), 0), (.iadd, 0), (.iaload, 0), (.invokeinterface 26 5, 10), (.aload 2, 0), (.aload 0, 0), (.iload 4, 0), (.iconst (1), 0), (.iadd, 0), (.iaload, 0), (.aload 0, 0), (.iload 4, 0), (.iconst (2), 0), (.iadd, 0), (.iaload, 0), (.aload 0, 0), (.iload 4, 0), (.iconst (3), 0), (.iadd, 0), (.iaload, 0), (.aload 0, 0), (.iload 4, 0), (.iconst (4), 0), (.iadd, 0), (.iaload, 0), (.invokeinterface 158 5, 11), (.lcmp, 0), (.ifCond .eq 48, 0), (.iconst (0), 0), (.ireturn, 1)] := rfl
theorem b275_26 : blk 275 26 = [(.aload 1, 0), (.aload 0, 0), (.iload 4, 0), (.iconst (1), 0), (.iadd, 0), (.iaload, 0), (.aload 0, 0), (.iload 4, 0), (.iconst (2), 0), (.iadd, 0), (.iaload, 0), (.aload 0, 0), (.iload 4, 0), (.iconst (3), 0), (.iadd, 0), (.iaload, 0), (.invokeinterface 35 4, 10), (.aload 2, 0), (.aload 0, 0), (.iload 4, 0), (.iconst (1), 0), (.iadd, 0), (.iaload, 0), (.aload 0, 0), (.iload 4, 0), (.iconst (2), 0), (.iadd, 0), (.iaload, 0), (.aload 0, 0), (.iload 4, 0), (.iconst (3), 0), (.iadd, 0), (.iaload, 0), (.invokeinterface 161 4, 11), (.if_icmp .eq 48, 0), (.iconst (0), 0), (.ireturn, 1)] := rfl
theorem b275_27 : blk 275 27 = [(.aload 1, 0), (.aload 0, 0), (.iload 4, 0), (.iconst (1), 0), (.iadd, 0), (.iaload, 0), (.aload 0, 0), (.iload 4, 0), (.iconst (2), 0), (.iadd, 0), (.iaload, 0), (.invokeinterface 36 3, 10), (.aload 2, 0), (.aload 0, 0), (.iload 4, 0), (.iconst (1), 0), (.iadd, 0), (.iaload, 0), (.aload 0, 0), (.iload 4, 0), (.iconst (2), 0), (.iadd, 0), (.iaload, 0), (.invokeinterface 162 3, 11), (.if_icmp .eq 48, 0), (.iconst (0), 0), (.ireturn, 1)] := rfl
theorem b275_28 : blk 275 28 = [(.aload 1, 0), (.aload 0, 0), (.iload 4, 0), (.iconst (1), 0), (.iadd, 0), (.iaload, 0), (.aload 0, 0), (.iload 4, 0), (.iconst (2), 0), (.iadd, 0), (.iaload, 0), (.aload 0, 0), (.iload 4, 0), (.iconst (3), 0), (.iadd, 0), (.iaload, 0), (.aload 0, 0), (.iload 4, 0), (.iconst (4), 0), (.iadd, 0), (.iaload, 0), (.aload 0, 0), (.iload 4, 0), (.iconst (5), 0), (.iadd, 0), (.iaload, 0), (.aload 0, 0), (.iload 4, 0), (.iconst (6), 0), (.iadd, 0), (.iaload, 0), (.invokeinterface 38 7, 10), (.aload 2, 0), (.aload 0, 0), (.iload 4, 0), (.iconst (1), 0), (.iadd, 0), (.iaload, 0), (.aload 0, 0), (.iload 4, 0), (.iconst (2), 0), (.iadd, 0), (.iaload, 0), (.aload 0, 0), (.iload 4, 0), (.iconst (3), 0), (.iadd, 0), (.iaload, 0), (.aload 0, 0), (.iload 4, 0), (.iconst (4), 0), (.iadd, 0), (.iaload, 0), (.aload 0, 0), (.iload 4, 0), (.iconst (5), 0), (.iadd, 0), (.iaload, 0), (.aload 0, 0), (.iload 4, 0), (.iconst (6), 0), (.iadd, 0), (.iaload, 0), (.invokeinterface 118 7, 11), (.if_icmp .eq 48, 0), (.iconst (0), 0), (.ireturn, 1)] := rfl
theorem b275_29 : blk 275 29 = [(.aload 1, 0), (.aload 0, 0), (.iload 4, 0), (.iconst (1), 0), (.iadd, 0), (.iaload, 0), (.aload 0, 0), (.iload 4, 0), (.iconst (2), 0), (.iadd, 0), (.iaload, 0), (.aload 0, 0), (.iload 4, 0), (.iconst (3), 0), (.iadd, 0), (.iaload, 0), (.invokeinterface 39 4, 10), (.aload 2, 0), (.aload 0, 0), (.iload 4, 0), (.iconst (1), 0), (.iadd, 0), (.iaload, 0), (.aload 0, 0), (.iload 4, 0), (.iconst (2), 0), (.iadd, 0), (.iaload, 0), (.aload 0, 0), (.iload 4, 0), (.iconst (3), 0), (.iadd, 0), (.iaload, 0), (.invokeinterface 165 4, 11), (.if_icmp .eq 48, 0), (.iconst (0), 0), (.ireturn, 1)] := rfl
theorem b275_30 : blk 275 30 = [(.aload 1, 0), (.aload 0, 0), (.iload 4, 0), (.iconst (1), 0), (.iadd, 0), (.iaload, 0), (.aload 0, 0), (.iload 4, 0), (.iconst (2), 0), (.iadd, 0), (.iaload, 0), (.invokeinterface 40 3, 10), (.aload 2, 0), (.aload 0, 0), (.iload 4, 0), (.iconst (1), 0), (.iadd, 0), (.iaload, 0), (.aload 0, 0), (.iload 4, 0), (.iconst (2), 0), (.iadd, 0), (.iaload, 0), (.invokeinterface 166 3, 11), (.if_icmp .eq 48, 0), (.iconst (0), 0), (.ireturn, 1)] := rfl
theorem b275_31 : blk 275 31 = [(.aload 1, 0), (.aload 0, 0), (.iload 4, 0), (.iconst (1), 0), (.iadd, 0), (.iaload, 0), (.aload 0, 0), (.iload 4, 0), (.iconst (2), 0), (.iadd, 0), (.iaload, 0), (.aload 0, 0), (.iload 4, 0), (.iconst (3), 0), (.iadd, 0), (.iaload, 0), (.invokeinterface 11 4, 10), (.aload 2, 0), (.aload 0, 0), (.iload 4, 0), (.iconst (1), 0), (.iadd, 0), (.iaload, 0), (.aload 0, 0), (.iload 4, 0), (.iconst (2), 0), (.iadd, 0), (.iaload, 0), (.aload 0, 0), (.iload 4, 0), (.iconst (3), 0), (.iadd, 0), (.iaload, 0), (.invokeinterface 119 4, 11), (.if_icmp .eq 48, 0), (.iconst (0), 0), (.ireturn, 1)] := rfl
theorem b275_32 : blk 275 32 = [(.aload 1, 0), (.aload 0, 0), (.iload 4, 0), (.iconst (1), 0), (.iadd, 0), (.iaload, 0), (.aload 0, 0), (.iload 4, 0), (.iconst (2), 0), (.iadd, 0), (.iaload, 0), (.aload 0, 0), (.iload 4, 0), (.iconst (3), 0), (.iadd, 0), (.iaload, 0), (.aload 0, 0), (.iload 4, 0), (.iconst (4), 0), (.iadd, 0), (.iaload, 0), (.invokeinterface 42 5, 10), (.aload 2, 0), (.aload 0, 0), (.iload 4, 0), (.iconst (1), 0), (.iadd, 0), (.iaload, 0), (.aload 0, 0), (.iload 4, 0), (.iconst (2), 0), (.iadd, 0), (.iaload, 0), (.aload 0, 0), (.iload 4, 0), (.iconst (3), 0), (.iadd, 0), (.iaload, 0), (.aload 0, 0), (.iload 4, 0), (.iconst (4), 0), (.iadd, 0), (.iaload, 0), (.invokeinterface 168 5, 11), (.lcmp, 0), (.ifCond .eq 48, 0), (.iconst (0), 0), (.ireturn, 1)] := rfl
theorem b275_33 : blk 275 33 = [(.aload 1, 0), (.aload 0, 0), (.iload 4, 0), (.iconst (1), 0), (.iadd, 0), (.iaload, 0), (.aload 0, 0), (.iload 4, 0), (.iconst (2), 0), (.iadd, 0), (.iaload, 0), (.invokeinterface 44 3, 10), (.aload 2, 0), (.aload 0, 0), (.iload 4, 0), (.iconst (1), 0), (.iadd, 0), (.iaload, 0), (.aload 0, 0), (.iload 4, 0), (.iconst (2), 0), (.iadd, 0), (.iaload, 0), (.invokeinterface 169 3, 11), (.lcmp, 0), (.ifCond .eq 48, 0), (.iconst (0), 0), (.ireturn, 1)] := rfl
theorem b275_34 : blk 275 34 = [(.aload 1, 0), (.aload 0, 0), (.iload 4, 0), (.iconst (1), 0), (.iadd, 0), (.iaload, 0), (.aload 0, 0), (.iload 4, 0), (.iconst (2), 0), (.iadd, 0), (.iaload, 0), (.aload 0, 0), (.iload 4, 0), (.iconst (3), 0), (.iadd, 0), (.iaload, 0), (.invokeinterface 46 4, 10), (.aload 2, 0), (.aload 0, 0), (.iload 4, 0), (.iconst (1), 0), (.iadd, 0), (.iaload, 0), (.aload 0, 0), (.iload 4, 0), (.iconst (2), 0), (.iadd, 0), (.iaload, 0), (.aload 0, 0), (.iload 4, 0), (.iconst (3), 0), (.iadd, 0), (.iaload, 0), (.invokeinterface 170 4, 11), (.if_icmp .eq 48, 0), (.iconst (0), 0), (.ireturn, 1)] := rfl
theorem b275_35 : blk 275 35 = [(.aload 1, 0), (.aload 0, 0), (.iload 4, 0), (.iconst (1), 0), (.iadd, 0), (.iaload, 0), (.aload 0, 0), (.iload 4, 0), (.iconst (2), 0), (.iadd, 0), (.iaload, 0), (.aload 0, 0), (.iload 4, 0), (.iconst (3), 0), (.iadd, 0), (.iaload, 0), (.aload 0, 0), (.iload 4, 0), (.iconst (4), 0), (.iadd, 0), (.iaload, 0), (.invokeinterface 28 5, 10), (.aload 2, 0), (.aload 0, 0), (.iload 4, 0), (.iconst (1), 0), (.iadd, 0), (.iaload, 0), (.aload 0, 0), (.iload 4, 0), (.iconst (2), 0), (.iadd, 0), (.iaload, 0), (.aload 0, 0), (.iload 4, 0), (.iconst (3), 0), (.iadd, 0), (.iaload, 0), (.aload 0, 0), (.iload 4, 0), (.iconst (4), 0), (.iadd, 0), (.iaload, 0), (.invokeinterface 172 5, 11), (.lcmp, 0), (.ifCond .eq 48, 0), (.iconst (0), 0), (.ireturn, 1)] := rfl
theorem b275_36 : blk 275 36 = [(.aload 1, 0), (.aload 0, 0), (.iload 4, 0), (.iconst (1), 0), (.iadd, 0), (.iaload, 0), (.invokeinterface 29 2, 10), (.aload 2, 0), (.aload 0, 0), (.iload 4, 0), (.iconst (1), 0), (.iadd, 0), (.iaload, 0), (.invokeinterface 173 2, 11), (.if_icmp .eq 48, 0), (.iconst (0), 0), (.ireturn, 1)] := rfl
theorem b275_37 : blk 275 37 = [(.aload 1, 0), (.aload 0, 0), (.iload 4, 0), (.iconst (1), 0), (.iadd, 0), (.iaload, 0), (.invokeinterface 30 2, 10), (.aload 2, 0), (.aload 0, 0), (.iload 4, 0), (.iconst (1), 0), (.iadd, 0), (.iaload, 0), (.invokeinterface 175 2, 11), (.lcmp, 0), (.ifCond .eq 48, 0), (.iconst (0), 0), (.ireturn, 1)] := rfl
theorem b275_38 : blk 275 38 = [(.aload 1, 0), (.aload 0, 0), (.iload 4, 0), (.iconst (1), 0), (.iadd, 0), (.iaload, 0), (.aload 0, 0), (.iload 4, 0), (.iconst (2), 0), (.iadd, 0), (.iaload, 0), (.invokeinterface 31 3, 10), (.aload 2, 0), (.aload 0, 0), (.iload 4, 0), (.iconst (1), 0), (.iadd, 0), (.iaload, 0), (.aload 0, 0), (.iload 4, 0), (.iconst (2), 0), (.iadd, 0), (.iaload, 0), (.invokeinterface 176 3, 11), (.if_icmp .eq 48, 0), (.iconst (0), 0), (.ireturn, 1)] := rfl
theorem b275_39 : blk 275 39 = [(.aload 1, 0), (.aload 0, 0), (.iload 4, 0), (.iconst (1), 0), (.iadd, 0), (.iaload, 0), (.invokeinterface 32 2, 10), (.aload 2, 0), (.aload 0, 0), (.iload 4, 0), (.iconst (1), 0), (.iadd, 0), (.iaload, 0), (.invokeinterface 177 2, 11), (.lcmp, 0), (.ifCond .eq 48, 0), (.iconst (0), 0), (.ireturn, 1)] := rfl
theorem b275_40 : blk 275 40 = [(.aload 1, 0), (.aload 0, 0), (.iload 4, 0), (.iconst (1), 0), (.iadd, 0), (.iaload, 0), (.aload 0, 0), (.iload 4, 0), (.iconst (2), 0), (.iadd, 0), (.iaload, 0), (.aload 0, 0), (.iload 4, 0), (.iconst (3), 0), (.iadd, 0), (.iaload, 0), (.aload 0, 0), (.iload 4, 0), (.iconst (4), 0), (.iadd, 0), (.iaload, 0), (.invokeinterface 43 5, 10), (.aload 2, 0), (.aload 0, 0), (.iload 4, 0), (.iconst (1), 0), (.iadd, 0), (.iaload, 0), (.aload 0, 0), (.iload 4, 0), (.iconst (2), 0), (.iadd, 0), (.iaload, 0), (.aload 0, 0), (.iload 4, 0), (.iconst (3), 0), (.iadd, 0), (.iaload, 0), (.aload 0, 0), (.iload 4, 0), (.iconst (4), 0), (.iadd, 0), (.iaload, 0), (.invokeinterface 178 5, 11), (.lcmp, 0), (.ifCond .eq 48, 0), (.iconst (0), 0), (.ireturn, 1)] := rfl
theorem b275_41 : blk 275 41 = [(.aload 1, 0), (.aload 0, 0), (.iload 4, 0), (.iconst (1), 0), (.iadd, 0), (.iaload, 0), (.aload 0, 0), (.iload 4, 0), (.iconst (2), 0), (.iadd, 0), (.iaload, 0), (.invokeinterface 49 3, 10), (.aload 2, 0), (.aload 0, 0), (.iload 4, 0), (.iconst (1), 0), (.iadd, 0), (.iaload, 0), (.aload 0, 0), (.iload 4, 0), (.iconst (2), 0), (.iadd, 0), (.iaload, 0), (.invokeinterface 179 3, 11), (.if_icmp .eq 48, 0), (.iconst (0), 0), (.ireturn, 1)] := rfl
theorem b275_42 : blk 275 42 = [(.aload 1, 0), (.aload 0, 0), (.iload 4, 0), (.iconst (1), 0), (.iadd, 0), (.iaload, 0), (.invokeinterface 50 2, 10), (.aload 2, 0), (.aload 0, 0), (.iload 4, 0), (.iconst (1), 0), (.iadd, 0), (.iaload, 0), (.invokeinterface 181 2, 11), (.if_icmp .eq 48, 0), (.iconst (0), 0), (.ireturn, 1)] := rfl
theorem b275_43 : blk 275 43 = [(.aload 1, 0), (.aload 0, 0), (.iload 4, 0), (.iconst (1), 0), (.iadd, 0), (.iaload, 0), (.invokeinterface 37 2, 10), (.aload 2, 0), (.aload 0, 0), (.iload 4, 0), (.iconst (1), 0), (.iadd, 0), (.iaload, 0), (.invokeinterface 182 2, 11), (.if_icmp .eq 48, 0), (.iconst (0), 0), (.ireturn, 1)] := rfl
theorem b275_44 : blk 275 44 = [(.aload 1, 0), (.invokeinterface 51 1, 10), (.aload 2, 0), (.invokeinterface 183 1, 11), (.if_icmp .eq 48, 0), (.iconst (0), 0), (.ireturn, 1)] := rfl
theorem b275_45 : blk 275 45 = [(.aload 1, 0), (.invokeinterface 52 1, 10), (.aload 2, 0), (.invokeinterface 186 1, 11), (.if_icmp .eq 48, 0), (.iconst (0), 0), (.ireturn, 1)] := rfl
theorem b275_46 : blk 275 46 = [(.aload 1, 0), (.invokeinterface 53 1, 10), (.aload 2, 0), (.invokeinterface 187 1, 11), (.if_icmp .eq 48, 0), (.iconst (0), 0), (.ireturn, 1)] := rfl
theorem b275_47 : blk 275 47 = [(.aload 1, 0), (.aload 0, 0), (.iload 4, 0), (.iconst (1), 0), (.iadd, 0), (.iaload, 0), (.invokeinterface 54 2, 10), (.aload 2, 0), (.aload 0, 0), (.iload 4, 0), (.iconst (1), 0), (.iadd, 0), (.iaload, 0), (.invokeinterface 188 2, 11), (.if_icmp .eq 48, 0), (.iconst (0), 0), (.ireturn, 1)] := rfl
theorem b275_48 : blk 275 48 = [(.iinc 4 (8), 0), (.goto 1, 0)] := rfl
theorem b275_49 : blk 275 49 = [(.iconst (1), 0), (.ireturn, 1)] := rfl
/-! 276: java/lang/Integer.bitCount(I)I -/
theorem eL276 : eL (mOf 276) = 1 := rfl
theorem b276_0 : blk 276 0 = [(.iload 0, 0), (.iload 0, 0), (.iconst (1), 0), (.iushr, 0), (.iconst (1431655765), 0), (.iand, 0), (.isub, 0), (.istore 0, 0), (.iload 0, 0), (.iconst (858993459), 0), (.iand, 0), (.iload 0, 0), (.iconst (2), 0), (.iushr, 0), (.iconst (858993459), 0), (.iand, 0), (.iadd, 0), (.istore 0, 0), (.iload 0, 0), (.iload 0, 0), (.iconst (4), 0), (.iushr, 0), (.iadd, 0), (.iconst (252645135), 0), (.iand, 0), (.istore 0, 0), (.iload 0, 0), (.iload 0, 0), (.iconst (8), 0), (.iushr, 0), (.iadd, 0), (.istore 0, 0), (.iload 0, 0), (.iload 0, 0), (.iconst (16), 0), (.iushr, 0), (.iadd, 0), (.istore 0, 0), (.iload 0, 0), (.iconst (63), 0), (.iand, 0), (.ireturn, 0)] := rfl
/-! 277: java/lang/Math.max(JJ)J -/
theorem eL277 : eL (mOf 277) = 4 := rfl
theorem b277_0 : blk 277 0 = [(.lload 0, 0), (.lload 2, 0), (.lcmp, 0), (.ifCond .lt 1, 0), (.lload 0, 0), (.goto 2, 0)] := rfl
theorem b277_1 : blk 277 1 = [(.lload 2, 0), (.jsr 2, 0)] := rfl
theorem b277_2 : blk 277 2 = [(.lreturn, 0)] := rfl
/-! 278: java/lang/Math.min(II)I -/
theorem eL278 : eL (mOf 278) = 2 := rfl
theorem b278_0 : blk 278 0 = [(.iload 0, 0), (.iload 1, 0), (.if_icmp .gt 1, 0), (.iload 0, 0), (.goto 2, 0)] := rfl
theorem b278_1 : blk 278 1 = [(.iload 1, 0), (.jsr 2, 0)] := rfl
theorem b278_2 : blk 278 2 = [(.ireturn, 0)] := rfl
/-! 279: java/lang/Math.min(JJ)J -/
theorem eL279 : eL (mOf 279) = 4 := rfl
theorem b279_0 : blk 279 0 = [(.lload 0, 0), (.lload 2, 0), (.lcmp, 0), (.ifCond .gt 1, 0), (.lload 0, 0), (.goto 2, 0)] := rfl
theorem b279_1 : blk 279 1 = [(.lload 2, 0), (.jsr 2, 0)] := rfl
theorem b279_2 : blk 279 2 = [(.lreturn, 0)] := rfl
