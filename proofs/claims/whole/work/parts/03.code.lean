/-! The methods: code blocks by program. -/
/-- DiceLaw.<init>()V -/
def me0 : ME := ((10, yX10_init, prog_1_method_1_code), (2, 0, 2, 1), [0, 172, 200], [
  [(.aload 0, 0), (.monitorexit, 0), (.aload 0, 0), (.new 8, 2), (.dup, 0), (.invokeinterface 258 1, 8), (.instanceof 10, 0), (.aload 0, 0), (.iconst (4), 0), (.anewarray 8, 0), (.instanceof 10, 1), (.aload 0, 0), (.new 6, 2), (.dup, 0), (.invokeinterface 241 1, 6), (.instanceof 10, 3), (.aload 0, 0), (.new 7, 6), (.dup, 0), (.invokeinterface 244 1, 7), (.instanceof 10, 4), (.aload 0, 0), (.iconst (6), 0), (.newarray .int, 0), (.instanceof 10, 5), (.aload 0, 0), (.new 0, 3), (.dup, 0), (.invokeinterface 189 1, 0), (.instanceof 10, 6), (.aload 0, 0), (.new 3, 10), (.dup, 0), (.invokeinterface 216 1, 3), (.instanceof 10, 7), (.aload 0, 0), (.new 0, 3), (.dup, 0), (.invokeinterface 189 1, 0), (.instanceof 10, 8), (.aload 0, 0), (.new 3, 10), (.dup, 0), (.invokeinterface 216 1, 3), (.instanceof 10, 9), (.aload 0, 0), (.iconst (6), 0), (.newarray .int, 0), (.dup, 0), (.iconst (0), 0), (.iconst (2), 0), (.iastore, 0), (.dup, 0), (.iconst (1), 0), (.iconst (2), 0), (.iastore, 0), (.dup, 0), (.iconst (2), 0), (.iconst (2), 0), (.iastore, 0), (.dup, 0), (.iconst (3), 0), (.iconst (2), 0), (.iastore, 0), (.dup, 0), (.iconst (4), 0), (.iconst (2), 0), (.iastore, 0), (.dup, 0), (.iconst (5), 0), (.iconst (2), 0), (.iastore, 0), (.instanceof 10, 11), (.aload 0, 0), (.iconst (6), 0), (.newarray .int, 0), (.instanceof 10, 12), (.aload 0, 0), (.new 4, 4), (.dup, 0), (.invokeinterface 232 1, 4), (.instanceof 10, 13), (.aload 0, 0), (.new 1, 15), (.dup, 0), (.invokeinterface 195 1, 1), (.instanceof 10, 14), (.aload 0, 0), (.aload 0, 0), (.checkcast 10, 14), (.checkcast 1, 0), (.instanceof 10, 15), (.iconst (0), 0), (.istore 1, 0), (.jsr 1, 0)],
  [(.iload 1, 0), (.aload 0, 0), (.checkcast 10, 1), (.arraylength, 0), (.if_icmp .ge 2, 0), (.aload 0, 0), (.checkcast 10, 1), (.iload 1, 0), (.new 8, 2), (.dup, 0), (.invokeinterface 258 1, 8), (.aastore, 0), (.iinc 1 (1), 0), (.goto 1, 0)],
  [(.return_, 0)]])
/-- DiceLaw.feed(IIIII)I -/
def me1 : ME := ((10, yX10_feed, prog_1_method_2_code), (7, 1, 1, 6), [0, 45], [
  [(.iload 1, 0), (.invokestatic 70, 1), (.iload 2, 0), (.invokestatic 70, 1), (.iadd, 0), (.iload 3, 0), (.invokestatic 70, 1), (.iadd, 0), (.iload 4, 0), (.invokestatic 70, 1), (.iadd, 0), (.iload 5, 0), (.invokestatic 70, 1), (.iadd, 0), (.istore 6, 0), (.aload 0, 0), (.checkcast 10, 0), (.getfield 8, 1), (.iload 6, 0), (.iadd, 0), (.iconst (120), 0), (.if_icmp .le 1, 0), (.iconst (-1), 0), (.ireturn, 0)],
  [(.aload 0, 0), (.checkcast 10, 0), (.iload 1, 0), (.invokeinterface 259 2, 8), (.aload 0, 0), (.checkcast 10, 0), (.iload 2, 0), (.invokeinterface 259 2, 8), (.aload 0, 0), (.checkcast 10, 0), (.iload 3, 0), (.invokeinterface 259 2, 8), (.aload 0, 0), (.checkcast 10, 0), (.iload 4, 0), (.invokeinterface 259 2, 8), (.aload 0, 0), (.checkcast 10, 0), (.iload 5, 0), (.invokeinterface 259 2, 8), (.aload 0, 0), (.checkcast 10, 0), (.getfield 8, 1), (.ireturn, 0)]])
/-- DiceLaw.end(I)Z -/
def me2 : ME := ((10, yX10_end, prog_1_method_3_code), (2, 2, 1, 2), [0, 15, 17], [
  [(.iload 1, 0), (.ifCond .lt 1, 0), (.iload 1, 0), (.aload 0, 0), (.checkcast 10, 0), (.getfield 8, 1), (.if_icmp .le 2, 0), (.jsr 1, 0)],
  [(.iconst (0), 0), (.ireturn, 1)],
  [(.aload 0, 0), (.checkcast 10, 0), (.iload 1, 0), (.putfield 8, 1), (.iconst (1), 0), (.ireturn, 1)]])
/-- DiceLaw.fault(I)I -/
def me3 : ME := ((10, yX10_fault, prog_1_method_4_code), (2, 1, 1, 2), [0, 16, 39, 41], [
  [(.iload 1, 0), (.ifCond .ne 1, 0), (.aload 0, 0), (.checkcast 10, 3), (.aload 0, 0), (.checkcast 10, 0), (.invokeinterface 242 2, 6), (.ireturn, 0)],
  [(.iload 1, 0), (.iconst (1), 0), (.if_icmp .ne 2, 0), (.aload 0, 0), (.checkcast 10, 4), (.aload 0, 0), (.checkcast 10, 0), (.aload 0, 0), (.checkcast 10, 5), (.invokeinterface 245 3, 7), (.goto 3, 0)],
  [(.iconst (-2), 0), (.jsr 3, 0)],
  [(.ireturn, 0)]])
/-- DiceLaw.text(I)I -/
def me4 : ME := ((10, yX10_text, prog_1_method_5_code), (3, 1, 1, 2), [0, 14, 24, 37], [
  [(.iconst (-1), 0), (.istore 2, 0), (.iload 1, 0), (.ifCond .ne 1, 0), (.aload 0, 0), (.invokeinterface 5 1, 10), (.istore 2, 0), (.goto 2, 0)],
  [(.iload 1, 0), (.iconst (1), 0), (.if_icmp .ne 2, 0), (.aload 0, 0), (.invokeinterface 6 1, 10), (.istore 2, 0), (.jsr 2, 0)],
  [(.iload 2, 0), (.iconst (-1), 0), (.if_icmp .eq 3, 0), (.aload 0, 0), (.checkcast 10, 0), (.iconst (0), 0), (.putfield 8, 1), (.jsr 3, 0)],
  [(.iload 2, 0), (.ireturn, 0)]])
/-- DiceLaw.takeLaw()I -/
def me5 : ME := ((10, yX10_takeLaw, prog_1_method_6_code), (1, 1, 1, 1), [0, 36, 38], [
  [(.aload 0, 0), (.checkcast 10, 3), (.aload 0, 0), (.checkcast 10, 0), (.invokeinterface 242 2, 6), (.iconst (-1), 0), (.if_icmp .ne 1, 0), (.aload 0, 0), (.checkcast 10, 6), (.getfield 0, 0), (.iconst (5), 0), (.if_icmp .ge 1, 0), (.aload 0, 0), (.checkcast 10, 7), (.getfield 3, 2), (.ifCond .le 2, 0), (.jsr 1, 0)],
  [(.iconst (-1), 0), (.ireturn, 0)],
  [(.aload 0, 0), (.checkcast 10, 6), (.aload 0, 0), (.checkcast 10, 3), (.checkcast 6, 1), (.invokeinterface 190 2, 0), (.aload 0, 0), (.checkcast 10, 6), (.getfield 0, 0), (.iconst (1), 0), (.isub, 0), (.ireturn, 0)]])
/-- DiceLaw.takeRule()I -/
def me6 : ME := ((10, yX10_takeRule, prog_1_method_7_code), (2, 1, 1, 1), [0, 31, 32, 56, 58], [
  [(.aload 0, 0), (.getfield 10, 2), (.ifCond .lt 1, 0), (.aload 0, 0), (.getfield 10, 2), (.aload 0, 0), (.checkcast 10, 1), (.arraylength, 0), (.if_icmp .ge 1, 0), (.aload 0, 0), (.checkcast 10, 1), (.aload 0, 0), (.getfield 10, 2), (.aaload, 0), (.goto 2, 0)],
  [(.aconst_null, 0), (.jsr 2, 0)],
  [(.astore 1, 0), (.aload 1, 0), (.ifnull 3, 0), (.aload 0, 0), (.checkcast 10, 4), (.aload 0, 0), (.checkcast 10, 0), (.aload 0, 0), (.checkcast 10, 5), (.invokeinterface 245 3, 7), (.iconst (-1), 0), (.if_icmp .eq 4, 0), (.jsr 3, 0)],
  [(.iconst (-1), 0), (.ireturn, 0)],
  [(.aload 1, 0), (.aload 0, 0), (.checkcast 10, 0), (.invokeinterface 260 2, 8), (.aload 0, 0), (.dup, 0), (.getfield 10, 2), (.iconst (1), 0), (.iadd, 0), (.putfield 10, 2), (.aload 0, 0), (.getfield 10, 2), (.iconst (1), 0), (.isub, 0), (.ireturn, 0)]])
/-- DiceLaw.clause(II)I -/
def me7 : ME := ((10, yX10_clause, prog_1_method_8_code), (3, 1, 3, 3), [], [
])
/-- DiceLaw.weigh(IIIIIII)Z -/
def me8 : ME := ((10, yX10_weigh, prog_1_method_9_code), (8, 2, 1, 8), [0, 29, 31], [
  [(.aload 0, 0), (.checkcast 10, 6), (.iload 1, 0), (.iconst (0), 0), (.invokeinterface 191 3, 0), (.ifCond .eq 1, 0), (.aload 0, 0), (.iload 2, 0), (.iload 3, 0), (.iload 4, 0), (.iload 5, 0), (.iload 6, 0), (.iload 7, 0), (.invokeinterface 9 7, 10), (.ifCond .ne 2, 0), (.jsr 1, 0)],
  [(.iconst (0), 0), (.ireturn, 1)],
  [(.aload 0, 0), (.checkcast 10, 12), (.iconst (0), 0), (.aload 0, 0), (.checkcast 10, 6), (.checkcast 0, 2), (.iload 1, 0), (.iconst (6), 0), (.imul, 0), (.iconst (6), 0), (.invokestatic 67, 5), (.iconst (1), 0), (.ireturn, 1)]])
/-- DiceLaw.isWeighed(IIIIII)Z -/
def me9 : ME := ((10, yX10_isWeighed, prog_1_method_10_code), (12, 2, 1, 7), [0, 74, 100, 102, 115, 126, 127], [
  [(.aload 0, 0), (.checkcast 10, 12), (.iconst (0), 0), (.iload 1, 0), (.invokestatic 63, 3), (.aload 0, 0), (.checkcast 10, 12), (.iconst (1), 0), (.iload 2, 0), (.invokestatic 63, 3), (.aload 0, 0), (.checkcast 10, 12), (.iconst (2), 0), (.iload 3, 0), (.invokestatic 63, 3), (.aload 0, 0), (.checkcast 10, 12), (.iconst (3), 0), (.iload 4, 0), (.invokestatic 63, 3), (.aload 0, 0), (.checkcast 10, 12), (.iconst (4), 0), (.iload 5, 0), (.invokestatic 63, 3), (.aload 0, 0), (.checkcast 10, 12), (.iconst (5), 0), (.iload 6, 0), (.invokestatic 63, 3), (.iconst (0), 0), (.istore 7, 0), (.aload 0, 0), (.checkcast 10, 12), (.astore 8, 0), (.aload 8, 0), (.arraylength, 0), (.istore 9, 0), (.iconst (0), 0), (.istore 10, 0), (.jsr 1, 0)],
  [(.iload 10, 0), (.iload 9, 0), (.if_icmp .ge 4, 0), (.aload 8, 0), (.iload 10, 0), (.iaload, 0), (.istore 11, 0), (.iload 11, 0), (.ifCond .lt 2, 0), (.iload 11, 0), (.iconst (12), 0), (.if_icmp .le 3, 0), (.jsr 2, 0)],
  [(.iconst (0), 0), (.ireturn, 1)],
  [(.iload 7, 0), (.iload 11, 0), (.iadd, 0), (.istore 7, 0), (.iinc 10 (1), 0), (.goto 1, 0)],
  [(.iload 7, 0), (.iconst (12), 0), (.if_icmp .ne 5, 0), (.iconst (1), 0), (.goto 6, 0)],
  [(.iconst (0), 0), (.jsr 6, 0)],
  [(.ireturn, 1)]])
/-- DiceLaw.weight(II)I -/
def me10 : ME := ((10, yX10_weight, prog_1_method_11_code), (3, 1, 1, 3), [0, 24, 25], [
  [(.aload 0, 0), (.checkcast 10, 6), (.iload 1, 0), (.iload 2, 0), (.invokeinterface 191 3, 0), (.ifCond .eq 1, 0), (.aload 0, 0), (.checkcast 10, 6), (.iload 1, 0), (.iload 2, 0), (.invokeinterface 193 3, 0), (.goto 2, 0)],
  [(.iconst (-1), 0), (.jsr 2, 0)],
  [(.ireturn, 0)]])
/-- DiceLaw.amend(III)Z -/
def me11 : ME := ((10, yX10_amend, prog_1_method_12_code), (4, 2, 1, 4), [0, 19, 21], [
  [(.aload 0, 0), (.checkcast 10, 6), (.iload 1, 0), (.iload 2, 0), (.invokeinterface 191 3, 0), (.ifCond .eq 1, 0), (.iload 3, 0), (.invokestatic 60, 1), (.ifCond .ne 2, 0), (.jsr 1, 0)],
  [(.iconst (0), 0), (.ireturn, 1)],
  [(.aload 0, 0), (.checkcast 10, 6), (.checkcast 0, 1), (.iload 1, 0), (.iconst (6), 0), (.imul, 0), (.iload 2, 0), (.iadd, 0), (.iload 3, 0), (.invokestatic 63, 3), (.iconst (1), 0), (.ireturn, 1)]])
/-- DiceLaw.seed(J)V -/
def me12 : ME := ((10, yX10_seed, prog_1_method_13_code), (3, 0, 1, 2), [0], [
  [(.aload 0, 0), (.checkcast 10, 7), (.lload 1, 0), (.putstatic 3, 0), (.return_, 0)]])
/-- DiceLaw.dawn()I -/
def me13 : ME := ((10, yX10_dawn, prog_1_method_14_code), (3, 1, 1, 1), [0, 22, 24], [
  [(.aload 0, 0), (.checkcast 10, 6), (.getfield 0, 0), (.ifCond .eq 1, 0), (.aload 0, 0), (.checkcast 10, 7), (.getfield 3, 2), (.iconst (40), 0), (.if_icmp .lt 2, 0), (.jsr 1, 0)],
  [(.iconst (-1), 0), (.ireturn, 0)],
  [(.aload 0, 0), (.checkcast 10, 7), (.getstatic 3, 0), (.lstore 1, 0), (.aload 0, 0), (.checkcast 10, 7), (.aload 0, 0), (.checkcast 10, 13), (.aload 0, 0), (.checkcast 10, 6), (.lload 1, 0), (.invokeinterface 234 3, 4), (.putstatic 3, 0), (.aload 0, 0), (.checkcast 10, 7), (.aload 0, 0), (.checkcast 10, 6), (.aload 0, 0), (.checkcast 10, 13), (.checkcast 4, 0), (.aload 0, 0), (.checkcast 10, 13), (.getfield 4, 2), (.lload 1, 0), (.invokeinterface 218 5, 3), (.ireturn, 0)]])
/-- DiceLaw.told(I)I -/
def me14 : ME := ((10, yX10_told, prog_1_method_15_code), (2, 1, 1, 2), [0, 40, 42], [
  [(.aload 0, 0), (.checkcast 10, 6), (.getfield 0, 0), (.ifCond .eq 1, 0), (.aload 0, 0), (.checkcast 10, 7), (.getfield 3, 2), (.iconst (40), 0), (.if_icmp .ge 1, 0), (.aload 0, 0), (.checkcast 10, 13), (.aload 0, 0), (.checkcast 10, 6), (.getfield 0, 0), (.iload 1, 0), (.invokeinterface 233 3, 4), (.ifCond .ne 2, 0), (.jsr 1, 0)],
  [(.iconst (-1), 0), (.ireturn, 0)],
  [(.aload 0, 0), (.checkcast 10, 7), (.aload 0, 0), (.checkcast 10, 6), (.aload 0, 0), (.checkcast 10, 13), (.checkcast 4, 0), (.iconst (0), 0), (.aload 0, 0), (.checkcast 10, 7), (.getstatic 3, 0), (.invokeinterface 218 5, 3), (.ireturn, 0)]])
/-- DiceLaw.undo()I -/
def me15 : ME := ((10, yX10_undo, prog_1_method_16_code), (1, 1, 1, 1), [0, 14, 21], [
  [(.aload 0, 0), (.checkcast 10, 7), (.getfield 3, 2), (.ifCond .ne 1, 0), (.iconst (-1), 0), (.goto 2, 0)],
  [(.aload 0, 0), (.checkcast 10, 7), (.invokeinterface 219 1, 3), (.jsr 2, 0)],
  [(.ireturn, 0)]])
/-- DiceLaw.day(II)I -/
def me16 : ME := ((10, yX10_day, prog_1_method_17_code), (3, 1, 1, 3), [0, 20, 22, 37, 48], [
  [(.aload 0, 0), (.checkcast 10, 7), (.iload 1, 0), (.invokeinterface 217 2, 3), (.ifCond .eq 1, 0), (.iload 2, 0), (.ifCond .lt 1, 0), (.iload 2, 0), (.iconst (1), 0), (.if_icmp .le 2, 0), (.jsr 1, 0)],
  [(.iconst (-1), 0), (.ireturn, 0)],
  [(.iload 2, 0), (.ifCond .ne 3, 0), (.aload 0, 0), (.checkcast 10, 7), (.iload 1, 0), (.invokeinterface 220 2, 3), (.goto 4, 0)],
  [(.aload 0, 0), (.checkcast 10, 7), (.checkcast 3, 6), (.iload 1, 0), (.invokestatic 61, 2), (.jsr 4, 0)],
  [(.ireturn, 0)]])
/-- DiceLaw.held(II)I -/
def me17 : ME := ((10, yX10_held, prog_1_method_18_code), (3, 1, 1, 3), [0, 35, 36], [
  [(.aload 0, 0), (.checkcast 10, 6), (.iload 1, 0), (.iconst (0), 0), (.invokeinterface 191 3, 0), (.ifCond .eq 1, 0), (.aload 0, 0), (.checkcast 10, 7), (.iload 2, 0), (.invokeinterface 217 2, 3), (.ifCond .eq 1, 0), (.aload 0, 0), (.checkcast 10, 7), (.iload 1, 0), (.iload 2, 0), (.invokeinterface 222 3, 3), (.goto 2, 0)],
  [(.iconst (-1), 0), (.jsr 2, 0)],
  [(.ireturn, 0)]])
/-- DiceLaw.deed(III)I -/
def me18 : ME := ((10, yX10_deed, prog_1_method_19_code), (4, 1, 1, 4), [0, 18, 20, 56, 69, 82, 95, 108, 121], [
  [(.iload 1, 0), (.invokestatic 55, 1), (.ifCond .eq 1, 0), (.aload 0, 0), (.checkcast 10, 7), (.iload 2, 0), (.invokeinterface 217 2, 3), (.ifCond .ne 2, 0), (.jsr 1, 0)],
  [(.iconst (-1), 0), (.ireturn, 0)],
  [(.iload 3, 0), (.tableswitch 8 (0) (4) #[3, 4, 5, 6, 7], 0)],
  [(.aload 0, 0), (.checkcast 10, 7), (.iload 2, 0), (.iload 1, 0), (.invokeinterface 225 3, 3), (.invokestatic 69, 1), (.ireturn, 0)],
  [(.aload 0, 0), (.checkcast 10, 7), (.iload 2, 0), (.iload 1, 0), (.invokeinterface 226 3, 3), (.invokestatic 69, 1), (.ireturn, 0)],
  [(.aload 0, 0), (.checkcast 10, 7), (.iload 2, 0), (.iconst (10), 0), (.iload 1, 0), (.iadd, 0), (.invokeinterface 224 3, 3), (.ireturn, 0)],
  [(.aload 0, 0), (.checkcast 10, 7), (.iload 2, 0), (.iconst (20), 0), (.iload 1, 0), (.iadd, 0), (.invokeinterface 224 3, 3), (.ireturn, 0)],
  [(.aload 0, 0), (.checkcast 10, 7), (.iload 2, 0), (.iconst (30), 0), (.iload 1, 0), (.iadd, 0), (.invokeinterface 224 3, 3), (.ireturn, 0)],
  [(.iconst (-1), 0), (.ireturn, 0)]])
/-- DiceLaw.odds(III)J -/
def me19 : ME := ((10, yX10_odds, prog_1_method_20_code), (4, 3, 1, 4), [0, 33, 37], [
  [(.aload 0, 0), (.checkcast 10, 6), (.getfield 0, 0), (.ifCond .eq 1, 0), (.iload 1, 0), (.invokestatic 55, 1), (.ifCond .eq 1, 0), (.iload 2, 0), (.ifCond .lt 1, 0), (.iload 2, 0), (.iconst (2), 0), (.if_icmp .gt 1, 0), (.iload 3, 0), (.invokestatic 58, 1), (.ifCond .ne 2, 0), (.jsr 1, 0)],
  [(.sipush (-1), 0), (.lreturn, 0)],
  [(.aload 0, 0), (.iload 2, 0), (.iload 1, 0), (.iload 1, 0), (.invokeinterface 34 4, 10), (.aload 0, 0), (.checkcast 10, 15), (.invokeinterface 265 1, 9), (.iload 3, 0), (.invokestatic 71, 3), (.lreturn, 0)]])
/-- DiceLaw.both(III)J -/
def me20 : ME := ((10, yX10_both, prog_1_method_21_code), (4, 3, 1, 4), [0, 25, 29], [
  [(.aload 0, 0), (.checkcast 10, 6), (.getfield 0, 0), (.ifCond .eq 1, 0), (.iload 1, 0), (.iload 2, 0), (.invokestatic 56, 2), (.ifCond .eq 1, 0), (.iload 3, 0), (.invokestatic 58, 1), (.ifCond .ne 2, 0), (.jsr 1, 0)],
  [(.sipush (-1), 0), (.lreturn, 0)],
  [(.aload 0, 0), (.iconst (3), 0), (.iload 1, 0), (.iload 2, 0), (.invokeinterface 34 4, 10), (.aload 0, 0), (.checkcast 10, 15), (.invokeinterface 265 1, 9), (.iload 3, 0), (.invokestatic 71, 3), (.lreturn, 0)]])
/-- DiceLaw.free(I)J -/
def me21 : ME := ((10, yX10_free, prog_1_method_22_code), (2, 3, 1, 2), [0, 17, 21], [
  [(.aload 0, 0), (.checkcast 10, 6), (.getfield 0, 0), (.ifCond .eq 1, 0), (.iload 1, 0), (.invokestatic 58, 1), (.ifCond .ne 2, 0), (.jsr 1, 0)],
  [(.sipush (-1), 0), (.lreturn, 0)],
  [(.aload 0, 0), (.iconst (4), 0), (.iconst (0), 0), (.iconst (0), 0), (.invokeinterface 34 4, 10), (.aload 0, 0), (.checkcast 10, 15), (.invokeinterface 265 1, 9), (.iload 1, 0), (.invokestatic 71, 3), (.lreturn, 0)]])
/-- DiceLaw.holds(III)J -/
def me22 : ME := ((10, yX10_holds, prog_1_method_23_code), (4, 3, 1, 4), [0, 32, 36], [
  [(.aload 0, 0), (.checkcast 10, 6), (.iload 1, 0), (.iconst (0), 0), (.invokeinterface 191 3, 0), (.ifCond .eq 1, 0), (.iload 2, 0), (.invokestatic 60, 1), (.ifCond .eq 1, 0), (.iload 2, 0), (.iconst (40), 0), (.if_icmp .ge 1, 0), (.iload 3, 0), (.invokestatic 58, 1), (.ifCond .ne 2, 0), (.jsr 1, 0)],
  [(.sipush (-1), 0), (.lreturn, 0)],
  [(.aload 0, 0), (.iconst (5), 0), (.iload 1, 0), (.iload 2, 0), (.invokeinterface 34 4, 10), (.aload 0, 0), (.checkcast 10, 15), (.invokeinterface 265 1, 9), (.iload 3, 0), (.invokestatic 71, 3), (.lreturn, 0)]])
/-- DiceLaw.again(II)J -/
def me23 : ME := ((10, yX10_again, prog_1_method_24_code), (3, 3, 1, 3), [0, 26, 30], [
  [(.aload 0, 0), (.checkcast 10, 6), (.getfield 0, 0), (.ifCond .eq 1, 0), (.iload 1, 0), (.ifCond .lt 1, 0), (.iload 1, 0), (.iconst (3), 0), (.if_icmp .gt 1, 0), (.iload 2, 0), (.invokestatic 58, 1), (.ifCond .ne 2, 0), (.jsr 1, 0)],
  [(.sipush (-1), 0), (.lreturn, 0)],
  [(.aload 0, 0), (.invokeinterface 33 1, 10), (.aload 0, 0), (.checkcast 10, 15), (.checkcast 9, 12), (.iload 1, 0), (.invokestatic 62, 2), (.aload 0, 0), (.checkcast 10, 15), (.invokeinterface 265 1, 9), (.iload 2, 0), (.invokestatic 71, 3), (.lreturn, 0)]])
/-- DiceLaw.sure(I)I -/
def me24 : ME := ((10, yX10_sure, prog_1_method_25_code), (6, 1, 1, 2), [0, 19, 21, 39, 40, 47, 80, 86], [
  [(.aload 0, 0), (.checkcast 10, 6), (.getfield 0, 0), (.ifCond .eq 1, 0), (.iload 1, 0), (.ifCond .lt 1, 0), (.iload 1, 0), (.iconst (1), 0), (.if_icmp .le 2, 0), (.jsr 1, 0)],
  [(.iconst (-1), 0), (.ireturn, 0)],
  [(.aload 0, 0), (.invokeinterface 33 1, 10), (.iload 1, 0), (.ifCond .ne 3, 0), (.aload 0, 0), (.checkcast 10, 15), (.invokeinterface 265 1, 9), (.goto 4, 0)],
  [(.sipush (0), 0), (.jsr 4, 0)],
  [(.lstore 2, 0), (.iconst (0), 0), (.istore 4, 0), (.iconst (0), 0), (.istore 5, 0), (.jsr 5, 0)],
  [(.iload 5, 0), (.iconst (6), 0), (.if_icmp .ge 7, 0), (.aload 0, 0), (.checkcast 10, 14), (.iconst (0), 0), (.iload 5, 0), (.iload 5, 0), (.invokeinterface 196 4, 1), (.lload 2, 0), (.lcmp, 0), (.ifCond .ne 6, 0), (.iload 4, 0), (.iconst (1), 0), (.iload 5, 0), (.ishl, 0), (.ior, 0), (.istore 4, 0), (.jsr 6, 0)],
  [(.iinc 5 (1), 0), (.goto 5, 0)],
  [(.iload 4, 0), (.ireturn, 0)]])
/-- DiceLaw.waits(II)I -/
def me25 : ME := ((10, yX10_waits, prog_1_method_26_code), (3, 1, 1, 3), [0, 28, 30], [
  [(.aload 0, 0), (.checkcast 10, 6), (.getfield 0, 0), (.ifCond .eq 1, 0), (.iload 1, 0), (.invokestatic 55, 1), (.ifCond .eq 1, 0), (.iload 2, 0), (.iconst (1), 0), (.if_icmp .lt 1, 0), (.iload 2, 0), (.iconst (60), 0), (.if_icmp .le 2, 0), (.jsr 1, 0)],
  [(.iconst (-1), 0), (.ireturn, 0)],
  [(.aload 0, 0), (.aload 0, 0), (.iconst (0), 0), (.iload 1, 0), (.iload 1, 0), (.invokeinterface 34 4, 10), (.iload 2, 0), (.iconst (1), 0), (.iconst (0), 0), (.invokeinterface 27 5, 10), (.l2i, 0), (.ireturn, 0)]])
/-- DiceLaw.value(IIII)J -/
def me26 : ME := ((10, yX10_value, prog_1_method_27_code), (9, 3, 1, 5), [0, 23, 27, 55, 59], [
  [(.iload 3, 0), (.ifCond .lt 1, 0), (.iload 3, 0), (.iconst (999), 0), (.if_icmp .gt 1, 0), (.iload 4, 0), (.ifCond .lt 1, 0), (.iload 4, 0), (.iconst (99), 0), (.if_icmp .le 2, 0), (.jsr 1, 0)],
  [(.sipush (-1000000000), 0), (.lreturn, 0)],
  [(.aload 0, 0), (.checkcast 10, 6), (.getfield 0, 0), (.ifCond .eq 3, 0), (.iload 1, 0), (.invokestatic 55, 1), (.ifCond .eq 3, 0), (.iload 2, 0), (.iconst (1), 0), (.if_icmp .lt 3, 0), (.iload 2, 0), (.iconst (60), 0), (.if_icmp .le 4, 0), (.jsr 3, 0)],
  [(.sipush (-1000000000), 0), (.lreturn, 0)],
  [(.aload 0, 0), (.iconst (0), 0), (.iload 1, 0), (.iload 1, 0), (.invokeinterface 34 4, 10), (.lstore 5, 0), (.sipush (1000000000), 0), (.aload 0, 0), (.lload 5, 0), (.iload 2, 0), (.iconst (1), 0), (.iconst (0), 0), (.invokeinterface 27 5, 10), (.lsub, 0), (.lstore 7, 0), (.aload 0, 0), (.lload 5, 0), (.iload 2, 0), (.iload 3, 0), (.iload 4, 0), (.invokeinterface 27 5, 10), (.lload 7, 0), (.iload 4, 0), (.i2l, 0), (.lmul, 0), (.iload 2, 0), (.i2l, 0), (.lmul, 0), (.lsub, 0), (.sipush (1000000), 0), (.ldiv, 0), (.lreturn, 0)]])
/-- DiceLaw.worthOfWait(JIII)J -/
def me27 : ME := ((10, yX10_worthOfWait, prog_1_method_28_code), (15, 3, 1, 5), [0, 20, 37, 44, 76], [
  [(.aload 0, 0), (.checkcast 10, 15), (.invokeinterface 265 1, 9), (.lstore 6, 0), (.sipush (1000000000), 0), (.lstore 8, 0), (.sipush (0), 0), (.lstore 10, 0), (.iconst (0), 0), (.istore 12, 0), (.jsr 1, 0)],
  [(.iload 12, 0), (.iload 3, 0), (.if_icmp .ge 4, 0), (.lload 6, 0), (.sipush (0), 0), (.lcmp, 0), (.ifCond .ne 2, 0), (.sipush (0), 0), (.goto 3, 0)],
  [(.lload 8, 0), (.lload 1, 0), (.lmul, 0), (.lload 6, 0), (.ldiv, 0), (.jsr 3, 0)],
  [(.lstore 13, 0), (.lload 10, 0), (.lload 13, 0), (.iload 4, 0), (.iload 5, 0), (.iload 12, 0), (.imul, 0), (.isub, 0), (.i2l, 0), (.lmul, 0), (.ladd, 0), (.lstore 10, 0), (.lload 8, 0), (.lload 13, 0), (.lsub, 0), (.lstore 8, 0), (.iinc 12 (1), 0), (.goto 1, 0)],
  [(.lload 10, 0), (.lreturn, 0)]])
/-- DiceLaw.given(IIII)J -/
def me28 : ME := ((10, yX10_given, prog_1_method_29_code), (5, 3, 1, 5), [0, 27, 31], [
  [(.aload 0, 0), (.checkcast 10, 6), (.iload 1, 0), (.iload 2, 0), (.invokeinterface 191 3, 0), (.ifCond .eq 1, 0), (.iload 3, 0), (.invokestatic 55, 1), (.ifCond .eq 1, 0), (.iload 4, 0), (.invokestatic 58, 1), (.ifCond .ne 2, 0), (.jsr 1, 0)],
  [(.sipush (-1), 0), (.lreturn, 0)],
  [(.aload 0, 0), (.iconst (7), 0), (.iload 3, 0), (.iload 3, 0), (.invokeinterface 34 4, 10), (.pop2, 0), (.aload 0, 0), (.checkcast 10, 14), (.iload 1, 0), (.iload 2, 0), (.invokeinterface 205 3, 1), (.aload 0, 0), (.checkcast 10, 14), (.iload 1, 0), (.iload 2, 0), (.invokeinterface 204 3, 1), (.iload 4, 0), (.invokestatic 71, 3), (.lreturn, 0)]])
/-- DiceLaw.harm(I)I -/
def me29 : ME := ((10, yX10_harm, prog_1_method_30_code), (12, 1, 1, 2), [0, 17, 19, 38, 116, 126, 132], [
  [(.aload 0, 0), (.checkcast 10, 6), (.getfield 0, 0), (.ifCond .eq 1, 0), (.iload 1, 0), (.invokestatic 55, 1), (.ifCond .ne 2, 0), (.jsr 1, 0)],
  [(.iconst (-1), 0), (.ireturn, 0)],
  [(.aload 0, 0), (.iconst (7), 0), (.iload 1, 0), (.iload 1, 0), (.invokeinterface 34 4, 10), (.pop2, 0), (.iconst (-1), 0), (.istore 2, 0), (.sipush (0), 0), (.lstore 3, 0), (.sipush (0), 0), (.lstore 5, 0), (.iconst (0), 0), (.istore 7, 0), (.jsr 3, 0)],
  [(.iload 7, 0), (.aload 0, 0), (.checkcast 10, 6), (.getfield 0, 0), (.iconst (6), 0), (.imul, 0), (.if_icmp .ge 6, 0), (.aload 0, 0), (.checkcast 10, 14), (.iload 7, 0), (.iconst (6), 0), (.idiv, 0), (.iload 7, 0), (.iconst (6), 0), (.irem, 0), (.invokeinterface 205 3, 1), (.lstore 8, 0), (.aload 0, 0), (.checkcast 10, 14), (.iload 7, 0), (.iconst (6), 0), (.idiv, 0), (.iload 7, 0), (.iconst (6), 0), (.irem, 0), (.invokeinterface 204 3, 1), (.lstore 10, 0), (.lload 10, 0), (.sipush (0), 0), (.lcmp, 0), (.ifCond .le 5, 0), (.iload 2, 0), (.iconst (-1), 0), (.if_icmp .eq 4, 0), (.lload 8, 0), (.lload 5, 0), (.lmul, 0), (.lload 3, 0), (.lload 10, 0), (.lmul, 0), (.lcmp, 0), (.ifCond .ge 5, 0), (.jsr 4, 0)],
  [(.iload 7, 0), (.istore 2, 0), (.lload 8, 0), (.lstore 3, 0), (.lload 10, 0), (.lstore 5, 0), (.jsr 5, 0)],
  [(.iinc 7 (1), 0), (.goto 3, 0)],
  [(.iload 2, 0), (.ireturn, 0)]])
/-- DiceLaw.likeliest(I)J -/
def me30 : ME := ((10, yX10_likeliest, prog_1_method_31_code), (2, 3, 1, 2), [0, 19, 23, 47, 54], [
  [(.aload 0, 0), (.checkcast 10, 6), (.getfield 0, 0), (.ifCond .eq 1, 0), (.iload 1, 0), (.ifCond .lt 1, 0), (.iload 1, 0), (.iconst (1), 0), (.if_icmp .le 2, 0), (.jsr 1, 0)],
  [(.sipush (-1), 0), (.lreturn, 0)],
  [(.aload 0, 0), (.iconst (6), 0), (.iconst (0), 0), (.iconst (0), 0), (.invokeinterface 34 4, 10), (.pop2, 0), (.iload 1, 0), (.ifCond .ne 3, 0), (.aload 0, 0), (.checkcast 10, 14), (.getfield 1, 14), (.i2l, 0), (.goto 4, 0)],
  [(.aload 0, 0), (.checkcast 10, 14), (.getstatic 1, 13), (.jsr 4, 0)],
  [(.lreturn, 0)]])
/-- DiceLaw.apart(II)I -/
def me31 : ME := ((10, yX10_apart, prog_1_method_32_code), (9, 1, 1, 3), [0, 18, 20, 74, 75], [
  [(.aload 0, 0), (.checkcast 10, 6), (.getfield 0, 0), (.ifCond .eq 1, 0), (.iload 1, 0), (.iload 2, 0), (.invokestatic 56, 2), (.ifCond .ne 2, 0), (.jsr 1, 0)],
  [(.iconst (-1), 0), (.ireturn, 0)],
  [(.aload 0, 0), (.iconst (3), 0), (.iload 1, 0), (.iload 2, 0), (.invokeinterface 34 4, 10), (.lstore 3, 0), (.aload 0, 0), (.checkcast 10, 14), (.iconst (0), 0), (.iload 1, 0), (.iload 1, 0), (.invokeinterface 196 4, 1), (.lstore 5, 0), (.aload 0, 0), (.checkcast 10, 14), (.iconst (0), 0), (.iload 2, 0), (.iload 2, 0), (.invokeinterface 196 4, 1), (.lstore 7, 0), (.lload 3, 0), (.aload 0, 0), (.checkcast 10, 15), (.invokeinterface 265 1, 9), (.lmul, 0), (.lload 5, 0), (.lload 7, 0), (.lmul, 0), (.lcmp, 0), (.ifCond .ne 3, 0), (.iconst (1), 0), (.goto 4, 0)],
  [(.iconst (0), 0), (.jsr 4, 0)],
  [(.invokestatic 69, 1), (.ireturn, 0)]])
/-- DiceLaw.mean(I)J -/
def me32 : ME := ((10, yX10_mean, prog_1_method_33_code), (5, 3, 1, 2), [0, 17, 21, 30, 61], [
  [(.aload 0, 0), (.checkcast 10, 6), (.getfield 0, 0), (.ifCond .eq 1, 0), (.iload 1, 0), (.invokestatic 58, 1), (.ifCond .ne 2, 0), (.jsr 1, 0)],
  [(.sipush (-1), 0), (.lreturn, 0)],
  [(.aload 0, 0), (.invokeinterface 33 1, 10), (.sipush (0), 0), (.lstore 2, 0), (.iconst (1), 0), (.istore 4, 0), (.jsr 3, 0)],
  [(.iload 4, 0), (.iconst (3), 0), (.if_icmp .gt 4, 0), (.lload 2, 0), (.iload 4, 0), (.i2l, 0), (.aload 0, 0), (.checkcast 10, 15), (.checkcast 9, 12), (.iload 4, 0), (.invokestatic 62, 2), (.lmul, 0), (.ladd, 0), (.lstore 2, 0), (.iinc 4 (1), 0), (.goto 3, 0)],
  [(.lload 2, 0), (.aload 0, 0), (.checkcast 10, 15), (.invokeinterface 265 1, 9), (.iload 1, 0), (.invokestatic 71, 3), (.lreturn, 0)]])
/-- DiceLaw.throwTomorrow()V -/
def me33 : ME := ((10, yX10_throwTomorrow, prog_1_method_34_code), (1, 0, 1, 1), [0], [
  [(.aload 0, 0), (.checkcast 10, 15), (.aload 0, 0), (.checkcast 10, 6), (.aload 0, 0), (.checkcast 10, 7), (.invokeinterface 262 3, 9), (.aload 0, 0), (.checkcast 10, 15), (.iconst (0), 0), (.invokeinterface 267 2, 9), (.return_, 0)]])
/-- DiceLaw.chance(III)J -/
def me34 : ME := ((10, yX10_chance, prog_1_method_35_code), (4, 3, 1, 4), [0, 31, 35, 36], [
  [(.aload 0, 0), (.checkcast 10, 15), (.aload 0, 0), (.checkcast 10, 6), (.aload 0, 0), (.checkcast 10, 7), (.invokeinterface 262 3, 9), (.aload 0, 0), (.checkcast 10, 15), (.iload 1, 0), (.iconst (6), 0), (.if_icmp .eq 1, 0), (.iload 1, 0), (.iconst (7), 0), (.if_icmp .ne 2, 0), (.jsr 1, 0)],
  [(.iconst (1), 0), (.goto 3, 0)],
  [(.iconst (0), 0), (.jsr 3, 0)],
  [(.invokeinterface 267 2, 9), (.aload 0, 0), (.checkcast 10, 14), (.iload 1, 0), (.iload 2, 0), (.iload 3, 0), (.invokeinterface 196 4, 1), (.lreturn, 0)]])
/-- DiceLaw.act(III)I -/
def me35 : ME := ((10, yX10_act, prog_1_method_36_code), (4, 1, 1, 4), [0, 25, 27, 52, 56, 66], [
  [(.iload 1, 0), (.invokestatic 57, 1), (.ifCond .eq 1, 0), (.iload 2, 0), (.invokestatic 55, 1), (.ifCond .eq 1, 0), (.aload 0, 0), (.checkcast 10, 7), (.iload 3, 0), (.invokeinterface 217 2, 3), (.ifCond .ne 2, 0), (.jsr 1, 0)],
  [(.iconst (-1), 0), (.ireturn, 0)],
  [(.aload 0, 0), (.checkcast 10, 7), (.getfield 3, 3), (.iconst (60), 0), (.if_icmp .ge 3, 0), (.aload 0, 0), (.checkcast 10, 7), (.iload 1, 0), (.iload 2, 0), (.iload 3, 0), (.invokeinterface 228 4, 3), (.ifCond .eq 4, 0), (.jsr 3, 0)],
  [(.iconst (-1), 0), (.goto 5, 0)],
  [(.aload 0, 0), (.checkcast 10, 7), (.iload 1, 0), (.iload 2, 0), (.iload 3, 0), (.invokeinterface 229 4, 3), (.jsr 5, 0)],
  [(.ireturn, 0)]])
/-- DiceLaw.suit(II)I -/
def me36 : ME := ((10, yX10_suit, prog_1_method_37_code), (6, 1, 1, 3), [0, 12, 14, 19, 68, 79, 80, 91, 100, 101], [
  [(.iload 1, 0), (.invokestatic 57, 1), (.ifCond .eq 1, 0), (.iload 2, 0), (.iconst (-1), 0), (.if_icmp .ge 2, 0), (.jsr 1, 0)],
  [(.iconst (-1), 0), (.ireturn, 0)],
  [(.iconst (0), 0), (.istore 3, 0), (.iconst (0), 0), (.istore 4, 0), (.jsr 3, 0)],
  [(.iload 4, 0), (.aload 0, 0), (.checkcast 10, 7), (.getfield 3, 2), (.iconst (6), 0), (.imul, 0), (.if_icmp .ge 7, 0), (.aload 0, 0), (.checkcast 10, 7), (.iload 1, 0), (.iload 4, 0), (.iconst (6), 0), (.irem, 0), (.iload 4, 0), (.iconst (6), 0), (.idiv, 0), (.invokeinterface 230 4, 3), (.istore 5, 0), (.iload 5, 0), (.iconst (-1), 0), (.if_icmp .eq 4, 0), (.iload 3, 0), (.iload 2, 0), (.if_icmp .ne 4, 0), (.iload 5, 0), (.ireturn, 0)],
  [(.iload 3, 0), (.iload 5, 0), (.iconst (-1), 0), (.if_icmp .eq 5, 0), (.iconst (1), 0), (.goto 6, 0)],
  [(.iconst (0), 0), (.jsr 6, 0)],
  [(.invokestatic 69, 1), (.iadd, 0), (.istore 3, 0), (.iinc 4 (1), 0), (.goto 3, 0)],
  [(.iload 2, 0), (.iconst (-1), 0), (.if_icmp .ne 8, 0), (.iload 3, 0), (.goto 9, 0)],
  [(.iconst (-1), 0), (.jsr 9, 0)],
  [(.ireturn, 0)]])
/-- DiceLaw.idle(I)I -/
def me37 : ME := ((10, yX10_idle, prog_1_method_38_code), (4, 1, 1, 2), [0, 9, 13, 48, 49, 60], [
  [(.iload 1, 0), (.invokestatic 57, 1), (.ifCond .ne 1, 0), (.iconst (-1), 0), (.ireturn, 0)],
  [(.iconst (0), 0), (.istore 2, 0), (.iconst (0), 0), (.istore 3, 0), (.jsr 2, 0)],
  [(.iload 3, 0), (.aload 0, 0), (.checkcast 10, 7), (.getfield 3, 2), (.if_icmp .ge 5, 0), (.iload 2, 0), (.aload 0, 0), (.checkcast 10, 7), (.checkcast 3, 7), (.iload 3, 0), (.iconst (6), 0), (.imul, 0), (.iload 1, 0), (.iadd, 0), (.invokestatic 61, 2), (.ifCond .ne 3, 0), (.iconst (1), 0), (.goto 4, 0)],
  [(.iconst (0), 0), (.jsr 4, 0)],
  [(.invokestatic 69, 1), (.iadd, 0), (.istore 2, 0), (.iinc 3 (1), 0), (.goto 2, 0)],
  [(.iload 2, 0), (.ireturn, 0)]])
/-- DiceLaw.suspect(IIIIII)Z -/
def me38 : ME := ((10, yX10_suspect, prog_1_method_39_code), (7, 2, 1, 7), [0, 18], [
  [(.aload 0, 0), (.iload 1, 0), (.iload 2, 0), (.iload 3, 0), (.iload 4, 0), (.iload 5, 0), (.iload 6, 0), (.invokeinterface 9 7, 10), (.ifCond .ne 1, 0), (.iconst (0), 0), (.ireturn, 1)],
  [(.aload 0, 0), (.checkcast 10, 12), (.iconst (0), 0), (.aload 0, 0), (.checkcast 10, 11), (.iconst (0), 0), (.iconst (6), 0), (.invokestatic 67, 5), (.iconst (1), 0), (.ireturn, 1)]])
/-- DiceLaw.named(III)I -/
def me39 : ME := ((10, yX10_named, prog_1_method_40_code), (4, 1, 1, 4), [0, 41, 43], [
  [(.aload 0, 0), (.checkcast 10, 6), (.iload 1, 0), (.iconst (0), 0), (.invokeinterface 191 3, 0), (.ifCond .eq 1, 0), (.iload 3, 0), (.invokestatic 59, 1), (.ifCond .eq 1, 0), (.iload 2, 0), (.iconst (1), 0), (.if_icmp .lt 1, 0), (.iload 2, 0), (.iconst (15), 0), (.if_icmp .gt 1, 0), (.iload 2, 0), (.aload 0, 0), (.checkcast 10, 7), (.getfield 3, 2), (.if_icmp .le 2, 0), (.jsr 1, 0)],
  [(.iconst (-1), 0), (.ireturn, 0)],
  [(.aload 0, 0), (.iload 1, 0), (.iload 2, 0), (.iload 3, 0), (.invokeinterface 41 4, 10), (.invokestatic 69, 1), (.ireturn, 0)]])
/-- DiceLaw.enough(II)I -/
def me40 : ME := ((10, yX10_enough, prog_1_method_41_code), (4, 1, 1, 3), [0, 19, 21, 23, 52, 58], [
  [(.aload 0, 0), (.checkcast 10, 6), (.iload 1, 0), (.iconst (0), 0), (.invokeinterface 191 3, 0), (.ifCond .eq 1, 0), (.iload 2, 0), (.invokestatic 59, 1), (.ifCond .ne 2, 0), (.jsr 1, 0)],
  [(.iconst (-1), 0), (.ireturn, 0)],
  [(.iconst (1), 0), (.istore 3, 0), (.jsr 3, 0)],
  [(.iload 3, 0), (.iconst (15), 0), (.if_icmp .gt 5, 0), (.iload 3, 0), (.aload 0, 0), (.checkcast 10, 7), (.getfield 3, 2), (.if_icmp .gt 5, 0), (.aload 0, 0), (.iload 1, 0), (.iload 3, 0), (.iload 2, 0), (.invokeinterface 41 4, 10), (.ifCond .eq 4, 0), (.iload 3, 0), (.ireturn, 0)],
  [(.iinc 3 (1), 0), (.goto 3, 0)],
  [(.iconst (-1), 0), (.ireturn, 0)]])
/-- DiceLaw.isNamed(III)Z -/
def me41 : ME := ((10, yX10_isNamed, prog_1_method_42_code), (9, 2, 1, 4), [0, 18, 67, 79, 80], [
  [(.sipush (1), 0), (.lstore 4, 0), (.iload 3, 0), (.i2l, 0), (.lstore 6, 0), (.aload 0, 0), (.checkcast 10, 7), (.getfield 3, 2), (.iload 2, 0), (.isub, 0), (.istore 8, 0), (.jsr 1, 0)],
  [(.iload 8, 0), (.aload 0, 0), (.checkcast 10, 7), (.getfield 3, 2), (.if_icmp .ge 2, 0), (.lload 4, 0), (.aload 0, 0), (.checkcast 10, 11), (.aload 0, 0), (.checkcast 10, 7), (.iload 1, 0), (.iload 8, 0), (.invokeinterface 221 3, 3), (.invokestatic 61, 2), (.i2l, 0), (.lmul, 0), (.lstore 4, 0), (.lload 6, 0), (.sipush (2), 0), (.lmul, 0), (.lstore 6, 0), (.iinc 8 (1), 0), (.goto 1, 0)],
  [(.lload 4, 0), (.lload 6, 0), (.lcmp, 0), (.ifCond .lt 3, 0), (.iconst (1), 0), (.goto 4, 0)],
  [(.iconst (0), 0), (.jsr 4, 0)],
  [(.ireturn, 1)]])
/-- DiceLaw.amended(IIII)J -/
def me42 : ME := ((10, yX10_amended, prog_1_method_43_code), (7, 3, 1, 5), [0, 27, 31], [
  [(.aload 0, 0), (.checkcast 10, 6), (.iload 1, 0), (.iload 2, 0), (.invokeinterface 191 3, 0), (.ifCond .eq 1, 0), (.iload 3, 0), (.invokestatic 60, 1), (.ifCond .eq 1, 0), (.iload 4, 0), (.invokestatic 55, 1), (.ifCond .ne 2, 0), (.jsr 1, 0)],
  [(.sipush (-1000000000), 0), (.lreturn, 0)],
  [(.aload 0, 0), (.iconst (0), 0), (.iload 4, 0), (.iload 4, 0), (.invokeinterface 34 4, 10), (.lstore 5, 0), (.aload 0, 0), (.checkcast 10, 15), (.iload 1, 0), (.iload 2, 0), (.iload 3, 0), (.invokeinterface 263 4, 9), (.aload 0, 0), (.checkcast 10, 15), (.iconst (0), 0), (.invokeinterface 267 2, 9), (.aload 0, 0), (.checkcast 10, 14), (.iconst (0), 0), (.iload 4, 0), (.iload 4, 0), (.invokeinterface 196 4, 1), (.lload 5, 0), (.lsub, 0), (.lreturn, 0)]])
/-- DiceLaw.change(IIII)J -/
def me43 : ME := ((10, yX10_change, prog_1_method_44_code), (7, 3, 1, 5), [0, 37, 41, 57], [
  [(.aload 0, 0), (.checkcast 10, 6), (.iload 1, 0), (.iload 2, 0), (.invokeinterface 191 3, 0), (.ifCond .eq 1, 0), (.aload 0, 0), (.checkcast 10, 6), (.iload 1, 0), (.iload 3, 0), (.invokeinterface 191 3, 0), (.ifCond .eq 1, 0), (.iload 2, 0), (.iload 3, 0), (.if_icmp .eq 1, 0), (.iload 4, 0), (.invokestatic 55, 1), (.ifCond .ne 2, 0), (.jsr 1, 0)],
  [(.sipush (-1000000000), 0), (.lreturn, 0)],
  [(.aload 0, 0), (.checkcast 10, 6), (.iload 1, 0), (.iload 2, 0), (.invokeinterface 193 3, 0), (.ifCond .ne 3, 0), (.sipush (-1000000000), 0), (.lreturn, 0)],
  [(.aload 0, 0), (.iconst (0), 0), (.iload 4, 0), (.iload 4, 0), (.invokeinterface 34 4, 10), (.lstore 5, 0), (.aload 0, 0), (.checkcast 10, 15), (.iload 1, 0), (.iload 2, 0), (.iload 3, 0), (.invokeinterface 264 4, 9), (.aload 0, 0), (.checkcast 10, 15), (.iconst (0), 0), (.invokeinterface 267 2, 9), (.aload 0, 0), (.checkcast 10, 14), (.iconst (0), 0), (.iload 4, 0), (.iload 4, 0), (.invokeinterface 196 4, 1), (.lload 5, 0), (.lsub, 0), (.lreturn, 0)]])
/-- DiceLaw.help(II)J -/
def me44 : ME := ((10, yX10_help, prog_1_method_45_code), (15, 3, 1, 3), [0, 26, 30, 47, 172, 205, 209, 212, 218, 228, 232], [
  [(.aload 0, 0), (.checkcast 10, 6), (.getfield 0, 0), (.ifCond .eq 1, 0), (.iload 1, 0), (.invokestatic 55, 1), (.ifCond .eq 1, 0), (.iload 2, 0), (.ifCond .lt 1, 0), (.iload 2, 0), (.iconst (1), 0), (.if_icmp .le 2, 0), (.jsr 1, 0)],
  [(.sipush (-1000000000), 0), (.lreturn, 0)],
  [(.aload 0, 0), (.iconst (0), 0), (.iload 1, 0), (.iload 1, 0), (.invokeinterface 34 4, 10), (.lstore 3, 0), (.sipush (0), 0), (.lstore 5, 0), (.iconst (-1), 0), (.istore 7, 0), (.iconst (0), 0), (.istore 8, 0), (.jsr 3, 0)],
  [(.iload 8, 0), (.aload 0, 0), (.checkcast 10, 6), (.getfield 0, 0), (.iconst (6), 0), (.imul, 0), (.if_icmp .ge 8, 0), (.iload 8, 0), (.iconst (6), 0), (.idiv, 0), (.istore 9, 0), (.iload 8, 0), (.iconst (6), 0), (.irem, 0), (.istore 10, 0), (.aload 0, 0), (.checkcast 10, 15), (.aload 0, 0), (.checkcast 10, 6), (.aload 0, 0), (.checkcast 10, 7), (.invokeinterface 262 3, 9), (.aload 0, 0), (.checkcast 10, 15), (.iload 9, 0), (.iload 10, 0), (.iconst (0), 0), (.invokeinterface 263 4, 9), (.aload 0, 0), (.checkcast 10, 15), (.iconst (0), 0), (.invokeinterface 267 2, 9), (.aload 0, 0), (.checkcast 10, 14), (.iconst (0), 0), (.iload 1, 0), (.iload 1, 0), (.invokeinterface 196 4, 1), (.lstore 11, 0), (.aload 0, 0), (.checkcast 10, 15), (.iload 9, 0), (.iload 10, 0), (.iconst (10), 0), (.iload 1, 0), (.iadd, 0), (.invokeinterface 263 4, 9), (.aload 0, 0), (.checkcast 10, 14), (.iconst (0), 0), (.iload 1, 0), (.iload 1, 0), (.invokeinterface 196 4, 1), (.lstore 13, 0), (.iload 7, 0), (.iconst (-1), 0), (.if_icmp .eq 4, 0), (.lload 11, 0), (.lload 5, 0), (.lcmp, 0), (.ifCond .gt 4, 0), (.lload 13, 0), (.lload 5, 0), (.lcmp, 0), (.ifCond .le 7, 0), (.jsr 4, 0)],
  [(.lload 11, 0), (.lload 13, 0), (.invokestatic 277, 2), (.lstore 5, 0), (.iconst (1000), 0), (.iload 9, 0), (.imul, 0), (.iconst (100), 0), (.iload 10, 0), (.imul, 0), (.iadd, 0), (.lload 11, 0), (.lload 5, 0), (.lcmp, 0), (.ifCond .ne 5, 0), (.iconst (0), 0), (.goto 6, 0)],
  [(.iconst (10), 0), (.iload 1, 0), (.iadd, 0), (.jsr 6, 0)],
  [(.iadd, 0), (.istore 7, 0), (.jsr 7, 0)],
  [(.iinc 8 (1), 0), (.goto 3, 0)],
  [(.iload 2, 0), (.ifCond .ne 9, 0), (.iload 7, 0), (.i2l, 0), (.goto 10, 0)],
  [(.lload 5, 0), (.lload 3, 0), (.lsub, 0), (.jsr 10, 0)],
  [(.lreturn, 0)]])
/-- DiceLaw$Tomorrow.lotSign(I)I -/
def me45 : ME := ((9, yX9_lotSign, prog_11_method_7_code), (2, 1, 1, 2), [0, 11, 16], [
  [(.aload 0, 0), (.getfield 9, 4), (.ifCond .eq 1, 0), (.iload 1, 0), (.goto 2, 0)],
  [(.iload 1, 0), (.iconst (0), 0), (.invokestatic 278, 2), (.jsr 2, 0)],
  [(.ireturn, 0)]])
/-- DiceLaw.follow(III)I -/
def me46 : ME := ((10, yX10_follow, prog_1_method_46_code), (9, 1, 1, 4), [0, 28, 30, 48, 49, 58, 67, 119, 120, 132, 134, 160], [
  [(.iload 1, 0), (.ifCond .lt 1, 0), (.iload 1, 0), (.aload 0, 0), (.getfield 10, 2), (.if_icmp .ge 1, 0), (.iload 2, 0), (.invokestatic 55, 1), (.ifCond .eq 1, 0), (.iload 3, 0), (.ifCond .lt 1, 0), (.iload 3, 0), (.iconst (2), 0), (.if_icmp .le 2, 0), (.jsr 1, 0)],
  [(.iconst (-1), 0), (.ireturn, 0)],
  [(.iload 1, 0), (.aload 0, 0), (.checkcast 10, 1), (.arraylength, 0), (.if_icmp .ge 3, 0), (.aload 0, 0), (.checkcast 10, 1), (.iload 1, 0), (.aaload, 0), (.goto 4, 0)],
  [(.aconst_null, 0), (.jsr 4, 0)],
  [(.astore 4, 0), (.aload 4, 0), (.ifnonnull 5, 0), (.iconst (-1), 0), (.ireturn, 0)],
  [(.iconst (0), 0), (.istore 5, 0), (.iconst (0), 0), (.istore 6, 0), (.iconst (0), 0), (.istore 7, 0), (.jsr 6, 0)],
  [(.iload 7, 0), (.aload 0, 0), (.checkcast 10, 7), (.getfield 3, 2), (.if_icmp .ge 11, 0), (.aload 0, 0), (.iload 2, 0), (.iload 7, 0), (.iload 7, 0), (.iload 5, 0), (.isub, 0), (.invokeinterface 48 4, 10), (.aload 0, 0), (.checkcast 10, 4), (.aload 4, 0), (.aload 0, 0), (.checkcast 10, 5), (.invokeinterface 245 3, 7), (.pop, 0), (.aload 0, 0), (.checkcast 10, 4), (.getfield 7, 2), (.ifCond .le 7, 0), (.iconst (1), 0), (.goto 8, 0)],
  [(.iconst (0), 0), (.jsr 8, 0)],
  [(.istore 8, 0), (.iload 8, 0), (.ifCond .eq 9, 0), (.iload 7, 0), (.goto 10, 0)],
  [(.iload 5, 0), (.jsr 10, 0)],
  [(.istore 5, 0), (.iload 6, 0), (.aload 0, 0), (.iload 8, 0), (.iload 2, 0), (.iload 7, 0), (.iload 3, 0), (.invokeinterface 47 5, 10), (.invokestatic 69, 1), (.iadd, 0), (.istore 6, 0), (.iinc 7 (1), 0), (.goto 6, 0)],
  [(.iload 6, 0), (.ireturn, 0)]])
/-- DiceLaw.isFollowed(ZIII)Z -/
def me47 : ME := ((10, yX10_isFollowed, prog_1_method_47_code), (5, 2, 1, 5), [0, 26, 27, 28, 49, 53, 54], [
  [(.iload 4, 0), (.iconst (2), 0), (.if_icmp .ne 3, 0), (.iload 1, 0), (.ifCond .ne 1, 0), (.aload 0, 0), (.checkcast 10, 7), (.iload 3, 0), (.iload 2, 0), (.invokeinterface 226 3, 3), (.ifCond .eq 1, 0), (.iconst (1), 0), (.goto 2, 0)],
  [(.iconst (0), 0), (.jsr 2, 0)],
  [(.ireturn, 1)],
  [(.iload 1, 0), (.ifCond .eq 5, 0), (.iload 4, 0), (.ifCond .eq 4, 0), (.aload 0, 0), (.checkcast 10, 7), (.iload 3, 0), (.iload 2, 0), (.invokeinterface 225 3, 3), (.ifCond .ne 5, 0), (.jsr 4, 0)],
  [(.iconst (1), 0), (.goto 6, 0)],
  [(.iconst (0), 0), (.jsr 6, 0)],
  [(.ireturn, 1)]])
/-- DiceLaw.setLetters(III)V -/
def me48 : ME := ((10, yX10_setLetters, prog_1_method_48_code), (4, 0, 1, 4), [0], [
  [(.aload 0, 0), (.checkcast 10, 5), (.iconst (0), 0), (.aload 0, 0), (.checkcast 10, 7), (.iload 2, 0), (.iload 1, 0), (.invokeinterface 225 3, 3), (.invokestatic 69, 1), (.invokestatic 63, 3), (.aload 0, 0), (.checkcast 10, 5), (.iconst (1), 0), (.aload 0, 0), (.checkcast 10, 7), (.iload 2, 0), (.iload 1, 0), (.invokeinterface 226 3, 3), (.invokestatic 69, 1), (.invokestatic 63, 3), (.aload 0, 0), (.checkcast 10, 5), (.iconst (2), 0), (.aload 0, 0), (.checkcast 10, 7), (.iload 2, 0), (.iconst (10), 0), (.iload 1, 0), (.iadd, 0), (.invokeinterface 224 3, 3), (.invokestatic 63, 3), (.aload 0, 0), (.checkcast 10, 5), (.iconst (3), 0), (.aload 0, 0), (.checkcast 10, 7), (.iload 2, 0), (.iconst (20), 0), (.iload 1, 0), (.iadd, 0), (.invokeinterface 224 3, 3), (.invokestatic 63, 3), (.aload 0, 0), (.checkcast 10, 5), (.iconst (4), 0), (.iload 3, 0), (.invokestatic 63, 3), (.aload 0, 0), (.checkcast 10, 5), (.iconst (5), 0), (.iload 2, 0), (.invokestatic 63, 3), (.return_, 0)]])
/-- DiceLaw.run(II)I -/
def me49 : ME := ((10, yX10_run, prog_1_method_49_code), (7, 1, 1, 3), [0, 16, 20, 31, 63, 64, 84, 90, 98, 100], [
  [(.iload 1, 0), (.invokestatic 55, 1), (.ifCond .eq 1, 0), (.iload 2, 0), (.ifCond .lt 1, 0), (.iload 2, 0), (.iconst (1), 0), (.if_icmp .le 2, 0), (.jsr 1, 0)],
  [(.iconst (-1000000000), 0), (.ireturn, 0)],
  [(.iconst (0), 0), (.istore 3, 0), (.iconst (-1), 0), (.istore 4, 0), (.iconst (0), 0), (.istore 5, 0), (.iconst (0), 0), (.istore 6, 0), (.jsr 3, 0)],
  [(.iload 6, 0), (.aload 0, 0), (.checkcast 10, 7), (.getfield 3, 2), (.if_icmp .ge 7, 0), (.aload 0, 0), (.checkcast 10, 7), (.iload 6, 0), (.iload 1, 0), (.invokeinterface 225 3, 3), (.ifCond .eq 4, 0), (.iload 5, 0), (.iconst (1), 0), (.iadd, 0), (.goto 5, 0)],
  [(.iconst (0), 0), (.jsr 5, 0)],
  [(.istore 5, 0), (.iload 5, 0), (.iload 3, 0), (.if_icmp .le 6, 0), (.iload 5, 0), (.istore 3, 0), (.iload 6, 0), (.iload 5, 0), (.isub, 0), (.iconst (1), 0), (.iadd, 0), (.istore 4, 0), (.jsr 6, 0)],
  [(.iinc 6 (1), 0), (.goto 3, 0)],
  [(.iload 2, 0), (.ifCond .ne 8, 0), (.iload 3, 0), (.goto 9, 0)],
  [(.iload 4, 0), (.jsr 9, 0)],
  [(.ireturn, 0)]])
/-- DiceLaw.peace(I)I -/
def me50 : ME := ((10, yX10_peace, prog_1_method_50_code), (5, 1, 1, 2), [0, 9, 13, 28, 51, 57, 65, 66], [
  [(.iload 1, 0), (.ifCond .lt 1, 0), (.iload 1, 0), (.iconst (1), 0), (.if_icmp .le 2, 0), (.jsr 1, 0)],
  [(.iconst (-1000000000), 0), (.ireturn, 0)],
  [(.iconst (0), 0), (.istore 2, 0), (.iconst (-1), 0), (.istore 3, 0), (.aload 0, 0), (.checkcast 10, 7), (.getfield 3, 2), (.iconst (1), 0), (.isub, 0), (.istore 4, 0), (.jsr 3, 0)],
  [(.iload 4, 0), (.ifCond .lt 5, 0), (.aload 0, 0), (.checkcast 10, 7), (.iload 4, 0), (.invokeinterface 227 2, 3), (.ifCond .eq 4, 0), (.iinc 2 (1), 0), (.iload 4, 0), (.istore 3, 0), (.jsr 4, 0)],
  [(.iinc 4 (-1), 0), (.goto 3, 0)],
  [(.iload 1, 0), (.ifCond .ne 6, 0), (.iload 2, 0), (.goto 7, 0)],
  [(.iload 3, 0), (.jsr 7, 0)],
  [(.ireturn, 0)]])
/-- DiceLaw.busiest()I -/
def me51 : ME := ((10, yX10_busiest, prog_1_method_51_code), (6, 1, 1, 1), [0, 6, 23, 54, 65, 71], [
  [(.iconst (-1), 0), (.istore 1, 0), (.iconst (-1), 0), (.istore 2, 0), (.iconst (0), 0), (.istore 3, 0), (.jsr 1, 0)],
  [(.iload 3, 0), (.aload 0, 0), (.checkcast 10, 7), (.getfield 3, 2), (.if_icmp .ge 5, 0), (.iconst (0), 0), (.istore 4, 0), (.iconst (0), 0), (.istore 5, 0), (.jsr 2, 0)],
  [(.iload 5, 0), (.iconst (6), 0), (.if_icmp .ge 3, 0), (.iload 4, 0), (.aload 0, 0), (.checkcast 10, 7), (.iload 3, 0), (.iload 5, 0), (.invokeinterface 226 3, 3), (.invokestatic 69, 1), (.iadd, 0), (.istore 4, 0), (.iinc 5 (1), 0), (.goto 2, 0)],
  [(.iload 4, 0), (.iload 2, 0), (.if_icmp .le 4, 0), (.iload 4, 0), (.istore 2, 0), (.iload 3, 0), (.istore 1, 0), (.jsr 4, 0)],
  [(.iinc 3 (1), 0), (.goto 1, 0)],
  [(.iload 1, 0), (.ireturn, 0)]])
/-- DiceLaw.image()I -/
def me52 : ME := ((10, yX10_image, prog_1_method_52_code), (1, 1, 1, 1), [0], [
  [(.aload 0, 0), (.checkcast 10, 8), (.aload 0, 0), (.checkcast 10, 6), (.invokeinterface 194 2, 0), (.aload 0, 0), (.checkcast 10, 9), (.aload 0, 0), (.checkcast 10, 7), (.invokeinterface 231 2, 3), (.aload 0, 0), (.iconst (1), 0), (.ret 10, 10), (.aload 0, 0), (.checkcast 10, 7), (.getfield 3, 2), (.ireturn, 0)]])
/-- DiceLaw.back()I -/
def me53 : ME := ((10, yX10_back, prog_1_method_53_code), (1, 1, 1, 1), [0, 9], [
  [(.aload 0, 0), (.getfield 10, 10), (.ifCond .ne 1, 0), (.iconst (-1), 0), (.ireturn, 0)],
  [(.aload 0, 0), (.checkcast 10, 6), (.aload 0, 0), (.checkcast 10, 8), (.invokeinterface 194 2, 0), (.aload 0, 0), (.checkcast 10, 7), (.aload 0, 0), (.checkcast 10, 9), (.invokeinterface 231 2, 3), (.aload 0, 0), (.checkcast 10, 7), (.getfield 3, 2), (.ireturn, 0)]])
/-- DiceLaw.count(I)I -/
def me54 : ME := ((10, yX10_count, prog_1_method_54_code), (2, 1, 1, 2), [0, 36, 44, 49, 57, 65, 73], [
  [(.iload 1, 0), (.tableswitch 6 (0) (4) #[1, 2, 3, 4, 5], 0)],
  [(.aload 0, 0), (.checkcast 10, 6), (.getfield 0, 0), (.ireturn, 0)],
  [(.aload 0, 0), (.getfield 10, 2), (.ireturn, 0)],
  [(.aload 0, 0), (.checkcast 10, 0), (.getfield 8, 1), (.ireturn, 0)],
  [(.aload 0, 0), (.checkcast 10, 7), (.getfield 3, 2), (.ireturn, 0)],
  [(.aload 0, 0), (.checkcast 10, 7), (.getfield 3, 3), (.ireturn, 0)],
  [(.iconst (-1000000000), 0), (.ireturn, 0)]])
/-- DiceLaw.isDeed(I)Z -/
def me55 : ME := ((10, yX10_isDeed, prog_1_method_55_code), (1, 2, 0, 1), [0, 14, 15], [
  [(.iload 0, 0), (.ifCond .lt 1, 0), (.iload 0, 0), (.iconst (6), 0), (.if_icmp .ge 1, 0), (.iconst (1), 0), (.goto 2, 0)],
  [(.iconst (0), 0), (.jsr 2, 0)],
  [(.ireturn, 1)]])
/-- DiceLaw.areTwoDeeds(II)Z -/
def me56 : ME := ((10, yX10_areTwoDeeds, prog_1_method_56_code), (2, 2, 0, 2), [0, 23, 24], [
  [(.iload 0, 0), (.invokestatic 55, 1), (.ifCond .eq 1, 0), (.iload 1, 0), (.invokestatic 55, 1), (.ifCond .eq 1, 0), (.iload 0, 0), (.iload 1, 0), (.if_icmp .eq 1, 0), (.iconst (1), 0), (.goto 2, 0)],
  [(.iconst (0), 0), (.jsr 2, 0)],
  [(.ireturn, 1)]])
/-- DiceLaw.isPerson(I)Z -/
def me57 : ME := ((10, yX10_isPerson, prog_1_method_57_code), (1, 2, 0, 1), [0, 14, 15], [
  [(.iload 0, 0), (.ifCond .lt 1, 0), (.iload 0, 0), (.iconst (6), 0), (.if_icmp .ge 1, 0), (.iconst (1), 0), (.goto 2, 0)],
  [(.iconst (0), 0), (.jsr 2, 0)],
  [(.ireturn, 1)]])
/-- DiceLaw.isPart(I)Z -/
def me58 : ME := ((10, yX10_isPart, prog_1_method_58_code), (1, 2, 0, 1), [0, 9, 13, 14], [
  [(.iload 0, 0), (.ifCond .eq 1, 0), (.iload 0, 0), (.iconst (1), 0), (.if_icmp .ne 2, 0), (.jsr 1, 0)],
  [(.iconst (1), 0), (.goto 3, 0)],
  [(.iconst (0), 0), (.jsr 3, 0)],
  [(.ireturn, 1)]])
/-- DiceLaw.isDoubt(I)Z -/
def me59 : ME := ((10, yX10_isDoubt, prog_1_method_59_code), (1, 2, 0, 1), [0, 16, 17], [
  [(.iload 0, 0), (.iconst (1), 0), (.if_icmp .lt 1, 0), (.iload 0, 0), (.iconst (1000), 0), (.if_icmp .gt 1, 0), (.iconst (1), 0), (.goto 2, 0)],
  [(.iconst (0), 0), (.jsr 2, 0)],
  [(.ireturn, 1)]])
/-- DiceLaw.isClause(I)Z -/
def me60 : ME := ((10, yX10_isClause, prog_1_method_60_code), (1, 2, 0, 1), [0, 10, 12, 24, 26, 41, 42, 49, 50], [
  [(.iload 0, 0), (.ifCond .eq 1, 0), (.iload 0, 0), (.iconst (60), 0), (.if_icmp .ne 2, 0), (.jsr 1, 0)],
  [(.iconst (1), 0), (.ireturn, 1)],
  [(.iload 0, 0), (.iconst (10), 0), (.if_icmp .lt 3, 0), (.iload 0, 0), (.iconst (60), 0), (.if_icmp .le 4, 0), (.jsr 3, 0)],
  [(.iconst (0), 0), (.ireturn, 1)],
  [(.iload 0, 0), (.iconst (10), 0), (.irem, 0), (.iload 0, 0), (.iconst (40), 0), (.if_icmp .ge 5, 0), (.iconst (6), 0), (.goto 6, 0)],
  [(.iconst (5), 0), (.jsr 6, 0)],
  [(.if_icmp .ge 7, 0), (.iconst (1), 0), (.goto 8, 0)],
  [(.iconst (0), 0), (.jsr 8, 0)],
  [(.ireturn, 1)]])
/-- DiceLaw.at([II)I -/
def me61 : ME := ((10, yX10_at, prog_1_method_61_code), (2, 1, 0, 2), [0, 16, 17], [
  [(.iload 1, 0), (.ifCond .lt 1, 0), (.iload 1, 0), (.aload 0, 0), (.arraylength, 0), (.if_icmp .ge 1, 0), (.aload 0, 0), (.iload 1, 0), (.iaload, 0), (.goto 2, 0)],
  [(.iconst (0), 0), (.jsr 2, 0)],
  [(.ireturn, 0)]])
/-- DiceLaw.at([JI)J -/
def me62 : ME := ((10, yX10_at_, prog_1_method_62_code), (2, 3, 0, 2), [0, 16, 17], [
  [(.iload 1, 0), (.ifCond .lt 1, 0), (.iload 1, 0), (.aload 0, 0), (.arraylength, 0), (.if_icmp .ge 1, 0), (.aload 0, 0), (.iload 1, 0), (.laload, 0), (.goto 2, 0)],
  [(.sipush (0), 0), (.jsr 2, 0)],
  [(.lreturn, 0)]])
/-- DiceLaw.put([III)V -/
def me63 : ME := ((10, yX10_put, prog_1_method_63_code), (3, 0, 0, 3), [0, 14], [
  [(.iload 1, 0), (.ifCond .lt 1, 0), (.iload 1, 0), (.aload 0, 0), (.arraylength, 0), (.if_icmp .ge 1, 0), (.aload 0, 0), (.iload 1, 0), (.iload 2, 0), (.iastore, 0), (.jsr 1, 0)],
  [(.return_, 0)]])
/-- DiceLaw.put([JIJ)V -/
def me64 : ME := ((10, yX10_put_, prog_1_method_64_code), (4, 0, 0, 3), [0, 14], [
  [(.iload 1, 0), (.ifCond .lt 1, 0), (.iload 1, 0), (.aload 0, 0), (.arraylength, 0), (.if_icmp .ge 1, 0), (.aload 0, 0), (.iload 1, 0), (.lload 2, 0), (.lastore, 0), (.jsr 1, 0)],
  [(.return_, 0)]])
/-- DiceLaw.raise([JIJ)V -/
def me65 : ME := ((10, yX10_raise, prog_1_method_65_code), (4, 0, 0, 3), [0], [
  [(.aload 0, 0), (.iload 1, 0), (.aload 0, 0), (.iload 1, 0), (.invokestatic 62, 2), (.lload 2, 0), (.ladd, 0), (.invokestatic 64, 3), (.return_, 0)]])
/-- DiceLaw.clear([JI)V -/
def me66 : ME := ((10, yX10_clear, prog_1_method_66_code), (3, 0, 0, 2), [0, 2, 19], [
  [(.iconst (0), 0), (.istore 2, 0), (.jsr 1, 0)],
  [(.iload 2, 0), (.iload 1, 0), (.if_icmp .ge 2, 0), (.aload 0, 0), (.iload 2, 0), (.sipush (0), 0), (.invokestatic 64, 3), (.iinc 2 (1), 0), (.goto 1, 0)],
  [(.return_, 0)]])
/-- DiceLaw.copy([II[III)V -/
def me67 : ME := ((10, yX10_copy, prog_1_method_67_code), (6, 0, 0, 5), [0, 3, 32], [
  [(.iconst (0), 0), (.istore 5, 0), (.jsr 1, 0)],
  [(.iload 5, 0), (.iload 4, 0), (.if_icmp .ge 2, 0), (.aload 2, 0), (.iload 3, 0), (.iload 5, 0), (.iadd, 0), (.aload 0, 0), (.iload 1, 0), (.iload 5, 0), (.iadd, 0), (.invokestatic 61, 2), (.invokestatic 63, 3), (.iinc 5 (1), 0), (.goto 1, 0)],
  [(.return_, 0)]])
/-- DiceLaw.copyAll([I[I)V -/
def me68 : ME := ((10, yX10_copyAll, prog_1_method_68_code), (2, 0, 0, 2), [0], [
  [(.aload 0, 0), (.iconst (0), 0), (.aload 1, 0), (.iconst (0), 0), (.aload 1, 0), (.arraylength, 0), (.invokestatic 67, 5), (.return_, 0)]])
/-- DiceLaw.bit(Z)I -/
def me69 : ME := ((10, yX10_bit, prog_1_method_69_code), (1, 1, 0, 1), [0, 8, 9], [
  [(.iload 0, 0), (.ifCond .eq 1, 0), (.iconst (1), 0), (.goto 2, 0)],
  [(.iconst (0), 0), (.jsr 2, 0)],
  [(.ireturn, 0)]])
/-- DiceLaw.bytesIn(I)I -/
def me70 : ME := ((10, yX10_bytesIn, prog_1_method_70_code), (3, 1, 0, 1), [0, 4, 25, 26, 37], [
  [(.iconst (0), 0), (.istore 1, 0), (.iconst (0), 0), (.istore 2, 0), (.jsr 1, 0)],
  [(.iload 2, 0), (.iconst (32), 0), (.if_icmp .ge 4, 0), (.iload 1, 0), (.iload 0, 0), (.iload 2, 0), (.iushr, 0), (.iconst (255), 0), (.iand, 0), (.ifCond .eq 2, 0), (.iconst (1), 0), (.goto 3, 0)],
  [(.iconst (0), 0), (.jsr 3, 0)],
  [(.invokestatic 69, 1), (.iadd, 0), (.istore 1, 0), (.iinc 2 (8), 0), (.goto 1, 0)],
  [(.iload 1, 0), (.ireturn, 0)]])
/-- DiceLaw.fraction(JJI)J -/
def me71 : ME := ((10, yX10_fraction, prog_1_method_71_code), (7, 3, 0, 3), [0, 14, 18, 36, 45, 46], [
  [(.lload 2, 0), (.sipush (0), 0), (.lcmp, 0), (.ifCond .le 1, 0), (.iload 4, 0), (.invokestatic 58, 1), (.ifCond .ne 2, 0), (.jsr 1, 0)],
  [(.sipush (-1), 0), (.lreturn, 0)],
  [(.lload 2, 0), (.lload 0, 0), (.invokestatic 72, 2), (.lstore 5, 0), (.lload 5, 0), (.sipush (0), 0), (.lcmp, 0), (.ifCond .ne 3, 0), (.sipush (-1), 0), (.lreturn, 0)],
  [(.iload 4, 0), (.ifCond .ne 4, 0), (.lload 0, 0), (.goto 5, 0)],
  [(.lload 2, 0), (.jsr 5, 0)],
  [(.lload 5, 0), (.ldiv, 0), (.lreturn, 0)]])
/-- DiceLaw.commonDivisor(JJ)J -/
def me72 : ME := ((10, yX10_commonDivisor, prog_1_method_72_code), (11, 3, 0, 2), [0, 9, 44], [
  [(.lload 0, 0), (.lstore 4, 0), (.lload 2, 0), (.lstore 6, 0), (.iconst (0), 0), (.istore 8, 0), (.jsr 1, 0)],
  [(.iload 8, 0), (.iconst (100), 0), (.if_icmp .ge 2, 0), (.lload 6, 0), (.sipush (0), 0), (.lcmp, 0), (.ifCond .eq 2, 0), (.lload 4, 0), (.lload 6, 0), (.lrem, 0), (.lstore 9, 0), (.lload 6, 0), (.lstore 4, 0), (.lload 9, 0), (.lstore 6, 0), (.iinc 8 (1), 0), (.goto 1, 0)],
  [(.lload 4, 0), (.lreturn, 0)]])
/-- DiceLaw.aimOf(II)I -/
def me73 : ME := ((10, yX10_aimOf, prog_1_method_73_code), (3, 1, 0, 2), [0, 24, 25], [
  [(.iload 0, 0), (.iconst (40), 0), (.isub, 0), (.istore 2, 0), (.iload 0, 0), (.iconst (50), 0), (.if_icmp .ge 1, 0), (.iload 2, 0), (.ifCond .lt 1, 0), (.iload 2, 0), (.iload 1, 0), (.if_icmp .ge 1, 0), (.iload 2, 0), (.goto 2, 0)],
  [(.iconst (-1), 0), (.jsr 2, 0)],
  [(.ireturn, 0)]])
/-- DiceLaw.settled(III)I -/
def me74 : ME := ((10, yX10_settled, prog_1_method_74_code), (3, 1, 0, 3), [0, 8, 26, 27, 28, 47, 48], [
  [(.iload 0, 0), (.iconst (60), 0), (.if_icmp .ne 1, 0), (.iload 2, 0), (.ireturn, 0)],
  [(.iload 0, 0), (.iconst (50), 0), (.if_icmp .lt 4, 0), (.iload 0, 0), (.iconst (50), 0), (.isub, 0), (.iload 1, 0), (.if_icmp .ge 2, 0), (.iload 0, 0), (.goto 3, 0)],
  [(.iconst (0), 0), (.jsr 3, 0)],
  [(.ireturn, 0)],
  [(.iload 0, 0), (.iconst (40), 0), (.if_icmp .lt 5, 0), (.iload 0, 0), (.iload 1, 0), (.invokestatic 73, 2), (.iconst (-1), 0), (.if_icmp .ne 5, 0), (.iconst (0), 0), (.goto 6, 0)],
  [(.iload 0, 0), (.jsr 6, 0)],
  [(.ireturn, 0)]])
/-- DiceLaw.heldBy([III)I -/
def me75 : ME := ((10, yX10_heldBy, prog_1_method_75_code), (6, 1, 0, 3), [0, 5, 37, 38, 39, 51], [
  [(.iload 2, 0), (.istore 3, 0), (.iconst (0), 0), (.istore 4, 0), (.jsr 1, 0)],
  [(.iload 4, 0), (.iload 1, 0), (.if_icmp .gt 5, 0), (.aload 0, 0), (.iload 3, 0), (.invokestatic 61, 2), (.istore 5, 0), (.iload 5, 0), (.iconst (50), 0), (.if_icmp .ge 4, 0), (.iload 5, 0), (.iconst (40), 0), (.if_icmp .ge 2, 0), (.iload 5, 0), (.goto 3, 0)],
  [(.iconst (0), 0), (.jsr 3, 0)],
  [(.ireturn, 0)],
  [(.iload 5, 0), (.iconst (50), 0), (.isub, 0), (.istore 3, 0), (.iinc 4 (1), 0), (.goto 1, 0)],
  [(.iconst (0), 0), (.ireturn, 0)]])
/-- DiceLaw.lowest([III)I -/
def me76 : ME := ((10, yX10_lowest, prog_1_method_76_code), (4, 1, 0, 3), [0, 2, 26, 32], [
  [(.iconst (0), 0), (.istore 3, 0), (.jsr 1, 0)],
  [(.iload 3, 0), (.iload 1, 0), (.if_icmp .ge 3, 0), (.aload 0, 0), (.iload 3, 0), (.invokestatic 61, 2), (.iconst (-1), 0), (.if_icmp .eq 2, 0), (.iload 2, 0), (.iload 3, 0), (.ishr, 0), (.iconst (1), 0), (.iand, 0), (.ifCond .ne 2, 0), (.iload 3, 0), (.ireturn, 0)],
  [(.iinc 3 (1), 0), (.goto 1, 0)],
  [(.iconst (-1), 0), (.ireturn, 0)]])
/-- DiceLaw.byHowMany([IIII)I -/
def me77 : ME := ((10, yX10_byHowMany, prog_1_method_77_code), (6, 1, 0, 4), [0, 6, 37, 43], [
  [(.iconst (0), 0), (.istore 4, 0), (.iload 1, 0), (.istore 5, 0), (.jsr 1, 0)],
  [(.iload 5, 0), (.iload 1, 0), (.iload 2, 0), (.iadd, 0), (.if_icmp .ge 3, 0), (.iload 5, 0), (.ifCond .lt 2, 0), (.iload 5, 0), (.aload 0, 0), (.arraylength, 0), (.if_icmp .ge 2, 0), (.aload 0, 0), (.iload 5, 0), (.iaload, 0), (.iload 3, 0), (.if_icmp .ne 2, 0), (.iinc 4 (1), 0), (.jsr 2, 0)],
  [(.iinc 5 (1), 0), (.goto 1, 0)],
  [(.iload 4, 0), (.ireturn, 0)]])
/-- DiceLaw.isLawful([IIII)Z -/
def me78 : ME := ((10, yX10_isLawful, prog_1_method_78_code), (5, 2, 0, 4), [0, 32, 36, 37], [
  [(.aload 0, 0), (.iload 1, 0), (.iload 2, 0), (.iconst (20), 0), (.iload 3, 0), (.iadd, 0), (.invokestatic 77, 4), (.istore 4, 0), (.iload 4, 0), (.ifCond .eq 1, 0), (.aload 0, 0), (.iload 1, 0), (.iload 2, 0), (.iconst (10), 0), (.iload 3, 0), (.iadd, 0), (.invokestatic 77, 4), (.iload 4, 0), (.if_icmp .le 2, 0), (.jsr 1, 0)],
  [(.iconst (1), 0), (.goto 3, 0)],
  [(.iconst (0), 0), (.jsr 3, 0)],
  [(.ireturn, 1)]])
/-- DiceLaw.isBound([IIII)Z -/
def me79 : ME := ((10, yX10_isBound, prog_1_method_79_code), (4, 2, 0, 4), [0, 27, 28], [
  [(.aload 0, 0), (.iload 1, 0), (.iload 2, 0), (.iconst (30), 0), (.iload 3, 0), (.iadd, 0), (.invokestatic 77, 4), (.ifCond .le 1, 0), (.aload 0, 0), (.iload 1, 0), (.iload 2, 0), (.iload 3, 0), (.invokestatic 78, 4), (.ifCond .eq 1, 0), (.iconst (1), 0), (.goto 2, 0)],
  [(.iconst (0), 0), (.jsr 2, 0)],
  [(.ireturn, 1)]])
/-- DiceLawModel.<init>()V -/
def me80 : ME := ((11, yX11_init, prog_13_method_1_code), (1, 0, 2, 1), [0], [
  [(.aload 0, 0), (.monitorexit, 0), (.aload 0, 0), (.iconst (120), 0), (.newarray .byte, 0), (.instanceof 11, 1), (.aload 0, 0), (.iconst (480), 0), (.newarray .byte, 0), (.instanceof 11, 2), (.aload 0, 0), (.iconst (4), 0), (.newarray .int, 0), (.instanceof 11, 3), (.aload 0, 0), (.iconst (128), 0), (.newarray .int, 0), (.instanceof 11, 4), (.aload 0, 0), (.aload 0, 0), (.checkcast 11, 1), (.instanceof 11, 5), (.aload 0, 0), (.ldc 1, 0), (.instanceof 11, 15), (.aload 0, 0), (.ldc 2, 0), (.instanceof 11, 16), (.aload 0, 0), (.iconst (30), 0), (.newarray .int, 0), (.instanceof 11, 18), (.aload 0, 0), (.iconst (6), 0), (.newarray .int, 0), (.instanceof 11, 19), (.aload 0, 0), (.iconst (30), 0), (.newarray .int, 0), (.instanceof 11, 21), (.aload 0, 0), (.iconst (6), 0), (.newarray .int, 0), (.dup, 0), (.iconst (0), 0), (.iconst (2), 0), (.iastore, 0), (.dup, 0), (.iconst (1), 0), (.iconst (2), 0), (.iastore, 0), (.dup, 0), (.iconst (2), 0), (.iconst (2), 0), (.iastore, 0), (.dup, 0), (.iconst (3), 0), (.iconst (2), 0), (.iastore, 0), (.dup, 0), (.iconst (4), 0), (.iconst (2), 0), (.iastore, 0), (.dup, 0), (.iconst (5), 0), (.iconst (2), 0), (.iastore, 0), (.instanceof 11, 22), (.aload 0, 0), (.iconst (5), 0), (.newarray .int, 0), (.instanceof 11, 23), (.aload 0, 0), (.iconst (5), 0), (.newarray .int, 0), (.instanceof 11, 24), (.aload 0, 0), (.iconst (5), 0), (.newarray .boolean, 0), (.instanceof 11, 25), (.aload 0, 0), (.iconst (200), 0), (.newarray .int, 0), (.instanceof 11, 26), (.aload 0, 0), (.iconst (200), 0), (.newarray .int, 0), (.instanceof 11, 27), (.aload 0, 0), (.iconst (40), 0), (.newarray .int, 0), (.instanceof 11, 28), (.aload 0, 0), (.iconst (40), 0), (.newarray .long, 0), (.instanceof 11, 29), (.aload 0, 0), (.iconst (7776), 0), (.newarray .long, 0), (.instanceof 11, 39), (.aload 0, 0), (.iconst (60), 0), (.newarray .int, 0), (.instanceof 11, 41), (.aload 0, 0), (.iconst (60), 0), (.newarray .int, 0), (.instanceof 11, 42), (.aload 0, 0), (.iconst (60), 0), (.newarray .int, 0), (.instanceof 11, 43), (.aload 0, 0), (.iconst (680), 0), (.newarray .int, 0), (.instanceof 11, 45), (.aload 0, 0), (.iconst (40), 0), (.newarray .long, 0), (.instanceof 11, 46), (.return_, 0)]])
/-- DiceLawModel.thrown()I -/
def me81 : ME := ((11, yX11_thrown, prog_13_method_2_code), (1, 1, 1, 1), [0], [
  [(.aload 0, 0), (.getfield 11, 0), (.ireturn, 0)]])
/-- DiceLawModel.isIn(JJJ)Z -/
def me82 : ME := ((11, yX11_isIn, prog_13_method_3_code), (6, 2, 0, 3), [0, 17, 18], [
  [(.lload 0, 0), (.lload 2, 0), (.lcmp, 0), (.ifCond .lt 1, 0), (.lload 0, 0), (.lload 4, 0), (.lcmp, 0), (.ifCond .gt 1, 0), (.iconst (1), 0), (.goto 2, 0)],
  [(.iconst (0), 0), (.jsr 2, 0)],
  [(.ireturn, 1)]])
/-- DiceLawModel.isAmong(Ljava/lang/String;I)Z -/
def me83 : ME := ((11, yX11_isAmong, prog_13_method_4_code), (3, 2, 3, 2), [], [
])
/-- DiceLawModel.bytesIn(I)I -/
def me84 : ME := ((11, yX11_bytesIn, prog_13_method_5_code), (3, 1, 0, 1), [0, 5, 24, 25, 33], [
  [(.iconst (0), 0), (.istore 1, 0), (.iconst (24), 0), (.istore 2, 0), (.jsr 1, 0)],
  [(.iload 2, 0), (.ifCond .lt 4, 0), (.iload 1, 0), (.iload 0, 0), (.iload 2, 0), (.ishr, 0), (.iconst (255), 0), (.iand, 0), (.ifCond .eq 2, 0), (.iconst (1), 0), (.goto 3, 0)],
  [(.iconst (0), 0), (.jsr 3, 0)],
  [(.iadd, 0), (.istore 1, 0), (.iinc 2 (-8), 0), (.goto 1, 0)],
  [(.iload 1, 0), (.ireturn, 0)]])
/-- DiceLawModel.put(I)V -/
def me85 : ME := ((11, yX11_put, prog_13_method_6_code), (3, 0, 1, 2), [0, 3, 20, 43, 49], [
  [(.iconst (24), 0), (.istore 2, 0), (.jsr 1, 0)],
  [(.iload 2, 0), (.ifCond .lt 4, 0), (.iload 1, 0), (.iload 2, 0), (.ishr, 0), (.iconst (255), 0), (.iand, 0), (.ifCond .ne 2, 0), (.goto 3, 0)],
  [(.aload 0, 0), (.checkcast 11, 1), (.aload 0, 0), (.getfield 11, 6), (.iload 1, 0), (.iload 2, 0), (.ishr, 0), (.i2b, 0), (.bastore, 0), (.aload 0, 0), (.dup, 0), (.getfield 11, 6), (.iconst (1), 0), (.iadd, 0), (.putfield 11, 6), (.jsr 3, 0)],
  [(.iinc 2 (-8), 0), (.goto 1, 0)],
  [(.return_, 0)]])
/-- DiceLawModel.feed(IIIII)I -/
def me86 : ME := ((11, yX11_feed, prog_13_method_7_code), (6, 1, 1, 6), [0, 43], [
  [(.aload 0, 0), (.iconst (0), 0), (.putfield 11, 0), (.aload 0, 0), (.getfield 11, 6), (.iload 1, 0), (.invokestatic 84, 1), (.iadd, 0), (.iload 2, 0), (.invokestatic 84, 1), (.iadd, 0), (.iload 3, 0), (.invokestatic 84, 1), (.iadd, 0), (.iload 4, 0), (.invokestatic 84, 1), (.iadd, 0), (.iload 5, 0), (.invokestatic 84, 1), (.iadd, 0), (.iconst (120), 0), (.if_icmp .le 1, 0), (.iconst (-1), 0), (.ireturn, 0)],
  [(.aload 0, 0), (.iload 1, 0), (.invokeinterface 85 2, 11), (.aload 0, 0), (.iload 2, 0), (.invokeinterface 85 2, 11), (.aload 0, 0), (.iload 3, 0), (.invokeinterface 85 2, 11), (.aload 0, 0), (.iload 4, 0), (.invokeinterface 85 2, 11), (.aload 0, 0), (.iload 5, 0), (.invokeinterface 85 2, 11), (.aload 0, 0), (.getfield 11, 6), (.ireturn, 0)]])
/-- DiceLawModel.end(I)Z -/
def me87 : ME := ((11, yX11_end, prog_13_method_8_code), (2, 2, 1, 2), [0, 17, 19], [
  [(.aload 0, 0), (.iconst (0), 0), (.putfield 11, 0), (.iload 1, 0), (.ifCond .lt 1, 0), (.iload 1, 0), (.aload 0, 0), (.getfield 11, 6), (.if_icmp .le 2, 0), (.jsr 1, 0)],
  [(.iconst (0), 0), (.ireturn, 1)],
  [(.aload 0, 0), (.iload 1, 0), (.putfield 11, 6), (.iconst (1), 0), (.ireturn, 1)]])
/-- DiceLawModel.look()I -/
def me88 : ME := ((11, yX11_look, prog_13_method_9_code), (1, 1, 1, 1), [0, 43, 75, 76], [
  [(.aload 0, 0), (.getfield 11, 10), (.aload 0, 0), (.getfield 11, 9), (.if_icmp .ge 1, 0), (.aload 0, 0), (.checkcast 11, 5), (.aload 0, 0), (.getfield 11, 8), (.aload 0, 0), (.getfield 11, 10), (.iadd, 0), (.baload, 0), (.iconst (32), 0), (.if_icmp .ne 1, 0), (.aload 0, 0), (.dup, 0), (.getfield 11, 10), (.iconst (1), 0), (.iadd, 0), (.putfield 11, 10), (.goto 0, 0)],
  [(.aload 0, 0), (.getfield 11, 10), (.aload 0, 0), (.getfield 11, 9), (.if_icmp .ge 2, 0), (.aload 0, 0), (.checkcast 11, 5), (.aload 0, 0), (.getfield 11, 8), (.aload 0, 0), (.getfield 11, 10), (.iadd, 0), (.baload, 0), (.iconst (255), 0), (.iand, 0), (.goto 3, 0)],
  [(.iconst (-1), 0), (.jsr 3, 0)],
  [(.ireturn, 0)]])
/-- DiceLawModel.fails()Z -/
def me89 : ME := ((11, yX11_fails, prog_13_method_10_code), (1, 2, 1, 1), [0, 16], [
  [(.aload 0, 0), (.getfield 11, 11), (.iconst (-1), 0), (.if_icmp .ne 1, 0), (.aload 0, 0), (.aload 0, 0), (.getfield 11, 10), (.putfield 11, 11), (.jsr 1, 0)],
  [(.iconst (0), 0), (.ireturn, 1)]])
/-- DiceLawModel.goesIn()Z -/
def me90 : ME := ((11, yX11_goesIn, prog_13_method_11_code), (1, 2, 1, 1), [0, 14], [
  [(.aload 0, 0), (.getfield 11, 12), (.iconst (6), 0), (.if_icmp .ne 1, 0), (.aload 0, 0), (.invokeinterface 89 1, 11), (.ireturn, 1)],
  [(.aload 0, 0), (.dup, 0), (.getfield 11, 12), (.iconst (1), 0), (.iadd, 0), (.putfield 11, 12), (.aload 0, 0), (.dup, 0), (.getfield 11, 10), (.iconst (1), 0), (.iadd, 0), (.putfield 11, 10), (.iconst (1), 0), (.ireturn, 1)]])
/-- DiceLawModel.takes(I)Z -/
def me91 : ME := ((11, yX11_takes, prog_13_method_12_code), (2, 2, 1, 2), [0, 16, 21], [
  [(.aload 0, 0), (.getfield 11, 11), (.iconst (-1), 0), (.if_icmp .ne 1, 0), (.aload 0, 0), (.invokeinterface 88 1, 11), (.iload 1, 0), (.if_icmp .eq 2, 0), (.jsr 1, 0)],
  [(.aload 0, 0), (.invokeinterface 89 1, 11), (.ireturn, 1)],
  [(.aload 0, 0), (.dup, 0), (.getfield 11, 10), (.iconst (1), 0), (.iadd, 0), (.putfield 11, 10), (.iconst (1), 0), (.ireturn, 1)]])
/-- DiceLawModel.isDigit()Z -/
def me92 : ME := ((11, yX11_isDigit, prog_13_method_13_code), (1, 2, 1, 1), [0, 53, 54], [
  [(.aload 0, 0), (.getfield 11, 10), (.aload 0, 0), (.getfield 11, 9), (.if_icmp .ge 1, 0), (.aload 0, 0), (.checkcast 11, 5), (.aload 0, 0), (.getfield 11, 8), (.aload 0, 0), (.getfield 11, 10), (.iadd, 0), (.baload, 0), (.iconst (48), 0), (.if_icmp .lt 1, 0), (.aload 0, 0), (.checkcast 11, 5), (.aload 0, 0), (.getfield 11, 8), (.aload 0, 0), (.getfield 11, 10), (.iadd, 0), (.baload, 0), (.iconst (57), 0), (.if_icmp .gt 1, 0), (.iconst (1), 0), (.goto 2, 0)],
  [(.iconst (0), 0), (.jsr 2, 0)],
  [(.ireturn, 1)]])
/-- DiceLawModel.within(J)I -/
def me93 : ME := ((11, yX11_within, prog_13_method_14_code), (2, 1, 0, 1), [0], [
  [(.sipush (-1000000), 0), (.sipush (1000000), 0), (.lload 0, 0), (.invokestatic 279, 2), (.invokestatic 277, 2), (.l2i, 0), (.ireturn, 0)]])
/-- DiceLawModel.atom()I -/
def me94 : ME := ((11, yX11_atom, prog_13_method_15_code), (4, 1, 1, 1), [0, 31, 46, 62, 74, 86, 90, 117, 156], [
  [(.aload 0, 0), (.invokeinterface 88 1, 11), (.istore 1, 0), (.ldc 2, 0), (.iload 1, 0), (.invokestatic 83, 2), (.ifCond .eq 1, 0), (.aload 0, 0), (.dup, 0), (.getfield 11, 10), (.iconst (1), 0), (.iadd, 0), (.putfield 11, 10), (.aload 0, 0), (.checkcast 11, 4), (.iload 1, 0), (.iaload, 0), (.ireturn, 0)],
  [(.iload 1, 0), (.iconst (91), 0), (.if_icmp .ne 4, 0), (.aload 0, 0), (.invokeinterface 90 1, 11), (.ifCond .ne 2, 0), (.iconst (0), 0), (.ireturn, 0)],
  [(.aload 0, 0), (.invokeinterface 96 1, 11), (.istore 2, 0), (.aload 0, 0), (.iconst (93), 0), (.invokeinterface 91 2, 11), (.ifCond .ne 3, 0), (.iconst (0), 0), (.ireturn, 0)],
  [(.aload 0, 0), (.dup, 0), (.getfield 11, 12), (.iconst (1), 0), (.isub, 0), (.putfield 11, 12), (.iload 2, 0), (.ireturn, 0)],
  [(.aload 0, 0), (.invokeinterface 92 1, 11), (.ifCond .ne 5, 0), (.aload 0, 0), (.invokeinterface 89 1, 11), (.pop, 0), (.jsr 5, 0)],
  [(.iconst (0), 0), (.istore 2, 0), (.iconst (0), 0), (.istore 3, 0), (.jsr 6, 0)],
  [(.aload 0, 0), (.invokeinterface 92 1, 11), (.ifCond .eq 8, 0), (.aload 0, 0), (.getfield 11, 11), (.iconst (-1), 0), (.if_icmp .ne 8, 0), (.iload 3, 0), (.iconst (4), 0), (.if_icmp .ne 7, 0), (.aload 0, 0), (.invokeinterface 89 1, 11), (.pop, 0), (.iconst (0), 0), (.ireturn, 0)],
  [(.iconst (10), 0), (.iload 2, 0), (.imul, 0), (.aload 0, 0), (.checkcast 11, 5), (.aload 0, 0), (.getfield 11, 8), (.aload 0, 0), (.getfield 11, 10), (.iadd, 0), (.baload, 0), (.iadd, 0), (.iconst (48), 0), (.isub, 0), (.istore 2, 0), (.aload 0, 0), (.dup, 0), (.getfield 11, 10), (.iconst (1), 0), (.iadd, 0), (.putfield 11, 10), (.iinc 3 (1), 0), (.goto 6, 0)],
  [(.iload 2, 0), (.ireturn, 0)]])
/-- DiceLawModel.term()I -/
def me95 : ME := ((11, yX11_term, prog_13_method_16_code), (5, 1, 1, 1), [0, 5, 31, 44, 45, 73, 83, 87, 94], [
  [(.aload 0, 0), (.invokeinterface 94 1, 11), (.istore 1, 0), (.jsr 1, 0)],
  [(.aload 0, 0), (.getfield 11, 11), (.iconst (-1), 0), (.if_icmp .ne 8, 0), (.aload 0, 0), (.invokeinterface 88 1, 11), (.iconst (42), 0), (.if_icmp .eq 2, 0), (.aload 0, 0), (.invokeinterface 88 1, 11), (.iconst (47), 0), (.if_icmp .ne 8, 0), (.jsr 2, 0)],
  [(.aload 0, 0), (.invokeinterface 88 1, 11), (.iconst (42), 0), (.if_icmp .ne 3, 0), (.iconst (1), 0), (.goto 4, 0)],
  [(.iconst (0), 0), (.jsr 4, 0)],
  [(.istore 2, 0), (.aload 0, 0), (.dup, 0), (.getfield 11, 10), (.iconst (1), 0), (.iadd, 0), (.putfield 11, 10), (.aload 0, 0), (.invokeinterface 94 1, 11), (.i2l, 0), (.lstore 3, 0), (.iload 2, 0), (.ifCond .eq 5, 0), (.iload 1, 0), (.i2l, 0), (.lload 3, 0), (.lmul, 0), (.goto 7, 0)],
  [(.lload 3, 0), (.sipush (0), 0), (.lcmp, 0), (.ifCond .ne 6, 0), (.sipush (0), 0), (.goto 7, 0)],
  [(.iload 1, 0), (.i2l, 0), (.lload 3, 0), (.ldiv, 0), (.jsr 7, 0)],
  [(.invokestatic 93, 1), (.istore 1, 0), (.goto 1, 0)],
  [(.iload 1, 0), (.ireturn, 0)]])
/-- DiceLawModel.sum()I -/
def me96 : ME := ((11, yX11_sum, prog_13_method_17_code), (5, 1, 1, 1), [0, 5, 31, 44, 45, 73, 77, 84], [
  [(.aload 0, 0), (.invokeinterface 95 1, 11), (.istore 1, 0), (.jsr 1, 0)],
  [(.aload 0, 0), (.getfield 11, 11), (.iconst (-1), 0), (.if_icmp .ne 7, 0), (.aload 0, 0), (.invokeinterface 88 1, 11), (.iconst (43), 0), (.if_icmp .eq 2, 0), (.aload 0, 0), (.invokeinterface 88 1, 11), (.iconst (45), 0), (.if_icmp .ne 7, 0), (.jsr 2, 0)],
  [(.aload 0, 0), (.invokeinterface 88 1, 11), (.iconst (43), 0), (.if_icmp .ne 3, 0), (.iconst (1), 0), (.goto 4, 0)],
  [(.iconst (0), 0), (.jsr 4, 0)],
  [(.istore 2, 0), (.aload 0, 0), (.dup, 0), (.getfield 11, 10), (.iconst (1), 0), (.iadd, 0), (.putfield 11, 10), (.aload 0, 0), (.invokeinterface 95 1, 11), (.i2l, 0), (.lstore 3, 0), (.iload 2, 0), (.ifCond .eq 5, 0), (.iload 1, 0), (.i2l, 0), (.lload 3, 0), (.ladd, 0), (.goto 6, 0)],
  [(.iload 1, 0), (.i2l, 0), (.lload 3, 0), (.lsub, 0), (.jsr 6, 0)],
  [(.invokestatic 93, 1), (.istore 1, 0), (.goto 1, 0)],
  [(.iload 1, 0), (.ireturn, 0)]])
/-- DiceLawModel.isSign(I)Z -/
def me97 : ME := ((11, yX11_isSign, prog_13_method_18_code), (1, 2, 0, 1), [0, 18, 22, 23], [
  [(.iload 0, 0), (.iconst (61), 0), (.if_icmp .eq 1, 0), (.iload 0, 0), (.iconst (60), 0), (.if_icmp .eq 1, 0), (.iload 0, 0), (.iconst (62), 0), (.if_icmp .ne 2, 0), (.jsr 1, 0)],
  [(.iconst (1), 0), (.goto 3, 0)],
  [(.iconst (0), 0), (.jsr 3, 0)],
  [(.ireturn, 1)]])
/-- DiceLawModel.compares(ZI)Z -/
def me98 : ME := ((11, yX11_compares, prog_13_method_19_code), (6, 2, 1, 3), [0, 8, 12, 23, 42, 75, 79, 96, 100, 110, 111], [
  [(.iload 1, 0), (.ifCond .eq 1, 0), (.iload 2, 0), (.goto 2, 0)],
  [(.aload 0, 0), (.invokeinterface 96 1, 11), (.jsr 2, 0)],
  [(.istore 3, 0), (.aload 0, 0), (.getfield 11, 11), (.iconst (-1), 0), (.if_icmp .eq 3, 0), (.iconst (0), 0), (.ireturn, 1)],
  [(.aload 0, 0), (.invokeinterface 88 1, 11), (.istore 4, 0), (.iload 4, 0), (.invokestatic 97, 1), (.ifCond .ne 4, 0), (.aload 0, 0), (.invokeinterface 89 1, 11), (.ireturn, 1)],
  [(.aload 0, 0), (.dup, 0), (.getfield 11, 10), (.iconst (1), 0), (.iadd, 0), (.putfield 11, 10), (.aload 0, 0), (.invokeinterface 96 1, 11), (.istore 5, 0), (.iload 4, 0), (.iconst (61), 0), (.if_icmp .ne 6, 0), (.iload 3, 0), (.iload 5, 0), (.if_icmp .ne 5, 0), (.iconst (1), 0), (.goto 10, 0)],
  [(.iconst (0), 0), (.goto 10, 0)],
  [(.iload 4, 0), (.iconst (60), 0), (.if_icmp .ne 8, 0), (.iload 3, 0), (.iload 5, 0), (.if_icmp .ge 7, 0), (.iconst (1), 0), (.goto 10, 0)],
  [(.iconst (0), 0), (.goto 10, 0)],
  [(.iload 3, 0), (.iload 5, 0), (.if_icmp .le 9, 0), (.iconst (1), 0), (.goto 10, 0)],
  [(.iconst (0), 0), (.jsr 10, 0)],
  [(.ireturn, 1)]])
/-- DiceLawModel.unit()Z -/
def me99 : ME := ((11, yX11_unit, prog_13_method_20_code), (3, 2, 1, 1), [0, 20, 43, 44, 45, 60, 78, 90], [
  [(.aload 0, 0), (.invokeinterface 88 1, 11), (.istore 1, 0), (.iload 1, 0), (.iconst (33), 0), (.if_icmp .ne 4, 0), (.aload 0, 0), (.invokeinterface 90 1, 11), (.ifCond .ne 1, 0), (.iconst (0), 0), (.ireturn, 1)],
  [(.aload 0, 0), (.invokeinterface 99 1, 11), (.istore 2, 0), (.aload 0, 0), (.dup, 0), (.getfield 11, 12), (.iconst (1), 0), (.isub, 0), (.putfield 11, 12), (.iload 2, 0), (.ifCond .ne 2, 0), (.iconst (1), 0), (.goto 3, 0)],
  [(.iconst (0), 0), (.jsr 3, 0)],
  [(.ireturn, 1)],
  [(.iload 1, 0), (.iconst (40), 0), (.if_icmp .ne 7, 0), (.aload 0, 0), (.invokeinterface 90 1, 11), (.ifCond .ne 5, 0), (.iconst (0), 0), (.ireturn, 1)],
  [(.aload 0, 0), (.iconst (0), 0), (.iconst (0), 0), (.invokeinterface 101 3, 11), (.istore 2, 0), (.aload 0, 0), (.iconst (41), 0), (.invokeinterface 91 2, 11), (.ifCond .ne 6, 0), (.iconst (0), 0), (.ireturn, 1)],
  [(.aload 0, 0), (.dup, 0), (.getfield 11, 12), (.iconst (1), 0), (.isub, 0), (.putfield 11, 12), (.iload 2, 0), (.ireturn, 1)],
  [(.aload 0, 0), (.iconst (0), 0), (.iconst (0), 0), (.invokeinterface 98 3, 11), (.ireturn, 1)]])
/-- DiceLawModel.part(ZI)Z -/
def me100 : ME := ((11, yX11_part, prog_13_method_21_code), (5, 2, 1, 3), [0, 13, 17, 18, 64, 65, 69], [
  [(.iload 1, 0), (.ifCond .eq 1, 0), (.aload 0, 0), (.iconst (1), 0), (.iload 2, 0), (.invokeinterface 98 3, 11), (.goto 2, 0)],
  [(.aload 0, 0), (.invokeinterface 99 1, 11), (.jsr 2, 0)],
  [(.istore 3, 0), (.jsr 3, 0)],
  [(.aload 0, 0), (.getfield 11, 11), (.iconst (-1), 0), (.if_icmp .ne 6, 0), (.aload 0, 0), (.invokeinterface 88 1, 11), (.iconst (38), 0), (.if_icmp .ne 6, 0), (.aload 0, 0), (.dup, 0), (.getfield 11, 10), (.iconst (1), 0), (.iadd, 0), (.putfield 11, 10), (.aload 0, 0), (.invokeinterface 99 1, 11), (.istore 4, 0), (.iload 3, 0), (.ifCond .eq 4, 0), (.iload 4, 0), (.ifCond .eq 4, 0), (.iconst (1), 0), (.goto 5, 0)],
  [(.iconst (0), 0), (.jsr 5, 0)],
  [(.istore 3, 0), (.goto 3, 0)],
  [(.iload 3, 0), (.ireturn, 1)]])
/-- DiceLawModel.condition(ZI)Z -/
def me101 : ME := ((11, yX11_condition, prog_13_method_22_code), (5, 2, 1, 3), [0, 7, 51, 55, 56, 60], [
  [(.aload 0, 0), (.iload 1, 0), (.iload 2, 0), (.invokeinterface 100 3, 11), (.istore 3, 0), (.jsr 1, 0)],
  [(.aload 0, 0), (.getfield 11, 11), (.iconst (-1), 0), (.if_icmp .ne 5, 0), (.aload 0, 0), (.invokeinterface 88 1, 11), (.iconst (124), 0), (.if_icmp .ne 5, 0), (.aload 0, 0), (.dup, 0), (.getfield 11, 10), (.iconst (1), 0), (.iadd, 0), (.putfield 11, 10), (.aload 0, 0), (.iconst (0), 0), (.iconst (0), 0), (.invokeinterface 100 3, 11), (.istore 4, 0), (.iload 3, 0), (.ifCond .ne 2, 0), (.iload 4, 0), (.ifCond .eq 3, 0), (.jsr 2, 0)],
  [(.iconst (1), 0), (.goto 4, 0)],
  [(.iconst (0), 0), (.jsr 4, 0)],
  [(.istore 3, 0), (.goto 1, 0)],
  [(.iload 3, 0), (.ireturn, 1)]])
/-- DiceLawModel.ruleClause()V -/
def me102 : ME := ((11, yX11_ruleClause, prog_13_method_23_code), (5, 0, 1, 1), [0, 20, 40, 64, 81, 89, 129, 134, 161, 162], [
  [(.aload 0, 0), (.invokeinterface 88 1, 11), (.istore 1, 0), (.ldc 1, 0), (.iload 1, 0), (.invokestatic 83, 2), (.ifCond .ne 1, 0), (.aload 0, 0), (.invokeinterface 89 1, 11), (.pop, 0), (.return_, 0)],
  [(.aload 0, 0), (.dup, 0), (.getfield 11, 10), (.iconst (1), 0), (.iadd, 0), (.putfield 11, 10), (.aload 0, 0), (.iconst (58), 0), (.invokeinterface 91 2, 11), (.ifCond .ne 2, 0), (.return_, 0)],
  [(.iconst (1), 0), (.istore 2, 0), (.iconst (0), 0), (.istore 3, 0), (.aload 0, 0), (.invokeinterface 88 1, 11), (.istore 4, 0), (.iload 4, 0), (.iconst (33), 0), (.if_icmp .eq 3, 0), (.iload 4, 0), (.iconst (40), 0), (.if_icmp .ne 5, 0), (.jsr 3, 0)],
  [(.aload 0, 0), (.iconst (0), 0), (.iconst (0), 0), (.invokeinterface 101 3, 11), (.istore 2, 0), (.aload 0, 0), (.iconst (63), 0), (.invokeinterface 91 2, 11), (.ifCond .ne 4, 0), (.return_, 0)],
  [(.aload 0, 0), (.invokeinterface 96 1, 11), (.istore 3, 0), (.goto 7, 0)],
  [(.aload 0, 0), (.invokeinterface 96 1, 11), (.istore 3, 0), (.aload 0, 0), (.getfield 11, 11), (.iconst (-1), 0), (.if_icmp .ne 7, 0), (.aload 0, 0), (.invokeinterface 88 1, 11), (.invokestatic 97, 1), (.ifCond .eq 7, 0), (.aload 0, 0), (.iconst (1), 0), (.iload 3, 0), (.invokeinterface 101 3, 11), (.istore 2, 0), (.aload 0, 0), (.iconst (63), 0), (.invokeinterface 91 2, 11), (.ifCond .ne 6, 0), (.return_, 0)],
  [(.aload 0, 0), (.invokeinterface 96 1, 11), (.istore 3, 0), (.jsr 7, 0)],
  [(.aload 0, 0), (.getfield 11, 11), (.iconst (-1), 0), (.if_icmp .ne 8, 0), (.aload 0, 0), (.getfield 11, 17), (.ifCond .ne 8, 0), (.iload 1, 0), (.aload 0, 0), (.getfield 11, 13), (.if_icmp .ne 8, 0), (.iload 2, 0), (.ifCond .ne 9, 0), (.jsr 8, 0)],
  [(.return_, 0)],
  [(.aload 0, 0), (.iconst (1), 0), (.ret 11, 17), (.aload 0, 0), (.iload 3, 0), (.putfield 11, 14), (.return_, 0)]])
/-- DiceLawModel.opens([BII)V -/
def me103 : ME := ((11, yX11_opens, prog_13_method_24_code), (4, 0, 1, 4), [0], [
  [(.aload 0, 0), (.aload 1, 0), (.instanceof 11, 5), (.aload 0, 0), (.iload 2, 0), (.putfield 11, 8), (.aload 0, 0), (.iload 3, 0), (.putfield 11, 9), (.aload 0, 0), (.iconst (0), 0), (.putfield 11, 10), (.aload 0, 0), (.iconst (-1), 0), (.putfield 11, 11), (.return_, 0)]])
/-- DiceLawModel.goThrough([BII)V -/
def me104 : ME := ((11, yX11_goThrough, prog_13_method_25_code), (4, 0, 1, 4), [0, 32, 66, 87], [
  [(.aload 0, 0), (.aload 1, 0), (.iload 2, 0), (.iload 3, 0), (.invokeinterface 103 4, 11), (.aload 0, 0), (.iconst (121), 0), (.putfield 11, 13), (.aload 0, 0), (.iconst (0), 0), (.putfield 11, 12), (.aload 0, 0), (.iconst (0), 0), (.ret 11, 17), (.aload 0, 0), (.iconst (0), 0), (.putfield 11, 14), (.aload 0, 0), (.invokeinterface 102 1, 11), (.jsr 1, 0)],
  [(.aload 0, 0), (.getfield 11, 11), (.iconst (-1), 0), (.if_icmp .ne 2, 0), (.aload 0, 0), (.invokeinterface 88 1, 11), (.iconst (59), 0), (.if_icmp .ne 2, 0), (.aload 0, 0), (.dup, 0), (.getfield 11, 10), (.iconst (1), 0), (.iadd, 0), (.putfield 11, 10), (.aload 0, 0), (.invokeinterface 102 1, 11), (.goto 1, 0)],
  [(.aload 0, 0), (.getfield 11, 11), (.iconst (-1), 0), (.if_icmp .ne 3, 0), (.aload 0, 0), (.invokeinterface 88 1, 11), (.iconst (-1), 0), (.if_icmp .eq 3, 0), (.aload 0, 0), (.invokeinterface 89 1, 11), (.pop, 0), (.jsr 3, 0)],
  [(.return_, 0)]])
/-- DiceLawModel.readClause()I -/
def me105 : ME := ((11, yX11_readClause, prog_13_method_26_code), (5, 1, 1, 1), [0, 15, 26, 37, 48, 59, 70, 81, 82, 95, 115, 117, 132, 133, 145, 149, 165, 168, 181], [
  [(.aload 0, 0), (.invokeinterface 88 1, 11), (.istore 1, 0), (.iload 1, 0), (.iconst (46), 0), (.if_icmp .ne 1, 0), (.iconst (0), 0), (.goto 8, 0)],
  [(.iload 1, 0), (.iconst (109), 0), (.if_icmp .ne 2, 0), (.iconst (10), 0), (.goto 8, 0)],
  [(.iload 1, 0), (.iconst (110), 0), (.if_icmp .ne 3, 0), (.iconst (20), 0), (.goto 8, 0)],
  [(.iload 1, 0), (.iconst (111), 0), (.if_icmp .ne 4, 0), (.iconst (30), 0), (.goto 8, 0)],
  [(.iload 1, 0), (.iconst (116), 0), (.if_icmp .ne 5, 0), (.iconst (40), 0), (.goto 8, 0)],
  [(.iload 1, 0), (.iconst (99), 0), (.if_icmp .ne 6, 0), (.iconst (50), 0), (.goto 8, 0)],
  [(.iload 1, 0), (.iconst (121), 0), (.if_icmp .ne 7, 0), (.iconst (60), 0), (.goto 8, 0)],
  [(.iconst (-1), 0), (.jsr 8, 0)],
  [(.istore 2, 0), (.iload 2, 0), (.iconst (-1), 0), (.if_icmp .ne 9, 0), (.aload 0, 0), (.invokeinterface 89 1, 11), (.pop, 0), (.iconst (-1), 0), (.ireturn, 0)],
  [(.aload 0, 0), (.dup, 0), (.getfield 11, 10), (.iconst (1), 0), (.iadd, 0), (.putfield 11, 10), (.iload 2, 0), (.ifCond .eq 10, 0), (.iload 2, 0), (.iconst (60), 0), (.if_icmp .ne 11, 0), (.jsr 10, 0)],
  [(.iload 2, 0), (.ireturn, 0)],
  [(.aload 0, 0), (.invokeinterface 88 1, 11), (.istore 1, 0), (.iload 2, 0), (.iconst (30), 0), (.if_icmp .gt 12, 0), (.iconst (1), 0), (.goto 13, 0)],
  [(.iconst (0), 0), (.jsr 13, 0)],
  [(.istore 3, 0), (.iload 3, 0), (.ifCond .eq 14, 0), (.iload 1, 0), (.iconst (97), 0), (.isub, 0), (.goto 15, 0)],
  [(.iload 1, 0), (.iconst (48), 0), (.isub, 0), (.jsr 15, 0)],
  [(.istore 4, 0), (.iload 4, 0), (.i2l, 0), (.sipush (0), 0), (.iload 3, 0), (.ifCond .eq 16, 0), (.sipush (5), 0), (.goto 17, 0)],
  [(.sipush (4), 0), (.jsr 17, 0)],
  [(.invokestatic 82, 3), (.ifCond .ne 18, 0), (.aload 0, 0), (.invokeinterface 89 1, 11), (.pop, 0), (.iconst (-1), 0), (.ireturn, 0)],
  [(.aload 0, 0), (.dup, 0), (.getfield 11, 10), (.iconst (1), 0), (.iadd, 0), (.putfield 11, 10), (.iload 2, 0), (.iload 4, 0), (.iadd, 0), (.ireturn, 0)]])
/-- DiceLawModel.readLaw()V -/
def me106 : ME := ((11, yX11_readLaw, prog_13_method_27_code), (2, 0, 1, 1), [0, 15, 35, 54, 60, 73], [
  [(.aload 0, 0), (.aload 0, 0), (.checkcast 11, 1), (.iconst (0), 0), (.aload 0, 0), (.getfield 11, 6), (.invokeinterface 103 4, 11), (.iconst (0), 0), (.istore 1, 0), (.jsr 1, 0)],
  [(.iload 1, 0), (.iconst (6), 0), (.if_icmp .ge 4, 0), (.iload 1, 0), (.ifCond .le 2, 0), (.aload 0, 0), (.iconst (44), 0), (.invokeinterface 91 2, 11), (.ifCond .ne 2, 0), (.return_, 0)],
  [(.aload 0, 0), (.checkcast 11, 19), (.iload 1, 0), (.aload 0, 0), (.invokeinterface 105 1, 11), (.iastore, 0), (.aload 0, 0), (.getfield 11, 11), (.iconst (-1), 0), (.if_icmp .eq 3, 0), (.return_, 0)],
  [(.iinc 1 (1), 0), (.goto 1, 0)],
  [(.aload 0, 0), (.invokeinterface 88 1, 11), (.iconst (-1), 0), (.if_icmp .eq 5, 0), (.aload 0, 0), (.invokeinterface 89 1, 11), (.pop, 0), (.jsr 5, 0)],
  [(.return_, 0)]])
/-- DiceLawModel.fault(I)I -/
def me107 : ME := ((11, yX11_fault, prog_13_method_28_code), (2, 1, 1, 2), [0, 18, 29, 42], [
  [(.aload 0, 0), (.iconst (0), 0), (.putfield 11, 0), (.iload 1, 0), (.i2l, 0), (.sipush (0), 0), (.sipush (1), 0), (.invokestatic 82, 3), (.ifCond .ne 1, 0), (.iconst (-2), 0), (.ireturn, 0)],
  [(.iload 1, 0), (.ifCond .ne 2, 0), (.aload 0, 0), (.invokeinterface 106 1, 11), (.goto 3, 0)],
  [(.aload 0, 0), (.aload 0, 0), (.checkcast 11, 1), (.iconst (0), 0), (.aload 0, 0), (.getfield 11, 6), (.invokeinterface 104 4, 11), (.jsr 3, 0)],
  [(.aload 0, 0), (.getfield 11, 11), (.ireturn, 0)]])
/-- DiceLawModel.text(I)I -/
def me108 : ME := ((11, yX11_text, prog_13_method_29_code), (4, 1, 1, 2), [0, 37, 45, 54, 56, 72, 119, 136, 138, 169], [
  [(.aload 0, 0), (.iconst (0), 0), (.putfield 11, 0), (.iload 1, 0), (.i2l, 0), (.sipush (0), 0), (.sipush (1), 0), (.invokestatic 82, 3), (.ifCond .eq 3, 0), (.iload 1, 0), (.ifCond .ne 1, 0), (.aload 0, 0), (.getfield 11, 20), (.iconst (5), 0), (.if_icmp .eq 3, 0), (.aload 0, 0), (.getfield 11, 30), (.ifCond .le 2, 0), (.goto 3, 0)],
  [(.aload 0, 0), (.getfield 11, 7), (.iconst (4), 0), (.if_icmp .eq 3, 0), (.jsr 2, 0)],
  [(.aload 0, 0), (.iload 1, 0), (.invokeinterface 107 2, 11), (.iconst (-1), 0), (.if_icmp .eq 4, 0), (.jsr 3, 0)],
  [(.iconst (-1), 0), (.ireturn, 0)],
  [(.aload 0, 0), (.getfield 11, 6), (.istore 2, 0), (.aload 0, 0), (.iconst (0), 0), (.putfield 11, 6), (.iload 1, 0), (.ifCond .ne 7, 0), (.iconst (0), 0), (.istore 3, 0), (.jsr 5, 0)],
  [(.iload 3, 0), (.iconst (6), 0), (.if_icmp .ge 6, 0), (.aload 0, 0), (.checkcast 11, 18), (.iconst (6), 0), (.aload 0, 0), (.getfield 11, 20), (.imul, 0), (.iload 3, 0), (.iadd, 0), (.aload 0, 0), (.checkcast 11, 19), (.iload 3, 0), (.iaload, 0), (.iastore, 0), (.aload 0, 0), (.checkcast 11, 21), (.iconst (6), 0), (.aload 0, 0), (.getfield 11, 20), (.imul, 0), (.iload 3, 0), (.iadd, 0), (.iconst (2), 0), (.iastore, 0), (.iinc 3 (1), 0), (.goto 5, 0)],
  [(.aload 0, 0), (.dup, 0), (.getfield 11, 20), (.iconst (1), 0), (.iadd, 0), (.putfield 11, 20), (.aload 0, 0), (.getfield 11, 20), (.iconst (1), 0), (.isub, 0), (.ireturn, 0)],
  [(.iconst (0), 0), (.istore 3, 0), (.jsr 8, 0)],
  [(.iload 3, 0), (.iload 2, 0), (.if_icmp .ge 9, 0), (.aload 0, 0), (.checkcast 11, 2), (.iconst (120), 0), (.aload 0, 0), (.getfield 11, 7), (.imul, 0), (.iload 3, 0), (.iadd, 0), (.aload 0, 0), (.checkcast 11, 1), (.iload 3, 0), (.baload, 0), (.bastore, 0), (.iinc 3 (1), 0), (.goto 8, 0)],
  [(.aload 0, 0), (.checkcast 11, 3), (.aload 0, 0), (.getfield 11, 7), (.iload 2, 0), (.iastore, 0), (.aload 0, 0), (.dup, 0), (.getfield 11, 7), (.iconst (1), 0), (.iadd, 0), (.putfield 11, 7), (.aload 0, 0), (.getfield 11, 7), (.iconst (1), 0), (.isub, 0), (.ireturn, 0)]])
/-- DiceLawModel.isLaw(I)Z -/
def me109 : ME := ((11, yX11_isLaw, prog_13_method_30_code), (2, 2, 1, 2), [0, 16, 17], [
  [(.iload 1, 0), (.ifCond .lt 1, 0), (.iload 1, 0), (.aload 0, 0), (.getfield 11, 20), (.if_icmp .ge 1, 0), (.iconst (1), 0), (.goto 2, 0)],
  [(.iconst (0), 0), (.jsr 2, 0)],
  [(.ireturn, 1)]])
/-- DiceLawModel.isFace(I)Z -/
def me110 : ME := ((11, yX11_isFace, prog_13_method_31_code), (1, 2, 0, 1), [0], [
  [(.iload 0, 0), (.i2l, 0), (.sipush (0), 0), (.sipush (5), 0), (.invokestatic 82, 3), (.ireturn, 1)]])
/-- DiceLawModel.isDeed(I)Z -/
def me111 : ME := ((11, yX11_isDeed, prog_13_method_32_code), (1, 2, 0, 1), [0], [
  [(.iload 0, 0), (.i2l, 0), (.sipush (0), 0), (.sipush (5), 0), (.invokestatic 82, 3), (.ireturn, 1)]])
/-- DiceLawModel.isClause(I)Z -/
def me112 : ME := ((11, yX11_isClause, prog_13_method_33_code), (1, 2, 0, 1), [0, 34, 59, 63, 64], [
  [(.iload 0, 0), (.ifCond .eq 2, 0), (.iload 0, 0), (.iconst (60), 0), (.if_icmp .eq 2, 0), (.iload 0, 0), (.iconst (10), 0), (.idiv, 0), (.i2l, 0), (.sipush (1), 0), (.sipush (3), 0), (.invokestatic 82, 3), (.ifCond .eq 1, 0), (.iload 0, 0), (.iconst (10), 0), (.irem, 0), (.iconst (6), 0), (.if_icmp .lt 2, 0), (.jsr 1, 0)],
  [(.iload 0, 0), (.iconst (10), 0), (.idiv, 0), (.i2l, 0), (.sipush (4), 0), (.sipush (5), 0), (.invokestatic 82, 3), (.ifCond .eq 3, 0), (.iload 0, 0), (.iconst (10), 0), (.irem, 0), (.iconst (5), 0), (.if_icmp .ge 3, 0), (.jsr 2, 0)],
  [(.iconst (1), 0), (.goto 4, 0)],
  [(.iconst (0), 0), (.jsr 4, 0)],
  [(.ireturn, 1)]])
/-- DiceLawModel.clause(II)I -/
def me113 : ME := ((11, yX11_clause, prog_13_method_34_code), (3, 1, 1, 3), [0, 20, 21, 35, 46], [
  [(.aload 0, 0), (.aload 0, 0), (.iload 1, 0), (.invokeinterface 109 2, 11), (.ifCond .eq 1, 0), (.iload 2, 0), (.invokestatic 110, 1), (.ifCond .eq 1, 0), (.iconst (0), 0), (.goto 2, 0)],
  [(.iconst (1), 0), (.jsr 2, 0)],
  [(.putfield 11, 0), (.aload 0, 0), (.getfield 11, 0), (.ifCond .le 3, 0), (.iconst (0), 0), (.goto 4, 0)],
  [(.aload 0, 0), (.checkcast 11, 18), (.iconst (6), 0), (.iload 1, 0), (.imul, 0), (.iload 2, 0), (.iadd, 0), (.iaload, 0), (.jsr 4, 0)],
  [(.ireturn, 0)]])
/-- DiceLawModel.areTwelve(IIIIII)Z -/
def me114 : ME := ((11, yX11_areTwelve, prog_13_method_35_code), (6, 2, 0, 6), [0, 86, 87], [
  [(.iload 0, 0), (.ifCond .lt 1, 0), (.iload 1, 0), (.ifCond .lt 1, 0), (.iload 2, 0), (.ifCond .lt 1, 0), (.iload 3, 0), (.ifCond .lt 1, 0), (.iload 4, 0), (.ifCond .lt 1, 0), (.iload 5, 0), (.ifCond .lt 1, 0), (.iload 0, 0), (.iconst (12), 0), (.if_icmp .gt 1, 0), (.iload 1, 0), (.iconst (12), 0), (.if_icmp .gt 1, 0), (.iload 2, 0), (.iconst (12), 0), (.if_icmp .gt 1, 0), (.iload 3, 0), (.iconst (12), 0), (.if_icmp .gt 1, 0), (.iload 4, 0), (.iconst (12), 0), (.if_icmp .gt 1, 0), (.iload 5, 0), (.iconst (12), 0), (.if_icmp .gt 1, 0), (.iload 0, 0), (.iload 1, 0), (.iadd, 0), (.iload 2, 0), (.iadd, 0), (.iload 3, 0), (.iadd, 0), (.iload 4, 0), (.iadd, 0), (.iload 5, 0), (.iadd, 0), (.iconst (12), 0), (.if_icmp .ne 1, 0), (.iconst (1), 0), (.goto 2, 0)],
  [(.iconst (0), 0), (.jsr 2, 0)],
  [(.ireturn, 1)]])
/-- DiceLawModel.lay([IIIIIIII)V -/
def me115 : ME := ((11, yX11_lay, prog_13_method_36_code), (8, 0, 0, 8), [0], [
  [(.aload 0, 0), (.iload 1, 0), (.iload 2, 0), (.iastore, 0), (.aload 0, 0), (.iload 1, 0), (.iconst (1), 0), (.iadd, 0), (.iload 3, 0), (.iastore, 0), (.aload 0, 0), (.iload 1, 0), (.iconst (2), 0), (.iadd, 0), (.iload 4, 0), (.iastore, 0), (.aload 0, 0), (.iload 1, 0), (.iconst (3), 0), (.iadd, 0), (.iload 5, 0), (.iastore, 0), (.aload 0, 0), (.iload 1, 0), (.iconst (4), 0), (.iadd, 0), (.iload 6, 0), (.iastore, 0), (.aload 0, 0), (.iload 1, 0), (.iconst (5), 0), (.iadd, 0), (.iload 7, 0), (.iastore, 0), (.return_, 0)]])
/-- DiceLawModel.weigh(IIIIIII)Z -/
def me116 : ME := ((11, yX11_weigh, prog_13_method_37_code), (8, 2, 1, 8), [0, 29, 31], [
  [(.aload 0, 0), (.iconst (0), 0), (.putfield 11, 0), (.aload 0, 0), (.iload 1, 0), (.invokeinterface 109 2, 11), (.ifCond .eq 1, 0), (.iload 2, 0), (.iload 3, 0), (.iload 4, 0), (.iload 5, 0), (.iload 6, 0), (.iload 7, 0), (.invokestatic 114, 6), (.ifCond .ne 2, 0), (.jsr 1, 0)],
  [(.iconst (0), 0), (.ireturn, 1)],
  [(.aload 0, 0), (.checkcast 11, 21), (.iconst (6), 0), (.iload 1, 0), (.imul, 0), (.iload 2, 0), (.iload 3, 0), (.iload 4, 0), (.iload 5, 0), (.iload 6, 0), (.iload 7, 0), (.invokestatic 115, 8), (.iconst (1), 0), (.ireturn, 1)]])
/-- DiceLawModel.weight(II)I -/
def me117 : ME := ((11, yX11_weight, prog_13_method_38_code), (3, 1, 1, 3), [0, 34, 35], [
  [(.aload 0, 0), (.iconst (0), 0), (.putfield 11, 0), (.aload 0, 0), (.iload 1, 0), (.invokeinterface 109 2, 11), (.ifCond .eq 1, 0), (.iload 2, 0), (.invokestatic 110, 1), (.ifCond .eq 1, 0), (.aload 0, 0), (.checkcast 11, 21), (.iconst (6), 0), (.iload 1, 0), (.imul, 0), (.iload 2, 0), (.iadd, 0), (.iaload, 0), (.goto 2, 0)],
  [(.iconst (-1), 0), (.jsr 2, 0)],
  [(.ireturn, 0)]])
/-- DiceLawModel.suspect(IIIIII)Z -/
def me118 : ME := ((11, yX11_suspect, prog_13_method_39_code), (7, 2, 1, 7), [0, 22], [
  [(.aload 0, 0), (.iconst (0), 0), (.putfield 11, 0), (.iload 1, 0), (.iload 2, 0), (.iload 3, 0), (.iload 4, 0), (.iload 5, 0), (.iload 6, 0), (.invokestatic 114, 6), (.ifCond .ne 1, 0), (.iconst (0), 0), (.ireturn, 1)],
  [(.aload 0, 0), (.checkcast 11, 22), (.iconst (0), 0), (.iload 1, 0), (.iload 2, 0), (.iload 3, 0), (.iload 4, 0), (.iload 5, 0), (.iload 6, 0), (.invokestatic 115, 8), (.iconst (1), 0), (.ireturn, 1)]])
/-- DiceLawModel.amend(III)Z -/
def me119 : ME := ((11, yX11_amend, prog_13_method_40_code), (4, 2, 1, 4), [0, 31, 33], [
  [(.aload 0, 0), (.iconst (0), 0), (.putfield 11, 0), (.aload 0, 0), (.iload 1, 0), (.invokeinterface 109 2, 11), (.ifCond .eq 1, 0), (.iload 2, 0), (.invokestatic 110, 1), (.ifCond .eq 1, 0), (.iload 3, 0), (.ifCond .lt 1, 0), (.iload 3, 0), (.invokestatic 112, 1), (.ifCond .ne 2, 0), (.jsr 1, 0)],
  [(.iconst (0), 0), (.ireturn, 1)],
  [(.aload 0, 0), (.checkcast 11, 18), (.iconst (6), 0), (.iload 1, 0), (.imul, 0), (.iload 2, 0), (.iadd, 0), (.iload 3, 0), (.iastore, 0), (.iconst (1), 0), (.ireturn, 1)]])
/-- DiceLawModel.shown(I)I -/
def me120 : ME := ((11, yX11_shown, prog_13_method_41_code), (2, 1, 1, 2), [0], [
  [(.aload 0, 0), (.checkcast 11, 18), (.iconst (6), 0), (.iload 1, 0), (.imul, 0), (.aload 0, 0), (.checkcast 11, 23), (.iload 1, 0), (.iaload, 0), (.iadd, 0), (.iaload, 0), (.ireturn, 0)]])
/-- DiceLawModel.heldYesterday(I)I -/
def me121 : ME := ((11, yX11_heldYesterday, prog_13_method_42_code), (2, 1, 1, 2), [0, 11, 26], [
  [(.aload 0, 0), (.getfield 11, 30), (.ifCond .ne 1, 0), (.iconst (0), 0), (.goto 2, 0)],
  [(.aload 0, 0), (.checkcast 11, 26), (.iconst (5), 0), (.aload 0, 0), (.getfield 11, 30), (.iconst (1), 0), (.isub, 0), (.imul, 0), (.iload 1, 0), (.iadd, 0), (.iaload, 0), (.jsr 2, 0)],
  [(.ireturn, 0)]])
/-- DiceLawModel.holdOf(I)I -/
def me122 : ME := ((11, yX11_holdOf, prog_13_method_43_code), (5, 1, 1, 2), [0, 4, 26, 39, 58, 60, 72], [
  [(.iload 1, 0), (.istore 2, 0), (.iconst (0), 0), (.istore 3, 0), (.jsr 1, 0)],
  [(.iload 3, 0), (.iconst (5), 0), (.if_icmp .gt 6, 0), (.aload 0, 0), (.iload 2, 0), (.invokeinterface 120 2, 11), (.istore 4, 0), (.iload 4, 0), (.iconst (40), 0), (.if_icmp .ge 2, 0), (.iload 4, 0), (.ireturn, 0)],
  [(.iload 4, 0), (.iconst (60), 0), (.if_icmp .ne 3, 0), (.aload 0, 0), (.iload 2, 0), (.invokeinterface 121 2, 11), (.ireturn, 0)],
  [(.iload 4, 0), (.iconst (50), 0), (.if_icmp .lt 4, 0), (.aload 0, 0), (.iload 4, 0), (.iconst (50), 0), (.isub, 0), (.invokeinterface 109 2, 11), (.ifCond .ne 5, 0), (.jsr 4, 0)],
  [(.iconst (0), 0), (.ireturn, 0)],
  [(.iload 4, 0), (.iconst (50), 0), (.isub, 0), (.istore 2, 0), (.iinc 3 (1), 0), (.goto 1, 0)],
  [(.iconst (0), 0), (.ireturn, 0)]])
/-- DiceLawModel.layHolds()V -/
def me123 : ME := ((11, yX11_layHolds, prog_13_method_44_code), (2, 0, 1, 1), [0, 2, 27], [
  [(.iconst (0), 0), (.istore 1, 0), (.jsr 1, 0)],
  [(.iload 1, 0), (.aload 0, 0), (.getfield 11, 20), (.if_icmp .ge 2, 0), (.aload 0, 0), (.checkcast 11, 24), (.iload 1, 0), (.aload 0, 0), (.iload 1, 0), (.invokeinterface 122 2, 11), (.iastore, 0), (.iinc 1 (1), 0), (.goto 1, 0)],
  [(.return_, 0)]])
/-- DiceLawModel.manyOf([IIII)I -/
def me124 : ME := ((11, yX11_manyOf, prog_13_method_45_code), (6, 1, 0, 4), [0, 6, 28, 29, 38], [
  [(.iconst (0), 0), (.istore 4, 0), (.iconst (0), 0), (.istore 5, 0), (.jsr 1, 0)],
  [(.iload 5, 0), (.iload 2, 0), (.if_icmp .ge 4, 0), (.iload 4, 0), (.aload 0, 0), (.iload 1, 0), (.iload 5, 0), (.iadd, 0), (.iaload, 0), (.iload 3, 0), (.if_icmp .ne 2, 0), (.iconst (1), 0), (.goto 3, 0)],
  [(.iconst (0), 0), (.jsr 3, 0)],
  [(.iadd, 0), (.istore 4, 0), (.iinc 5 (1), 0), (.goto 1, 0)],
  [(.iload 4, 0), (.ireturn, 0)]])
/-- DiceLawModel.counts([III)I -/
def me125 : ME := ((11, yX11_counts, prog_13_method_46_code), (4, 1, 1, 4), [0], [
  [(.aload 1, 0), (.iload 2, 0), (.aload 0, 0), (.getfield 11, 20), (.iload 3, 0), (.invokestatic 124, 4), (.ireturn, 0)]])
/-- DiceLawModel.isLawfulBy([III)Z -/
def me126 : ME := ((11, yX11_isLawfulBy, prog_13_method_47_code), (5, 2, 1, 4), [0, 32, 36, 37], [
  [(.aload 0, 0), (.aload 1, 0), (.iload 2, 0), (.iconst (20), 0), (.iload 3, 0), (.iadd, 0), (.invokeinterface 125 4, 11), (.istore 4, 0), (.iload 4, 0), (.ifCond .eq 1, 0), (.aload 0, 0), (.aload 1, 0), (.iload 2, 0), (.iconst (10), 0), (.iload 3, 0), (.iadd, 0), (.invokeinterface 125 4, 11), (.iload 4, 0), (.if_icmp .le 2, 0), (.jsr 1, 0)],
  [(.iconst (1), 0), (.goto 3, 0)],
  [(.iconst (0), 0), (.jsr 3, 0)],
  [(.ireturn, 1)]])
/-- DiceLawModel.isMustBy([III)Z -/
def me127 : ME := ((11, yX11_isMustBy, prog_13_method_48_code), (4, 2, 1, 4), [0, 27, 28], [
  [(.aload 0, 0), (.aload 1, 0), (.iload 2, 0), (.iconst (30), 0), (.iload 3, 0), (.iadd, 0), (.invokeinterface 125 4, 11), (.ifCond .le 1, 0), (.aload 0, 0), (.aload 1, 0), (.iload 2, 0), (.iload 3, 0), (.invokeinterface 126 4, 11), (.ifCond .eq 1, 0), (.iconst (1), 0), (.goto 2, 0)],
  [(.iconst (0), 0), (.jsr 2, 0)],
  [(.ireturn, 1)]])
/-- DiceLawModel.thrower()I -/
def me128 : ME := ((11, yX11_thrower, prog_13_method_49_code), (3, 1, 1, 1), [0, 2, 50, 56], [
  [(.iconst (0), 0), (.istore 1, 0), (.jsr 1, 0)],
  [(.iload 1, 0), (.aload 0, 0), (.getfield 11, 20), (.if_icmp .ge 3, 0), (.aload 0, 0), (.iload 1, 0), (.invokeinterface 120 2, 11), (.istore 2, 0), (.iload 2, 0), (.iconst (40), 0), (.if_icmp .lt 2, 0), (.iload 2, 0), (.iconst (50), 0), (.if_icmp .ge 2, 0), (.aload 0, 0), (.iload 2, 0), (.iconst (40), 0), (.isub, 0), (.invokeinterface 109 2, 11), (.ifCond .eq 2, 0), (.aload 0, 0), (.checkcast 11, 25), (.iload 1, 0), (.baload, 0), (.ifCond .ne 2, 0), (.iload 1, 0), (.ireturn, 0)],
  [(.iinc 1 (1), 0), (.goto 1, 0)],
  [(.iconst (-1), 0), (.ireturn, 0)]])
/-- DiceLawModel.seed(J)V -/
def me129 : ME := ((11, yX11_seed, prog_13_method_50_code), (3, 0, 1, 2), [0], [
  [(.aload 0, 0), (.iconst (0), 0), (.putfield 11, 0), (.aload 0, 0), (.lload 1, 0), (.putstatic 11, 31), (.return_, 0)]])
/-- DiceLawModel.throwDie(I)V -/
def me130 : ME := ((11, yX11_throwDie, prog_13_method_51_code), (5, 0, 1, 2), [0, 42, 70], [
  [(.aload 0, 0), (.aload 0, 0), (.getstatic 11, 31), (.sipush (6364136223846793005), 0), (.lmul, 0), (.sipush (1442695040888963407), 0), (.ladd, 0), (.putstatic 11, 31), (.aload 0, 0), (.getstatic 11, 31), (.iconst (33), 0), (.lushr, 0), (.sipush (12), 0), (.lrem, 0), (.l2i, 0), (.istore 2, 0), (.iconst (0), 0), (.istore 3, 0), (.aload 0, 0), (.checkcast 11, 21), (.iconst (6), 0), (.iload 1, 0), (.imul, 0), (.iaload, 0), (.istore 4, 0), (.jsr 1, 0)],
  [(.iload 4, 0), (.iload 2, 0), (.if_icmp .gt 2, 0), (.iinc 3 (1), 0), (.iload 4, 0), (.aload 0, 0), (.checkcast 11, 21), (.iconst (6), 0), (.iload 1, 0), (.imul, 0), (.iload 3, 0), (.iadd, 0), (.iaload, 0), (.iadd, 0), (.istore 4, 0), (.goto 1, 0)],
  [(.aload 0, 0), (.checkcast 11, 23), (.iload 1, 0), (.iload 3, 0), (.iastore, 0), (.aload 0, 0), (.checkcast 11, 25), (.iload 1, 0), (.iconst (0), 0), (.bastore, 0), (.return_, 0)]])
/-- DiceLawModel.keepDawn(IJ)I -/
def me131 : ME := ((11, yX11_keepDawn, prog_13_method_52_code), (5, 1, 1, 3), [0, 7, 64], [
  [(.aload 0, 0), (.invokeinterface 123 1, 11), (.iconst (0), 0), (.istore 4, 0), (.jsr 1, 0)],
  [(.iload 4, 0), (.aload 0, 0), (.getfield 11, 20), (.if_icmp .ge 2, 0), (.aload 0, 0), (.checkcast 11, 27), (.iconst (5), 0), (.aload 0, 0), (.getfield 11, 30), (.imul, 0), (.iload 4, 0), (.iadd, 0), (.aload 0, 0), (.checkcast 11, 23), (.iload 4, 0), (.iaload, 0), (.iastore, 0), (.aload 0, 0), (.checkcast 11, 26), (.iconst (5), 0), (.aload 0, 0), (.getfield 11, 30), (.imul, 0), (.iload 4, 0), (.iadd, 0), (.aload 0, 0), (.checkcast 11, 24), (.iload 4, 0), (.iaload, 0), (.iastore, 0), (.iinc 4 (1), 0), (.goto 1, 0)],
  [(.aload 0, 0), (.checkcast 11, 28), (.aload 0, 0), (.getfield 11, 30), (.iload 1, 0), (.iastore, 0), (.aload 0, 0), (.checkcast 11, 29), (.aload 0, 0), (.getfield 11, 30), (.lload 2, 0), (.lastore, 0), (.aload 0, 0), (.dup, 0), (.getfield 11, 30), (.iconst (1), 0), (.iadd, 0), (.putfield 11, 30), (.aload 0, 0), (.getfield 11, 30), (.ireturn, 0)]])
/-- DiceLawModel.dawn()I -/
def me132 : ME := ((11, yX11_dawn, prog_13_method_53_code), (6, 1, 1, 1), [0, 21, 23, 30, 49, 57, 105], [
  [(.aload 0, 0), (.iconst (0), 0), (.putfield 11, 0), (.aload 0, 0), (.getfield 11, 20), (.ifCond .eq 1, 0), (.aload 0, 0), (.getfield 11, 30), (.iconst (40), 0), (.if_icmp .ne 2, 0), (.jsr 1, 0)],
  [(.iconst (-1), 0), (.ireturn, 0)],
  [(.aload 0, 0), (.getstatic 11, 31), (.lstore 1, 0), (.iconst (0), 0), (.istore 3, 0), (.jsr 3, 0)],
  [(.iload 3, 0), (.aload 0, 0), (.getfield 11, 20), (.if_icmp .ge 4, 0), (.aload 0, 0), (.iload 3, 0), (.invokeinterface 130 2, 11), (.iinc 3 (1), 0), (.goto 3, 0)],
  [(.iconst (0), 0), (.istore 3, 0), (.aload 0, 0), (.invokeinterface 128 1, 11), (.istore 4, 0), (.jsr 5, 0)],
  [(.iload 3, 0), (.iconst (3), 0), (.if_icmp .ge 6, 0), (.iload 4, 0), (.iconst (-1), 0), (.if_icmp .eq 6, 0), (.aload 0, 0), (.iload 4, 0), (.invokeinterface 120 2, 11), (.iconst (40), 0), (.isub, 0), (.istore 5, 0), (.aload 0, 0), (.checkcast 11, 25), (.iload 4, 0), (.iconst (1), 0), (.bastore, 0), (.aload 0, 0), (.iload 5, 0), (.invokeinterface 130 2, 11), (.iinc 3 (1), 0), (.aload 0, 0), (.invokeinterface 128 1, 11), (.istore 4, 0), (.goto 5, 0)],
  [(.aload 0, 0), (.iload 3, 0), (.lload 1, 0), (.invokeinterface 131 3, 11), (.ireturn, 0)]])
/-- DiceLawModel.told(I)I -/
def me133 : ME := ((11, yX11_told, prog_13_method_54_code), (4, 1, 1, 2), [0, 25, 27, 36, 61, 69, 78], [
  [(.aload 0, 0), (.iconst (0), 0), (.putfield 11, 0), (.aload 0, 0), (.getfield 11, 20), (.ifCond .eq 1, 0), (.aload 0, 0), (.getfield 11, 30), (.iconst (40), 0), (.if_icmp .eq 1, 0), (.iload 1, 0), (.ifCond .ge 2, 0), (.jsr 1, 0)],
  [(.iconst (-1), 0), (.ireturn, 0)],
  [(.iload 1, 0), (.istore 2, 0), (.aload 0, 0), (.getfield 11, 20), (.iconst (1), 0), (.isub, 0), (.istore 3, 0), (.jsr 3, 0)],
  [(.iload 3, 0), (.ifCond .lt 4, 0), (.aload 0, 0), (.checkcast 11, 23), (.iload 3, 0), (.iload 2, 0), (.iconst (6), 0), (.irem, 0), (.iastore, 0), (.iload 2, 0), (.iconst (6), 0), (.idiv, 0), (.istore 2, 0), (.iinc 3 (-1), 0), (.goto 3, 0)],
  [(.iload 2, 0), (.ifCond .eq 5, 0), (.iconst (-1), 0), (.goto 6, 0)],
  [(.aload 0, 0), (.iconst (0), 0), (.aload 0, 0), (.getstatic 11, 31), (.invokeinterface 131 3, 11), (.jsr 6, 0)],
  [(.ireturn, 0)]])
/-- DiceLawModel.undo()I -/
def me134 : ME := ((11, yX11_undo, prog_13_method_55_code), (3, 1, 1, 1), [0, 14, 41, 65, 104, 110], [
  [(.aload 0, 0), (.iconst (0), 0), (.putfield 11, 0), (.aload 0, 0), (.getfield 11, 30), (.ifCond .ne 1, 0), (.iconst (-1), 0), (.ireturn, 0)],
  [(.aload 0, 0), (.dup, 0), (.getfield 11, 30), (.iconst (1), 0), (.isub, 0), (.putfield 11, 30), (.aload 0, 0), (.aload 0, 0), (.checkcast 11, 29), (.aload 0, 0), (.getfield 11, 30), (.laload, 0), (.putstatic 11, 31), (.iconst (0), 0), (.istore 1, 0), (.iconst (0), 0), (.istore 2, 0), (.jsr 2, 0)],
  [(.iload 2, 0), (.aload 0, 0), (.getfield 11, 44), (.if_icmp .ge 5, 0), (.aload 0, 0), (.checkcast 11, 43), (.iload 2, 0), (.iaload, 0), (.aload 0, 0), (.getfield 11, 30), (.if_icmp .ne 3, 0), (.goto 4, 0)],
  [(.aload 0, 0), (.checkcast 11, 41), (.iload 1, 0), (.aload 0, 0), (.checkcast 11, 41), (.iload 2, 0), (.iaload, 0), (.iastore, 0), (.aload 0, 0), (.checkcast 11, 42), (.iload 1, 0), (.aload 0, 0), (.checkcast 11, 42), (.iload 2, 0), (.iaload, 0), (.iastore, 0), (.aload 0, 0), (.checkcast 11, 43), (.iload 1, 0), (.aload 0, 0), (.checkcast 11, 43), (.iload 2, 0), (.iaload, 0), (.iastore, 0), (.iinc 1 (1), 0), (.jsr 4, 0)],
  [(.iinc 2 (1), 0), (.goto 2, 0)],
  [(.aload 0, 0), (.iload 1, 0), (.putfield 11, 44), (.aload 0, 0), (.getfield 11, 30), (.ireturn, 0)]])
/-- DiceLawModel.isDay(I)Z -/
def me135 : ME := ((11, yX11_isDay, prog_13_method_56_code), (2, 2, 1, 2), [0, 16, 17], [
  [(.iload 1, 0), (.ifCond .lt 1, 0), (.iload 1, 0), (.aload 0, 0), (.getfield 11, 30), (.if_icmp .ge 1, 0), (.iconst (1), 0), (.goto 2, 0)],
  [(.iconst (0), 0), (.jsr 2, 0)],
  [(.ireturn, 1)]])
/-- DiceLawModel.day(II)I -/
def me136 : ME := ((11, yX11_day, prog_13_method_57_code), (5, 1, 1, 3), [0, 23, 25, 30, 62, 70, 76], [
  [(.aload 0, 0), (.iconst (0), 0), (.putfield 11, 0), (.aload 0, 0), (.iload 1, 0), (.invokeinterface 135 2, 11), (.ifCond .eq 1, 0), (.iload 2, 0), (.i2l, 0), (.sipush (0), 0), (.sipush (1), 0), (.invokestatic 82, 3), (.ifCond .ne 2, 0), (.jsr 1, 0)],
  [(.iconst (-1), 0), (.ireturn, 0)],
  [(.iconst (0), 0), (.istore 3, 0), (.iconst (0), 0), (.istore 4, 0), (.jsr 3, 0)],
  [(.iload 4, 0), (.aload 0, 0), (.getfield 11, 20), (.if_icmp .ge 4, 0), (.iconst (6), 0), (.iload 3, 0), (.imul, 0), (.aload 0, 0), (.checkcast 11, 27), (.iconst (5), 0), (.iload 1, 0), (.imul, 0), (.iload 4, 0), (.iadd, 0), (.iaload, 0), (.iadd, 0), (.istore 3, 0), (.iinc 4 (1), 0), (.goto 3, 0)],
  [(.iload 2, 0), (.ifCond .ne 5, 0), (.iload 3, 0), (.goto 6, 0)],
  [(.aload 0, 0), (.checkcast 11, 28), (.iload 1, 0), (.iaload, 0), (.jsr 6, 0)],
  [(.ireturn, 0)]])
/-- DiceLawModel.held(II)I -/
def me137 : ME := ((11, yX11_held, prog_13_method_58_code), (3, 1, 1, 3), [0, 34, 35], [
  [(.aload 0, 0), (.iconst (0), 0), (.putfield 11, 0), (.aload 0, 0), (.iload 1, 0), (.invokeinterface 109 2, 11), (.ifCond .eq 1, 0), (.aload 0, 0), (.iload 2, 0), (.invokeinterface 135 2, 11), (.ifCond .eq 1, 0), (.aload 0, 0), (.checkcast 11, 26), (.iconst (5), 0), (.iload 2, 0), (.imul, 0), (.iload 1, 0), (.iadd, 0), (.iaload, 0), (.goto 2, 0)],
  [(.iconst (-1), 0), (.jsr 2, 0)],
  [(.ireturn, 0)]])
/-- DiceLawModel.isLawful(II)Z -/
def me138 : ME := ((11, yX11_isLawful, prog_13_method_59_code), (3, 2, 1, 3), [0], [
  [(.aload 0, 0), (.aload 0, 0), (.checkcast 11, 26), (.iconst (5), 0), (.iload 2, 0), (.imul, 0), (.iload 1, 0), (.invokeinterface 126 4, 11), (.ireturn, 1)]])
/-- DiceLawModel.isDue(II)Z -/
def me139 : ME := ((11, yX11_isDue, prog_13_method_60_code), (3, 2, 1, 3), [0], [
  [(.aload 0, 0), (.aload 0, 0), (.checkcast 11, 26), (.iconst (5), 0), (.iload 2, 0), (.imul, 0), (.iload 1, 0), (.invokeinterface 127 4, 11), (.ireturn, 1)]])
/-- DiceLawModel.deed(III)I -/
def me140 : ME := ((11, yX11_deed, prog_13_method_61_code), (4, 1, 1, 4), [0, 32, 34, 64, 77, 78, 79, 92, 93, 94, 110, 126], [
  [(.aload 0, 0), (.iconst (0), 0), (.putfield 11, 0), (.iload 1, 0), (.invokestatic 111, 1), (.ifCond .eq 1, 0), (.aload 0, 0), (.iload 2, 0), (.invokeinterface 135 2, 11), (.ifCond .eq 1, 0), (.iload 3, 0), (.i2l, 0), (.sipush (0), 0), (.sipush (4), 0), (.invokestatic 82, 3), (.ifCond .ne 2, 0), (.jsr 1, 0)],
  [(.iconst (-1), 0), (.ireturn, 0)],
  [(.iload 3, 0), (.tableswitch 11 (0) (3) #[3, 6, 9, 10], 0)],
  [(.aload 0, 0), (.iload 1, 0), (.iload 2, 0), (.invokeinterface 138 3, 11), (.ifCond .eq 4, 0), (.iconst (1), 0), (.goto 5, 0)],
  [(.iconst (0), 0), (.jsr 5, 0)],
  [(.ireturn, 0)],
  [(.aload 0, 0), (.iload 1, 0), (.iload 2, 0), (.invokeinterface 139 3, 11), (.ifCond .eq 7, 0), (.iconst (1), 0), (.goto 8, 0)],
  [(.iconst (0), 0), (.jsr 8, 0)],
  [(.ireturn, 0)],
  [(.aload 0, 0), (.aload 0, 0), (.checkcast 11, 26), (.iconst (5), 0), (.iload 2, 0), (.imul, 0), (.iconst (10), 0), (.iload 1, 0), (.iadd, 0), (.invokeinterface 125 4, 11), (.ireturn, 0)],
  [(.aload 0, 0), (.aload 0, 0), (.checkcast 11, 26), (.iconst (5), 0), (.iload 2, 0), (.imul, 0), (.iconst (20), 0), (.iload 1, 0), (.iadd, 0), (.invokeinterface 125 4, 11), (.ireturn, 0)],
  [(.aload 0, 0), (.aload 0, 0), (.checkcast 11, 26), (.iconst (5), 0), (.iload 2, 0), (.imul, 0), (.iconst (30), 0), (.iload 1, 0), (.iadd, 0), (.invokeinterface 125 4, 11), (.ireturn, 0)]])
/-- DiceLawModel.isSo(I)Z -/
def me141 : ME := ((11, yX11_isSo, prog_13_method_62_code), (3, 2, 1, 2), [0, 64, 78, 92, 115, 116, 117, 153, 154, 155, 157, 189, 195, 197, 217, 218, 219, 231, 232, 233, 253, 254, 255, 291, 292, 293, 295, 297, 333, 347, 353], [
  [(.aload 0, 0), (.getfield 11, 32), (.tableswitch 26 (0) (10) #[1, 2, 3, 6, 9, 13, 16, 26, 19, 22, 25], 0)],
  [(.aload 0, 0), (.aload 0, 0), (.checkcast 11, 24), (.iconst (0), 0), (.aload 0, 0), (.getfield 11, 33), (.invokeinterface 126 4, 11), (.ireturn, 1)],
  [(.aload 0, 0), (.aload 0, 0), (.checkcast 11, 24), (.iconst (0), 0), (.aload 0, 0), (.getfield 11, 33), (.invokeinterface 127 4, 11), (.ireturn, 1)],
  [(.aload 0, 0), (.aload 0, 0), (.checkcast 11, 24), (.iconst (0), 0), (.iconst (20), 0), (.aload 0, 0), (.getfield 11, 33), (.iadd, 0), (.invokeinterface 125 4, 11), (.ifCond .le 4, 0), (.iconst (1), 0), (.goto 5, 0)],
  [(.iconst (0), 0), (.jsr 5, 0)],
  [(.ireturn, 1)],
  [(.aload 0, 0), (.aload 0, 0), (.checkcast 11, 24), (.iconst (0), 0), (.aload 0, 0), (.getfield 11, 33), (.invokeinterface 126 4, 11), (.ifCond .eq 7, 0), (.aload 0, 0), (.aload 0, 0), (.checkcast 11, 24), (.iconst (0), 0), (.aload 0, 0), (.getfield 11, 34), (.invokeinterface 126 4, 11), (.ifCond .eq 7, 0), (.iconst (1), 0), (.goto 8, 0)],
  [(.iconst (0), 0), (.jsr 8, 0)],
  [(.ireturn, 1)],
  [(.iconst (0), 0), (.istore 2, 0), (.jsr 10, 0)],
  [(.iload 2, 0), (.aload 0, 0), (.getfield 11, 20), (.if_icmp .ge 12, 0), (.aload 0, 0), (.checkcast 11, 24), (.iload 2, 0), (.iaload, 0), (.iconst (20), 0), (.if_icmp .lt 11, 0), (.aload 0, 0), (.checkcast 11, 24), (.iload 2, 0), (.iaload, 0), (.iconst (30), 0), (.if_icmp .ge 11, 0), (.iconst (0), 0), (.ireturn, 1)],
  [(.iinc 2 (1), 0), (.goto 10, 0)],
  [(.iconst (1), 0), (.ireturn, 1)],
  [(.aload 0, 0), (.checkcast 11, 24), (.aload 0, 0), (.getfield 11, 33), (.iaload, 0), (.aload 0, 0), (.getfield 11, 34), (.if_icmp .ne 14, 0), (.iconst (1), 0), (.goto 15, 0)],
  [(.iconst (0), 0), (.jsr 15, 0)],
  [(.ireturn, 1)],
  [(.iload 1, 0), (.aload 0, 0), (.getfield 11, 33), (.if_icmp .ne 17, 0), (.iconst (1), 0), (.goto 18, 0)],
  [(.iconst (0), 0), (.jsr 18, 0)],
  [(.ireturn, 1)],
  [(.aload 0, 0), (.checkcast 11, 23), (.aload 0, 0), (.getfield 11, 33), (.iaload, 0), (.aload 0, 0), (.getfield 11, 34), (.if_icmp .ne 20, 0), (.iconst (1), 0), (.goto 21, 0)],
  [(.iconst (0), 0), (.jsr 21, 0)],
  [(.ireturn, 1)],
  [(.aload 0, 0), (.checkcast 11, 23), (.aload 0, 0), (.getfield 11, 33), (.iaload, 0), (.aload 0, 0), (.getfield 11, 34), (.if_icmp .ne 23, 0), (.aload 0, 0), (.aload 0, 0), (.checkcast 11, 24), (.iconst (0), 0), (.aload 0, 0), (.getfield 11, 35), (.invokeinterface 126 4, 11), (.ifCond .eq 23, 0), (.iconst (1), 0), (.goto 24, 0)],
  [(.iconst (0), 0), (.jsr 24, 0)],
  [(.ireturn, 1)],
  [(.iconst (1), 0), (.ireturn, 1)],
  [(.iconst (0), 0), (.istore 2, 0), (.jsr 27, 0)],
  [(.iload 2, 0), (.iconst (6), 0), (.if_icmp .ge 30, 0), (.aload 0, 0), (.aload 0, 0), (.checkcast 11, 24), (.iconst (0), 0), (.iload 2, 0), (.invokeinterface 126 4, 11), (.ifCond .eq 28, 0), (.aload 0, 0), (.dup, 0), (.getfield 11, 37), (.iconst (1), 0), (.iload 2, 0), (.ishl, 0), (.iconst (-1), 0), (.ixor, 0), (.iand, 0), (.putfield 11, 37), (.goto 29, 0)],
  [(.aload 0, 0), (.dup, 0), (.getfield 11, 36), (.iconst (1), 0), (.iload 2, 0), (.ishl, 0), (.iconst (-1), 0), (.ixor, 0), (.iand, 0), (.putfield 11, 36), (.jsr 29, 0)],
  [(.iinc 2 (1), 0), (.goto 27, 0)],
  [(.iconst (1), 0), (.ireturn, 1)]])
/-- DiceLawModel.facesNow()I -/
def me142 : ME := ((11, yX11_facesNow, prog_13_method_63_code), (3, 1, 1, 1), [0, 4, 30], [
  [(.iconst (0), 0), (.istore 1, 0), (.iconst (0), 0), (.istore 2, 0), (.jsr 1, 0)],
  [(.iload 2, 0), (.aload 0, 0), (.getfield 11, 20), (.if_icmp .ge 2, 0), (.iconst (6), 0), (.iload 1, 0), (.imul, 0), (.aload 0, 0), (.checkcast 11, 23), (.iload 2, 0), (.iaload, 0), (.iadd, 0), (.istore 1, 0), (.iinc 2 (1), 0), (.goto 1, 0)],
  [(.iload 1, 0), (.ireturn, 0)]])
/-- DiceLawModel.fall(IJ)V -/
def me143 : ME := ((11, yX11_fall, prog_13_method_64_code), (10, 0, 1, 3), [0, 12, 13, 31, 51, 70, 93, 116, 117, 158, 184, 259, 265], [
  [(.iload 1, 0), (.iconst (3), 0), (.if_icmp .ge 1, 0), (.aload 0, 0), (.invokeinterface 128 1, 11), (.goto 2, 0)],
  [(.iconst (-1), 0), (.jsr 2, 0)],
  [(.istore 4, 0), (.iload 4, 0), (.iconst (-1), 0), (.if_icmp .ne 8, 0), (.aload 0, 0), (.invokeinterface 123 1, 11), (.lload 2, 0), (.lstore 5, 0), (.iload 1, 0), (.istore 7, 0), (.jsr 3, 0)],
  [(.iload 7, 0), (.iconst (3), 0), (.if_icmp .ge 4, 0), (.lload 5, 0), (.sipush (12), 0), (.lmul, 0), (.lstore 5, 0), (.iinc 7 (1), 0), (.goto 3, 0)],
  [(.aload 0, 0), (.iload 1, 0), (.invokeinterface 141 2, 11), (.ifCond .eq 5, 0), (.aload 0, 0), (.dup, 0), (.getstatic 11, 38), (.lload 5, 0), (.ladd, 0), (.putstatic 11, 38), (.jsr 5, 0)],
  [(.aload 0, 0), (.getfield 11, 32), (.iconst (10), 0), (.if_icmp .ne 6, 0), (.aload 0, 0), (.checkcast 11, 39), (.aload 0, 0), (.invokeinterface 142 1, 11), (.dup2, 0), (.laload, 0), (.lload 5, 0), (.ladd, 0), (.lastore, 0), (.jsr 6, 0)],
  [(.aload 0, 0), (.getfield 11, 32), (.iconst (10), 0), (.if_icmp .ne 7, 0), (.aload 0, 0), (.dup, 0), (.getstatic 11, 40), (.lload 5, 0), (.iload 1, 0), (.i2l, 0), (.lmul, 0), (.ladd, 0), (.putstatic 11, 40), (.jsr 7, 0)],
  [(.return_, 0)],
  [(.aload 0, 0), (.iload 4, 0), (.invokeinterface 120 2, 11), (.iconst (40), 0), (.isub, 0), (.istore 5, 0), (.aload 0, 0), (.checkcast 11, 23), (.iload 5, 0), (.iaload, 0), (.istore 6, 0), (.aload 0, 0), (.checkcast 11, 25), (.iload 4, 0), (.baload, 0), (.istore 7, 0), (.aload 0, 0), (.checkcast 11, 25), (.iload 5, 0), (.baload, 0), (.istore 8, 0), (.iconst (0), 0), (.istore 9, 0), (.jsr 9, 0)],
  [(.iload 9, 0), (.iconst (6), 0), (.if_icmp .ge 12, 0), (.aload 0, 0), (.checkcast 11, 21), (.iconst (6), 0), (.iload 5, 0), (.imul, 0), (.iload 9, 0), (.iadd, 0), (.iaload, 0), (.ifCond .ne 10, 0), (.goto 11, 0)],
  [(.aload 0, 0), (.checkcast 11, 25), (.iload 4, 0), (.iconst (1), 0), (.bastore, 0), (.aload 0, 0), (.checkcast 11, 25), (.iload 5, 0), (.iconst (0), 0), (.bastore, 0), (.aload 0, 0), (.checkcast 11, 23), (.iload 5, 0), (.iload 9, 0), (.iastore, 0), (.aload 0, 0), (.iload 1, 0), (.iconst (1), 0), (.iadd, 0), (.lload 2, 0), (.aload 0, 0), (.checkcast 11, 21), (.iconst (6), 0), (.iload 5, 0), (.imul, 0), (.iload 9, 0), (.iadd, 0), (.iaload, 0), (.i2l, 0), (.lmul, 0), (.invokeinterface 143 3, 11), (.aload 0, 0), (.checkcast 11, 23), (.iload 5, 0), (.iload 6, 0), (.iastore, 0), (.aload 0, 0), (.checkcast 11, 25), (.iload 5, 0), (.iload 8, 0), (.bastore, 0), (.aload 0, 0), (.checkcast 11, 25), (.iload 4, 0), (.iload 7, 0), (.bastore, 0), (.jsr 11, 0)],
  [(.iinc 9 (1), 0), (.goto 9, 0)],
  [(.return_, 0)]])
/-- DiceLawModel.throwAll(IJ)V -/
def me144 : ME := ((11, yX11_throwAll, prog_13_method_65_code), (5, 0, 1, 3), [0, 15, 18, 43, 80, 86], [
  [(.iload 1, 0), (.aload 0, 0), (.getfield 11, 20), (.if_icmp .ne 1, 0), (.aload 0, 0), (.iconst (0), 0), (.lload 2, 0), (.invokeinterface 143 3, 11), (.return_, 0)],
  [(.iconst (0), 0), (.istore 4, 0), (.jsr 2, 0)],
  [(.iload 4, 0), (.iconst (6), 0), (.if_icmp .ge 5, 0), (.aload 0, 0), (.checkcast 11, 21), (.iconst (6), 0), (.iload 1, 0), (.imul, 0), (.iload 4, 0), (.iadd, 0), (.iaload, 0), (.ifCond .ne 3, 0), (.goto 4, 0)],
  [(.aload 0, 0), (.checkcast 11, 23), (.iload 1, 0), (.iload 4, 0), (.iastore, 0), (.aload 0, 0), (.checkcast 11, 25), (.iload 1, 0), (.iconst (0), 0), (.bastore, 0), (.aload 0, 0), (.iload 1, 0), (.iconst (1), 0), (.iadd, 0), (.lload 2, 0), (.aload 0, 0), (.checkcast 11, 21), (.iconst (6), 0), (.iload 1, 0), (.imul, 0), (.iload 4, 0), (.iadd, 0), (.iaload, 0), (.i2l, 0), (.lmul, 0), (.invokeinterface 144 3, 11), (.jsr 4, 0)],
  [(.iinc 4 (1), 0), (.goto 2, 0)],
  [(.return_, 0)]])
/-- DiceLawModel.tallyOf(III)J -/
def me145 : ME := ((11, yX11_tallyOf, prog_13_method_66_code), (4, 3, 1, 4), [0], [
  [(.aload 0, 0), (.iload 1, 0), (.putfield 11, 32), (.aload 0, 0), (.iload 2, 0), (.putfield 11, 33), (.aload 0, 0), (.iload 3, 0), (.putfield 11, 34), (.aload 0, 0), (.sipush (0), 0), (.putstatic 11, 38), (.aload 0, 0), (.iconst (0), 0), (.sipush (1), 0), (.invokeinterface 144 3, 11), (.aload 0, 0), (.getstatic 11, 38), (.lreturn, 0)]])
/-- DiceLawModel.whole()J -/
def me146 : ME := ((11, yX11_whole, prog_13_method_67_code), (4, 3, 1, 1), [0, 4, 26], [
  [(.sipush (1), 0), (.lstore 1, 0), (.iconst (0), 0), (.istore 3, 0), (.jsr 1, 0)],
  [(.iload 3, 0), (.aload 0, 0), (.getfield 11, 20), (.iconst (3), 0), (.iadd, 0), (.if_icmp .ge 2, 0), (.lload 1, 0), (.sipush (12), 0), (.lmul, 0), (.lstore 1, 0), (.iinc 3 (1), 0), (.goto 1, 0)],
  [(.lload 1, 0), (.lreturn, 0)]])
/-- DiceLawModel.partOf(JI)J -/
def me147 : ME := ((11, yX11_partOf, prog_13_method_68_code), (4, 3, 1, 3), [0], [
  [(.lload 1, 0), (.aload 0, 0), (.invokeinterface 146 1, 11), (.iload 3, 0), (.invokestatic 148, 3), (.lreturn, 0)]])
/-- DiceLawModel.partBy(JJI)J -/
def me148 : ME := ((11, yX11_partBy, prog_13_method_69_code), (11, 3, 0, 3), [0, 6, 31, 43, 47], [
  [(.lload 0, 0), (.lstore 5, 0), (.lload 2, 0), (.lstore 7, 0), (.jsr 1, 0)],
  [(.lload 7, 0), (.sipush (0), 0), (.lcmp, 0), (.ifCond .eq 2, 0), (.lload 5, 0), (.lload 7, 0), (.lrem, 0), (.lstore 9, 0), (.lload 7, 0), (.lstore 5, 0), (.lload 9, 0), (.lstore 7, 0), (.goto 1, 0)],
  [(.iload 4, 0), (.ifCond .ne 3, 0), (.lload 0, 0), (.lload 5, 0), (.ldiv, 0), (.goto 4, 0)],
  [(.lload 2, 0), (.lload 5, 0), (.ldiv, 0), (.jsr 4, 0)],
  [(.lreturn, 0)]])
/-- DiceLawModel.isPart(I)Z -/
def me149 : ME := ((11, yX11_isPart, prog_13_method_70_code), (2, 2, 1, 2), [0, 21, 22], [
  [(.aload 0, 0), (.getfield 11, 20), (.ifCond .le 1, 0), (.iload 1, 0), (.i2l, 0), (.sipush (0), 0), (.sipush (1), 0), (.invokestatic 82, 3), (.ifCond .eq 1, 0), (.iconst (1), 0), (.goto 2, 0)],
  [(.iconst (0), 0), (.jsr 2, 0)],
  [(.ireturn, 1)]])
/-- DiceLawModel.odds(III)J -/
def me150 : ME := ((11, yX11_odds, prog_13_method_71_code), (4, 3, 1, 4), [0, 47, 50], [
  [(.aload 0, 0), (.iconst (0), 0), (.putfield 11, 0), (.aload 0, 0), (.iload 3, 0), (.invokeinterface 149 2, 11), (.ifCond .eq 1, 0), (.iload 1, 0), (.invokestatic 111, 1), (.ifCond .eq 1, 0), (.iload 2, 0), (.i2l, 0), (.sipush (0), 0), (.sipush (2), 0), (.invokestatic 82, 3), (.ifCond .eq 1, 0), (.aload 0, 0), (.aload 0, 0), (.iload 2, 0), (.iload 1, 0), (.iconst (0), 0), (.invokeinterface 145 4, 11), (.iload 3, 0), (.invokeinterface 147 3, 11), (.goto 2, 0)],
  [(.sipush (-1), 0), (.jsr 2, 0)],
  [(.lreturn, 0)]])
/-- DiceLawModel.both(III)J -/
def me151 : ME := ((11, yX11_both, prog_13_method_72_code), (4, 3, 1, 4), [0, 47, 50], [
  [(.aload 0, 0), (.iconst (0), 0), (.putfield 11, 0), (.aload 0, 0), (.iload 3, 0), (.invokeinterface 149 2, 11), (.ifCond .eq 1, 0), (.iload 1, 0), (.invokestatic 111, 1), (.ifCond .eq 1, 0), (.iload 2, 0), (.invokestatic 111, 1), (.ifCond .eq 1, 0), (.iload 1, 0), (.iload 2, 0), (.if_icmp .eq 1, 0), (.aload 0, 0), (.aload 0, 0), (.iconst (3), 0), (.iload 1, 0), (.iload 2, 0), (.invokeinterface 145 4, 11), (.iload 3, 0), (.invokeinterface 147 3, 11), (.goto 2, 0)],
  [(.sipush (-1), 0), (.jsr 2, 0)],
  [(.lreturn, 0)]])
/-- DiceLawModel.free(I)J -/
def me152 : ME := ((11, yX11_free, prog_13_method_73_code), (2, 3, 1, 2), [0, 28, 31], [
  [(.aload 0, 0), (.iconst (0), 0), (.putfield 11, 0), (.aload 0, 0), (.iload 1, 0), (.invokeinterface 149 2, 11), (.ifCond .eq 1, 0), (.aload 0, 0), (.aload 0, 0), (.iconst (4), 0), (.iconst (0), 0), (.iconst (0), 0), (.invokeinterface 145 4, 11), (.iload 1, 0), (.invokeinterface 147 3, 11), (.goto 2, 0)],
  [(.sipush (-1), 0), (.jsr 2, 0)],
  [(.lreturn, 0)]])
/-- DiceLawModel.holds(III)J -/
def me153 : ME := ((11, yX11_holds, prog_13_method_74_code), (4, 3, 1, 4), [0, 38, 42], [
  [(.aload 0, 0), (.iconst (0), 0), (.putfield 11, 0), (.aload 0, 0), (.iload 3, 0), (.invokeinterface 149 2, 11), (.ifCond .eq 1, 0), (.aload 0, 0), (.iload 1, 0), (.invokeinterface 109 2, 11), (.ifCond .eq 1, 0), (.iload 2, 0), (.ifCond .lt 1, 0), (.iload 2, 0), (.iconst (40), 0), (.if_icmp .ge 1, 0), (.iload 2, 0), (.invokestatic 112, 1), (.ifCond .ne 2, 0), (.jsr 1, 0)],
  [(.sipush (-1), 0), (.lreturn, 0)],
  [(.aload 0, 0), (.aload 0, 0), (.iconst (5), 0), (.iload 1, 0), (.iload 2, 0), (.invokeinterface 145 4, 11), (.iload 3, 0), (.invokeinterface 147 3, 11), (.lreturn, 0)]])
/-- DiceLawModel.again(II)J -/
def me154 : ME := ((11, yX11_again, prog_13_method_75_code), (3, 3, 1, 3), [0, 41, 44], [
  [(.aload 0, 0), (.iconst (0), 0), (.putfield 11, 0), (.aload 0, 0), (.iload 2, 0), (.invokeinterface 149 2, 11), (.ifCond .eq 1, 0), (.iload 1, 0), (.i2l, 0), (.sipush (0), 0), (.sipush (3), 0), (.invokestatic 82, 3), (.ifCond .eq 1, 0), (.aload 0, 0), (.aload 0, 0), (.iconst (6), 0), (.iload 1, 0), (.iconst (0), 0), (.invokeinterface 145 4, 11), (.iload 2, 0), (.invokeinterface 147 3, 11), (.goto 2, 0)],
  [(.sipush (-1), 0), (.jsr 2, 0)],
  [(.lreturn, 0)]])
/-- DiceLawModel.sure(I)I -/
def me155 : ME := ((11, yX11_sure, prog_13_method_76_code), (4, 1, 1, 2), [0, 22, 24, 58, 62], [
  [(.aload 0, 0), (.iconst (0), 0), (.putfield 11, 0), (.aload 0, 0), (.getfield 11, 20), (.ifCond .eq 1, 0), (.iload 1, 0), (.i2l, 0), (.sipush (0), 0), (.sipush (1), 0), (.invokestatic 82, 3), (.ifCond .ne 2, 0), (.jsr 1, 0)],
  [(.iconst (-1), 0), (.ireturn, 0)],
  [(.aload 0, 0), (.iconst (63), 0), (.putfield 11, 36), (.aload 0, 0), (.aload 0, 0), (.getfield 11, 36), (.putfield 11, 37), (.aload 0, 0), (.iconst (7), 0), (.iconst (0), 0), (.iconst (0), 0), (.invokeinterface 145 4, 11), (.lstore 2, 0), (.iload 1, 0), (.ifCond .ne 3, 0), (.aload 0, 0), (.getfield 11, 36), (.goto 4, 0)],
  [(.aload 0, 0), (.getfield 11, 37), (.jsr 4, 0)],
  [(.ireturn, 0)]])
/-- DiceLawModel.isWait(II)Z -/
def me156 : ME := ((11, yX11_isWait, prog_13_method_77_code), (3, 2, 1, 3), [0, 30, 31], [
  [(.aload 0, 0), (.getfield 11, 20), (.ifCond .le 1, 0), (.iload 1, 0), (.invokestatic 111, 1), (.ifCond .eq 1, 0), (.iload 2, 0), (.i2l, 0), (.sipush (1), 0), (.sipush (60), 0), (.invokestatic 82, 3), (.ifCond .eq 1, 0), (.iconst (1), 0), (.goto 2, 0)],
  [(.iconst (0), 0), (.jsr 2, 0)],
  [(.ireturn, 1)]])
/-- DiceLawModel.waits(II)I -/
def me157 : ME := ((11, yX11_waits, prog_13_method_78_code), (8, 1, 1, 3), [0, 16, 32, 58], [
  [(.aload 0, 0), (.iconst (0), 0), (.putfield 11, 0), (.aload 0, 0), (.iload 1, 0), (.iload 2, 0), (.invokeinterface 156 3, 11), (.ifCond .ne 1, 0), (.iconst (-1), 0), (.ireturn, 0)],
  [(.aload 0, 0), (.iconst (0), 0), (.iload 1, 0), (.iconst (0), 0), (.invokeinterface 145 4, 11), (.lstore 3, 0), (.sipush (1000000000), 0), (.lstore 5, 0), (.iconst (0), 0), (.istore 7, 0), (.jsr 2, 0)],
  [(.iload 7, 0), (.iload 2, 0), (.if_icmp .ge 3, 0), (.lload 5, 0), (.lload 5, 0), (.lload 3, 0), (.lmul, 0), (.aload 0, 0), (.invokeinterface 146 1, 11), (.ldiv, 0), (.lsub, 0), (.lstore 5, 0), (.iinc 7 (1), 0), (.goto 2, 0)],
  [(.sipush (1000000000), 0), (.lload 5, 0), (.lsub, 0), (.l2i, 0), (.ireturn, 0)]])
/-- DiceLawModel.value(IIII)J -/
def me158 : ME := ((11, yX11_value, prog_13_method_79_code), (14, 3, 1, 5), [0, 39, 43, 63, 110], [
  [(.aload 0, 0), (.iconst (0), 0), (.putfield 11, 0), (.aload 0, 0), (.iload 1, 0), (.iload 2, 0), (.invokeinterface 156 3, 11), (.ifCond .eq 1, 0), (.iload 3, 0), (.i2l, 0), (.sipush (0), 0), (.sipush (999), 0), (.invokestatic 82, 3), (.ifCond .eq 1, 0), (.iload 4, 0), (.i2l, 0), (.sipush (0), 0), (.sipush (99), 0), (.invokestatic 82, 3), (.ifCond .ne 2, 0), (.jsr 1, 0)],
  [(.sipush (-1000000000), 0), (.lreturn, 0)],
  [(.aload 0, 0), (.iconst (0), 0), (.iload 1, 0), (.iconst (0), 0), (.invokeinterface 145 4, 11), (.lstore 5, 0), (.sipush (1000000000), 0), (.lstore 7, 0), (.sipush (0), 0), (.lstore 9, 0), (.iconst (0), 0), (.istore 11, 0), (.jsr 3, 0)],
  [(.iload 11, 0), (.iload 2, 0), (.if_icmp .ge 4, 0), (.lload 7, 0), (.lload 5, 0), (.lmul, 0), (.aload 0, 0), (.invokeinterface 146 1, 11), (.ldiv, 0), (.lstore 12, 0), (.lload 9, 0), (.lload 12, 0), (.iload 3, 0), (.iload 4, 0), (.iload 11, 0), (.imul, 0), (.isub, 0), (.i2l, 0), (.lmul, 0), (.ladd, 0), (.lstore 9, 0), (.lload 7, 0), (.lload 12, 0), (.lsub, 0), (.lstore 7, 0), (.iinc 11 (1), 0), (.goto 3, 0)],
  [(.lload 9, 0), (.lload 7, 0), (.iload 4, 0), (.i2l, 0), (.lmul, 0), (.iload 2, 0), (.i2l, 0), (.lmul, 0), (.lsub, 0), (.lstore 9, 0), (.lload 9, 0), (.sipush (1000000), 0), (.ldiv, 0), (.lreturn, 0)]])
/-- DiceLawModel.did(III)Z -/
def me159 : ME := ((11, yX11_did, prog_13_method_80_code), (5, 2, 1, 4), [0, 3, 47, 53], [
  [(.iconst (0), 0), (.istore 4, 0), (.jsr 1, 0)],
  [(.iload 4, 0), (.aload 0, 0), (.getfield 11, 44), (.if_icmp .ge 3, 0), (.aload 0, 0), (.checkcast 11, 41), (.iload 4, 0), (.iaload, 0), (.iload 1, 0), (.if_icmp .ne 2, 0), (.aload 0, 0), (.checkcast 11, 42), (.iload 4, 0), (.iaload, 0), (.iload 2, 0), (.if_icmp .ne 2, 0), (.aload 0, 0), (.checkcast 11, 43), (.iload 4, 0), (.iaload, 0), (.iload 3, 0), (.if_icmp .ne 2, 0), (.iconst (1), 0), (.ireturn, 1)],
  [(.iinc 4 (1), 0), (.goto 1, 0)],
  [(.iconst (0), 0), (.ireturn, 1)]])
/-- DiceLawModel.isPerson(I)Z -/
def me160 : ME := ((11, yX11_isPerson, prog_13_method_81_code), (1, 2, 0, 1), [0], [
  [(.iload 0, 0), (.i2l, 0), (.sipush (0), 0), (.sipush (5), 0), (.invokestatic 82, 3), (.ireturn, 1)]])
/-- DiceLawModel.act(III)I -/
def me161 : ME := ((11, yX11_act, prog_13_method_82_code), (4, 1, 1, 4), [0, 46, 48], [
  [(.aload 0, 0), (.iconst (0), 0), (.putfield 11, 0), (.aload 0, 0), (.getfield 11, 44), (.iconst (60), 0), (.if_icmp .eq 1, 0), (.iload 1, 0), (.invokestatic 160, 1), (.ifCond .eq 1, 0), (.iload 2, 0), (.invokestatic 111, 1), (.ifCond .eq 1, 0), (.aload 0, 0), (.iload 3, 0), (.invokeinterface 135 2, 11), (.ifCond .eq 1, 0), (.aload 0, 0), (.iload 1, 0), (.iload 2, 0), (.iload 3, 0), (.invokeinterface 159 4, 11), (.ifCond .eq 2, 0), (.jsr 1, 0)],
  [(.iconst (-1), 0), (.ireturn, 0)],
  [(.aload 0, 0), (.checkcast 11, 41), (.aload 0, 0), (.getfield 11, 44), (.iload 1, 0), (.iastore, 0), (.aload 0, 0), (.checkcast 11, 42), (.aload 0, 0), (.getfield 11, 44), (.iload 2, 0), (.iastore, 0), (.aload 0, 0), (.checkcast 11, 43), (.aload 0, 0), (.getfield 11, 44), (.iload 3, 0), (.iastore, 0), (.aload 0, 0), (.dup, 0), (.getfield 11, 44), (.iconst (1), 0), (.iadd, 0), (.putfield 11, 44), (.aload 0, 0), (.getfield 11, 44), (.ireturn, 0)]])
/-- DiceLawModel.suit(II)I -/
def me162 : ME := ((11, yX11_suit, prog_13_method_83_code), (7, 1, 1, 3), [0, 17, 19, 24, 36, 73, 87, 111, 112, 114, 117, 123, 129, 138, 139], [
  [(.aload 0, 0), (.iconst (0), 0), (.putfield 11, 0), (.iload 1, 0), (.invokestatic 160, 1), (.ifCond .eq 1, 0), (.iload 2, 0), (.iconst (-1), 0), (.if_icmp .ge 2, 0), (.jsr 1, 0)],
  [(.iconst (-1), 0), (.ireturn, 0)],
  [(.iconst (0), 0), (.istore 3, 0), (.iconst (0), 0), (.istore 4, 0), (.jsr 3, 0)],
  [(.iload 4, 0), (.aload 0, 0), (.getfield 11, 30), (.if_icmp .ge 12, 0), (.iconst (0), 0), (.istore 5, 0), (.jsr 4, 0)],
  [(.iload 5, 0), (.iconst (6), 0), (.if_icmp .ge 11, 0), (.aload 0, 0), (.iload 1, 0), (.iload 5, 0), (.iload 4, 0), (.invokeinterface 159 4, 11), (.istore 6, 0), (.iload 6, 0), (.ifCond .eq 5, 0), (.aload 0, 0), (.iload 5, 0), (.iload 4, 0), (.invokeinterface 138 3, 11), (.ifCond .eq 6, 0), (.goto 10, 0)],
  [(.aload 0, 0), (.iload 5, 0), (.iload 4, 0), (.invokeinterface 139 3, 11), (.ifCond .ne 6, 0), (.goto 10, 0)],
  [(.iload 3, 0), (.iload 2, 0), (.if_icmp .ne 9, 0), (.iconst (12), 0), (.iload 4, 0), (.imul, 0), (.iconst (2), 0), (.iload 5, 0), (.imul, 0), (.iadd, 0), (.iload 6, 0), (.ifCond .eq 7, 0), (.iconst (0), 0), (.goto 8, 0)],
  [(.iconst (1), 0), (.jsr 8, 0)],
  [(.iadd, 0), (.ireturn, 0)],
  [(.iinc 3 (1), 0), (.jsr 10, 0)],
  [(.iinc 5 (1), 0), (.goto 4, 0)],
  [(.iinc 4 (1), 0), (.goto 3, 0)],
  [(.iload 2, 0), (.iconst (-1), 0), (.if_icmp .ne 13, 0), (.iload 3, 0), (.goto 14, 0)],
  [(.iconst (-1), 0), (.jsr 14, 0)],
  [(.ireturn, 0)]])
/-- DiceLawModel.isNamed(III)Z -/
def me163 : ME := ((11, yX11_isNamed, prog_13_method_84_code), (9, 2, 1, 4), [0, 15, 60, 72, 73], [
  [(.sipush (1), 0), (.lstore 4, 0), (.iload 3, 0), (.i2l, 0), (.lstore 6, 0), (.aload 0, 0), (.getfield 11, 30), (.iload 2, 0), (.isub, 0), (.istore 8, 0), (.jsr 1, 0)],
  [(.iload 8, 0), (.aload 0, 0), (.getfield 11, 30), (.if_icmp .ge 2, 0), (.lload 4, 0), (.aload 0, 0), (.checkcast 11, 22), (.aload 0, 0), (.checkcast 11, 27), (.iconst (5), 0), (.iload 8, 0), (.imul, 0), (.iload 1, 0), (.iadd, 0), (.iaload, 0), (.iaload, 0), (.i2l, 0), (.lmul, 0), (.lstore 4, 0), (.lload 6, 0), (.sipush (2), 0), (.lmul, 0), (.lstore 6, 0), (.iinc 8 (1), 0), (.goto 1, 0)],
  [(.lload 4, 0), (.lload 6, 0), (.lcmp, 0), (.ifCond .lt 3, 0), (.iconst (1), 0), (.goto 4, 0)],
  [(.iconst (0), 0), (.jsr 4, 0)],
  [(.ireturn, 1)]])
/-- DiceLawModel.isDoubt(II)Z -/
def me164 : ME := ((11, yX11_isDoubt, prog_13_method_85_code), (3, 2, 1, 3), [0, 24, 25], [
  [(.aload 0, 0), (.iload 1, 0), (.invokeinterface 109 2, 11), (.ifCond .eq 1, 0), (.iload 2, 0), (.i2l, 0), (.sipush (1), 0), (.sipush (1000), 0), (.invokestatic 82, 3), (.ifCond .eq 1, 0), (.iconst (1), 0), (.goto 2, 0)],
  [(.iconst (0), 0), (.jsr 2, 0)],
  [(.ireturn, 1)]])
/-- DiceLawModel.named(III)I -/
def me165 : ME := ((11, yX11_named, prog_13_method_86_code), (4, 1, 1, 4), [0, 33, 37, 51, 52], [
  [(.aload 0, 0), (.iconst (0), 0), (.putfield 11, 0), (.aload 0, 0), (.iload 1, 0), (.iload 3, 0), (.invokeinterface 164 3, 11), (.ifCond .eq 1, 0), (.iload 2, 0), (.i2l, 0), (.sipush (1), 0), (.iconst (15), 0), (.aload 0, 0), (.getfield 11, 30), (.invokestatic 278, 2), (.i2l, 0), (.invokestatic 82, 3), (.ifCond .ne 2, 0), (.jsr 1, 0)],
  [(.iconst (-1), 0), (.goto 4, 0)],
  [(.aload 0, 0), (.iload 1, 0), (.iload 2, 0), (.iload 3, 0), (.invokeinterface 163 4, 11), (.ifCond .eq 3, 0), (.iconst (1), 0), (.goto 4, 0)],
  [(.iconst (0), 0), (.jsr 4, 0)],
  [(.ireturn, 0)]])
/-- DiceLawModel.enough(II)I -/
def me166 : ME := ((11, yX11_enough, prog_13_method_87_code), (4, 1, 1, 3), [0, 16, 18, 43, 49], [
  [(.aload 0, 0), (.iconst (0), 0), (.putfield 11, 0), (.aload 0, 0), (.iload 1, 0), (.iload 2, 0), (.invokeinterface 164 3, 11), (.ifCond .ne 1, 0), (.iconst (-1), 0), (.ireturn, 0)],
  [(.iconst (1), 0), (.istore 3, 0), (.jsr 2, 0)],
  [(.iload 3, 0), (.iconst (15), 0), (.aload 0, 0), (.getfield 11, 30), (.invokestatic 278, 2), (.if_icmp .gt 4, 0), (.aload 0, 0), (.iload 1, 0), (.iload 3, 0), (.iload 2, 0), (.invokeinterface 163 4, 11), (.ifCond .eq 3, 0), (.iload 3, 0), (.ireturn, 0)],
  [(.iinc 3 (1), 0), (.goto 2, 0)],
  [(.iconst (-1), 0), (.ireturn, 0)]])
/-- DiceLawModel.amendedBy(IIIIJ)J -/
def me167 : ME := ((11, yX11_amendedBy, prog_13_method_88_code), (10, 3, 1, 6), [0], [
  [(.aload 0, 0), (.checkcast 11, 18), (.iconst (6), 0), (.iload 1, 0), (.imul, 0), (.iload 2, 0), (.iadd, 0), (.iaload, 0), (.istore 7, 0), (.aload 0, 0), (.checkcast 11, 18), (.iconst (6), 0), (.iload 1, 0), (.imul, 0), (.iload 2, 0), (.iadd, 0), (.iload 3, 0), (.iastore, 0), (.aload 0, 0), (.iconst (0), 0), (.iload 4, 0), (.iconst (0), 0), (.invokeinterface 145 4, 11), (.lload 5, 0), (.lsub, 0), (.lstore 8, 0), (.aload 0, 0), (.checkcast 11, 18), (.iconst (6), 0), (.iload 1, 0), (.imul, 0), (.iload 2, 0), (.iadd, 0), (.iload 7, 0), (.iastore, 0), (.lload 8, 0), (.lreturn, 0)]])
/-- DiceLawModel.amended(IIII)J -/
def me168 : ME := ((11, yX11_amended, prog_13_method_89_code), (5, 3, 1, 5), [0, 39, 43], [
  [(.aload 0, 0), (.iconst (0), 0), (.putfield 11, 0), (.aload 0, 0), (.iload 1, 0), (.invokeinterface 109 2, 11), (.ifCond .eq 1, 0), (.iload 2, 0), (.invokestatic 110, 1), (.ifCond .eq 1, 0), (.iload 3, 0), (.ifCond .lt 1, 0), (.iload 3, 0), (.invokestatic 112, 1), (.ifCond .eq 1, 0), (.iload 4, 0), (.invokestatic 111, 1), (.ifCond .ne 2, 0), (.jsr 1, 0)],
  [(.sipush (-1000000000), 0), (.lreturn, 0)],
  [(.aload 0, 0), (.iload 1, 0), (.iload 2, 0), (.iload 3, 0), (.iload 4, 0), (.aload 0, 0), (.iconst (0), 0), (.iload 4, 0), (.iconst (0), 0), (.invokeinterface 145 4, 11), (.invokeinterface 167 6, 11), (.lreturn, 0)]])
/-- DiceLawModel.help(II)J -/
def me169 : ME := ((11, yX11_help, prog_13_method_90_code), (14, 3, 1, 3), [0, 29, 33, 50, 62, 72, 88, 92, 125, 146, 152, 158, 164, 174, 176], [
  [(.aload 0, 0), (.iconst (0), 0), (.putfield 11, 0), (.aload 0, 0), (.getfield 11, 20), (.ifCond .eq 1, 0), (.iload 1, 0), (.invokestatic 111, 1), (.ifCond .eq 1, 0), (.iload 2, 0), (.i2l, 0), (.sipush (0), 0), (.sipush (1), 0), (.invokestatic 82, 3), (.ifCond .ne 2, 0), (.jsr 1, 0)],
  [(.sipush (-1000000000), 0), (.lreturn, 0)],
  [(.aload 0, 0), (.iconst (0), 0), (.iload 1, 0), (.iconst (0), 0), (.invokeinterface 145 4, 11), (.lstore 3, 0), (.iconst (-1), 0), (.istore 5, 0), (.sipush (0), 0), (.lstore 6, 0), (.iconst (0), 0), (.istore 8, 0), (.jsr 3, 0)],
  [(.iload 8, 0), (.aload 0, 0), (.getfield 11, 20), (.if_icmp .ge 12, 0), (.iconst (0), 0), (.istore 9, 0), (.jsr 4, 0)],
  [(.iload 9, 0), (.iconst (6), 0), (.if_icmp .ge 11, 0), (.iconst (0), 0), (.istore 10, 0), (.jsr 5, 0)],
  [(.iload 10, 0), (.iconst (30), 0), (.if_icmp .gt 10, 0), (.iload 10, 0), (.ifCond .ne 6, 0), (.iconst (0), 0), (.goto 7, 0)],
  [(.iload 10, 0), (.iload 1, 0), (.iadd, 0), (.jsr 7, 0)],
  [(.istore 11, 0), (.aload 0, 0), (.iload 8, 0), (.iload 9, 0), (.iload 11, 0), (.iload 1, 0), (.lload 3, 0), (.invokeinterface 167 6, 11), (.lstore 12, 0), (.iload 5, 0), (.iconst (-1), 0), (.if_icmp .eq 8, 0), (.lload 12, 0), (.lload 6, 0), (.lcmp, 0), (.ifCond .gt 8, 0), (.goto 9, 0)],
  [(.iconst (1000), 0), (.iload 8, 0), (.imul, 0), (.iconst (100), 0), (.iload 9, 0), (.imul, 0), (.iadd, 0), (.iload 11, 0), (.iadd, 0), (.istore 5, 0), (.lload 12, 0), (.lstore 6, 0), (.jsr 9, 0)],
  [(.iinc 10 (10), 0), (.goto 5, 0)],
  [(.iinc 9 (1), 0), (.goto 4, 0)],
  [(.iinc 8 (1), 0), (.goto 3, 0)],
  [(.iload 2, 0), (.ifCond .ne 13, 0), (.iload 5, 0), (.i2l, 0), (.goto 14, 0)],
  [(.lload 6, 0), (.jsr 14, 0)],
  [(.lreturn, 0)]])
/-- DiceLawModel.follow(III)I -/
def me170 : ME := ((11, yX11_follow, prog_13_method_91_code), (9, 1, 1, 4), [0, 40, 42, 57, 86, 87, 108, 109, 173, 178, 232, 233, 243, 259, 260, 263, 269, 278, 288, 290], [
  [(.aload 0, 0), (.iconst (0), 0), (.putfield 11, 0), (.iload 1, 0), (.i2l, 0), (.sipush (0), 0), (.aload 0, 0), (.getfield 11, 7), (.iconst (1), 0), (.isub, 0), (.i2l, 0), (.invokestatic 82, 3), (.ifCond .eq 1, 0), (.iload 2, 0), (.invokestatic 111, 1), (.ifCond .eq 1, 0), (.iload 3, 0), (.i2l, 0), (.sipush (0), 0), (.sipush (2), 0), (.invokestatic 82, 3), (.ifCond .ne 2, 0), (.jsr 1, 0)],
  [(.iconst (-1), 0), (.ireturn, 0)],
  [(.iconst (0), 0), (.istore 4, 0), (.iconst (0), 0), (.istore 5, 0), (.iconst (0), 0), (.istore 6, 0), (.iconst (-1), 0), (.istore 7, 0), (.iconst (0), 0), (.istore 8, 0), (.jsr 3, 0)],
  [(.iload 8, 0), (.aload 0, 0), (.getfield 11, 30), (.if_icmp .ge 16, 0), (.aload 0, 0), (.checkcast 11, 4), (.iconst (108), 0), (.aload 0, 0), (.iload 2, 0), (.iload 8, 0), (.invokeinterface 138 3, 11), (.ifCond .eq 4, 0), (.iconst (1), 0), (.goto 5, 0)],
  [(.iconst (0), 0), (.jsr 5, 0)],
  [(.iastore, 0), (.aload 0, 0), (.checkcast 11, 4), (.iconst (100), 0), (.aload 0, 0), (.iload 2, 0), (.iload 8, 0), (.invokeinterface 139 3, 11), (.ifCond .eq 6, 0), (.iconst (1), 0), (.goto 7, 0)],
  [(.iconst (0), 0), (.jsr 7, 0)],
  [(.iastore, 0), (.aload 0, 0), (.checkcast 11, 4), (.iconst (109), 0), (.aload 0, 0), (.aload 0, 0), (.checkcast 11, 26), (.iconst (5), 0), (.iload 8, 0), (.imul, 0), (.iconst (10), 0), (.iload 2, 0), (.iadd, 0), (.invokeinterface 125 4, 11), (.iastore, 0), (.aload 0, 0), (.checkcast 11, 4), (.iconst (110), 0), (.aload 0, 0), (.aload 0, 0), (.checkcast 11, 26), (.iconst (5), 0), (.iload 8, 0), (.imul, 0), (.iconst (20), 0), (.iload 2, 0), (.iadd, 0), (.invokeinterface 125 4, 11), (.iastore, 0), (.aload 0, 0), (.checkcast 11, 4), (.iconst (119), 0), (.iload 7, 0), (.iconst (-1), 0), (.if_icmp .ne 8, 0), (.iload 8, 0), (.goto 9, 0)],
  [(.iload 8, 0), (.iload 7, 0), (.isub, 0), (.jsr 9, 0)],
  [(.iastore, 0), (.aload 0, 0), (.checkcast 11, 4), (.iconst (116), 0), (.iload 8, 0), (.iastore, 0), (.aload 0, 0), (.aload 0, 0), (.checkcast 11, 2), (.iconst (120), 0), (.iload 1, 0), (.imul, 0), (.aload 0, 0), (.checkcast 11, 3), (.iload 1, 0), (.iaload, 0), (.invokeinterface 104 4, 11), (.aload 0, 0), (.getfield 11, 14), (.ifCond .le 12, 0), (.iinc 4 (1), 0), (.iload 5, 0), (.aload 0, 0), (.iload 2, 0), (.iload 8, 0), (.invokeinterface 138 3, 11), (.ifCond .eq 10, 0), (.iconst (0), 0), (.goto 11, 0)],
  [(.iconst (1), 0), (.jsr 11, 0)],
  [(.iadd, 0), (.istore 5, 0), (.iload 8, 0), (.istore 7, 0), (.goto 15, 0)],
  [(.iload 6, 0), (.aload 0, 0), (.iload 2, 0), (.iload 8, 0), (.invokeinterface 139 3, 11), (.ifCond .eq 13, 0), (.iconst (1), 0), (.goto 14, 0)],
  [(.iconst (0), 0), (.jsr 14, 0)],
  [(.iadd, 0), (.istore 6, 0), (.jsr 15, 0)],
  [(.iinc 8 (1), 0), (.goto 3, 0)],
  [(.iload 3, 0), (.ifCond .ne 17, 0), (.iload 4, 0), (.goto 19, 0)],
  [(.iload 3, 0), (.iconst (1), 0), (.if_icmp .ne 18, 0), (.iload 5, 0), (.goto 19, 0)],
  [(.iload 6, 0), (.jsr 19, 0)],
  [(.ireturn, 0)]])
/-- DiceLawModel.lawfulGiven(III)J -/
def me171 : ME := ((11, yX11_lawfulGiven, prog_13_method_92_code), (4, 3, 1, 4), [0], [
  [(.aload 0, 0), (.iload 3, 0), (.putfield 11, 35), (.aload 0, 0), (.iconst (9), 0), (.iload 1, 0), (.iload 2, 0), (.invokeinterface 145 4, 11), (.lreturn, 0)]])
/-- DiceLawModel.given(IIII)J -/
def me172 : ME := ((11, yX11_given, prog_13_method_93_code), (7, 3, 1, 5), [0, 36, 40, 63, 77], [
  [(.aload 0, 0), (.iconst (0), 0), (.putfield 11, 0), (.aload 0, 0), (.iload 4, 0), (.invokeinterface 149 2, 11), (.ifCond .eq 1, 0), (.aload 0, 0), (.iload 1, 0), (.invokeinterface 109 2, 11), (.ifCond .eq 1, 0), (.iload 2, 0), (.invokestatic 110, 1), (.ifCond .eq 1, 0), (.iload 3, 0), (.invokestatic 111, 1), (.ifCond .ne 2, 0), (.jsr 1, 0)],
  [(.sipush (-1), 0), (.lreturn, 0)],
  [(.aload 0, 0), (.iconst (8), 0), (.iload 1, 0), (.iload 2, 0), (.invokeinterface 145 4, 11), (.lstore 5, 0), (.lload 5, 0), (.sipush (0), 0), (.lcmp, 0), (.ifCond .ne 3, 0), (.sipush (-1), 0), (.goto 4, 0)],
  [(.aload 0, 0), (.iload 1, 0), (.iload 2, 0), (.iload 3, 0), (.invokeinterface 171 4, 11), (.lload 5, 0), (.iload 4, 0), (.invokestatic 148, 3), (.jsr 4, 0)],
  [(.lreturn, 0)]])
/-- DiceLawModel.harm(I)I -/
def me173 : ME := ((11, yX11_harm, prog_13_method_94_code), (13, 1, 1, 2), [0, 19, 21, 31, 43, 72, 104, 120, 126, 132], [
  [(.aload 0, 0), (.iconst (0), 0), (.putfield 11, 0), (.aload 0, 0), (.getfield 11, 20), (.ifCond .eq 1, 0), (.iload 1, 0), (.invokestatic 111, 1), (.ifCond .ne 2, 0), (.jsr 1, 0)],
  [(.iconst (-1), 0), (.ireturn, 0)],
  [(.iconst (-1), 0), (.istore 2, 0), (.sipush (0), 0), (.lstore 3, 0), (.sipush (1), 0), (.lstore 5, 0), (.iconst (0), 0), (.istore 7, 0), (.jsr 3, 0)],
  [(.iload 7, 0), (.aload 0, 0), (.getfield 11, 20), (.if_icmp .ge 9, 0), (.iconst (0), 0), (.istore 8, 0), (.jsr 4, 0)],
  [(.iload 8, 0), (.iconst (6), 0), (.if_icmp .ge 8, 0), (.aload 0, 0), (.iconst (8), 0), (.iload 7, 0), (.iload 8, 0), (.invokeinterface 145 4, 11), (.lstore 9, 0), (.lload 9, 0), (.sipush (0), 0), (.lcmp, 0), (.ifCond .ne 5, 0), (.goto 7, 0)],
  [(.aload 0, 0), (.iload 7, 0), (.iload 8, 0), (.iload 1, 0), (.invokeinterface 171 4, 11), (.lstore 11, 0), (.iload 2, 0), (.iconst (-1), 0), (.if_icmp .eq 6, 0), (.lload 11, 0), (.lload 5, 0), (.lmul, 0), (.lload 3, 0), (.lload 9, 0), (.lmul, 0), (.lcmp, 0), (.ifCond .lt 6, 0), (.goto 7, 0)],
  [(.iconst (6), 0), (.iload 7, 0), (.imul, 0), (.iload 8, 0), (.iadd, 0), (.istore 2, 0), (.lload 11, 0), (.lstore 3, 0), (.lload 9, 0), (.lstore 5, 0), (.jsr 7, 0)],
  [(.iinc 8 (1), 0), (.goto 4, 0)],
  [(.iinc 7 (1), 0), (.goto 3, 0)],
  [(.iload 2, 0), (.ireturn, 0)]])
/-- DiceLawModel.layWays()V -/
def me174 : ME := ((11, yX11_layWays, prog_13_method_95_code), (3, 0, 1, 1), [0, 2, 24], [
  [(.iconst (0), 0), (.istore 1, 0), (.jsr 1, 0)],
  [(.iload 1, 0), (.aload 0, 0), (.checkcast 11, 39), (.arraylength, 0), (.if_icmp .ge 2, 0), (.aload 0, 0), (.checkcast 11, 39), (.iload 1, 0), (.sipush (0), 0), (.lastore, 0), (.iinc 1 (1), 0), (.goto 1, 0)],
  [(.aload 0, 0), (.sipush (0), 0), (.putstatic 11, 40), (.aload 0, 0), (.iconst (10), 0), (.iconst (0), 0), (.iconst (0), 0), (.invokeinterface 145 4, 11), (.lstore 1, 0), (.return_, 0)]])
/-- DiceLawModel.likeliest(I)J -/
def me175 : ME := ((11, yX11_likeliest, prog_13_method_96_code), (4, 3, 1, 2), [0, 22, 26, 34, 61, 67, 76, 82], [
  [(.aload 0, 0), (.iconst (0), 0), (.putfield 11, 0), (.aload 0, 0), (.getfield 11, 20), (.ifCond .eq 1, 0), (.iload 1, 0), (.i2l, 0), (.sipush (0), 0), (.sipush (1), 0), (.invokestatic 82, 3), (.ifCond .ne 2, 0), (.jsr 1, 0)],
  [(.sipush (-1), 0), (.lreturn, 0)],
  [(.aload 0, 0), (.invokeinterface 174 1, 11), (.iconst (0), 0), (.istore 2, 0), (.iconst (1), 0), (.istore 3, 0), (.jsr 3, 0)],
  [(.iload 3, 0), (.aload 0, 0), (.checkcast 11, 39), (.arraylength, 0), (.if_icmp .ge 5, 0), (.aload 0, 0), (.checkcast 11, 39), (.iload 3, 0), (.laload, 0), (.aload 0, 0), (.checkcast 11, 39), (.iload 2, 0), (.laload, 0), (.lcmp, 0), (.ifCond .le 4, 0), (.iload 3, 0), (.istore 2, 0), (.jsr 4, 0)],
  [(.iinc 3 (1), 0), (.goto 3, 0)],
  [(.iload 1, 0), (.ifCond .ne 6, 0), (.iload 2, 0), (.i2l, 0), (.goto 7, 0)],
  [(.aload 0, 0), (.checkcast 11, 39), (.iload 2, 0), (.laload, 0), (.jsr 7, 0)],
  [(.lreturn, 0)]])
/-- DiceLawModel.apart(II)I -/
def me176 : ME := ((11, yX11_apart, prog_13_method_97_code), (3, 1, 1, 3), [0, 31, 33, 68, 69], [
  [(.aload 0, 0), (.iconst (0), 0), (.putfield 11, 0), (.aload 0, 0), (.getfield 11, 20), (.ifCond .eq 1, 0), (.iload 1, 0), (.invokestatic 111, 1), (.ifCond .eq 1, 0), (.iload 2, 0), (.invokestatic 111, 1), (.ifCond .eq 1, 0), (.iload 1, 0), (.iload 2, 0), (.if_icmp .ne 2, 0), (.jsr 1, 0)],
  [(.iconst (-1), 0), (.ireturn, 0)],
  [(.aload 0, 0), (.iconst (3), 0), (.iload 1, 0), (.iload 2, 0), (.invokeinterface 145 4, 11), (.aload 0, 0), (.invokeinterface 146 1, 11), (.lmul, 0), (.aload 0, 0), (.iconst (0), 0), (.iload 1, 0), (.iconst (0), 0), (.invokeinterface 145 4, 11), (.aload 0, 0), (.iconst (0), 0), (.iload 2, 0), (.iconst (0), 0), (.invokeinterface 145 4, 11), (.lmul, 0), (.lcmp, 0), (.ifCond .ne 3, 0), (.iconst (1), 0), (.goto 4, 0)],
  [(.iconst (0), 0), (.jsr 4, 0)],
  [(.ireturn, 0)]])
/-- DiceLawModel.mean(I)J -/
def me177 : ME := ((11, yX11_mean, prog_13_method_98_code), (2, 3, 1, 2), [0, 17], [
  [(.aload 0, 0), (.iconst (0), 0), (.putfield 11, 0), (.aload 0, 0), (.iload 1, 0), (.invokeinterface 149 2, 11), (.ifCond .ne 1, 0), (.sipush (-1), 0), (.lreturn, 0)],
  [(.aload 0, 0), (.invokeinterface 174 1, 11), (.aload 0, 0), (.aload 0, 0), (.getstatic 11, 40), (.iload 1, 0), (.invokeinterface 147 3, 11), (.lreturn, 0)]])
/-- DiceLawModel.change(IIII)J -/
def me178 : ME := ((11, yX11_change, prog_13_method_99_code), (9, 3, 1, 5), [0, 54, 58], [
  [(.aload 0, 0), (.iconst (0), 0), (.putfield 11, 0), (.aload 0, 0), (.iload 1, 0), (.invokeinterface 109 2, 11), (.ifCond .eq 1, 0), (.iload 2, 0), (.invokestatic 110, 1), (.ifCond .eq 1, 0), (.iload 3, 0), (.invokestatic 110, 1), (.ifCond .eq 1, 0), (.iload 2, 0), (.iload 3, 0), (.if_icmp .eq 1, 0), (.iload 4, 0), (.invokestatic 111, 1), (.ifCond .eq 1, 0), (.aload 0, 0), (.checkcast 11, 21), (.iconst (6), 0), (.iload 1, 0), (.imul, 0), (.iload 2, 0), (.iadd, 0), (.iaload, 0), (.ifCond .ne 2, 0), (.jsr 1, 0)],
  [(.sipush (-1000000000), 0), (.lreturn, 0)],
  [(.aload 0, 0), (.iconst (0), 0), (.iload 4, 0), (.iconst (0), 0), (.invokeinterface 145 4, 11), (.lstore 5, 0), (.aload 0, 0), (.checkcast 11, 21), (.iconst (6), 0), (.iload 1, 0), (.imul, 0), (.iload 2, 0), (.iadd, 0), (.dup2, 0), (.iaload, 0), (.iconst (1), 0), (.isub, 0), (.iastore, 0), (.aload 0, 0), (.checkcast 11, 21), (.iconst (6), 0), (.iload 1, 0), (.imul, 0), (.iload 3, 0), (.iadd, 0), (.dup2, 0), (.iaload, 0), (.iconst (1), 0), (.iadd, 0), (.iastore, 0), (.aload 0, 0), (.iconst (0), 0), (.iload 4, 0), (.iconst (0), 0), (.invokeinterface 145 4, 11), (.lload 5, 0), (.lsub, 0), (.lstore 7, 0), (.aload 0, 0), (.checkcast 11, 21), (.iconst (6), 0), (.iload 1, 0), (.imul, 0), (.iload 2, 0), (.iadd, 0), (.dup2, 0), (.iaload, 0), (.iconst (1), 0), (.iadd, 0), (.iastore, 0), (.aload 0, 0), (.checkcast 11, 21), (.iconst (6), 0), (.iload 1, 0), (.imul, 0), (.iload 3, 0), (.iadd, 0), (.dup2, 0), (.iaload, 0), (.iconst (1), 0), (.isub, 0), (.iastore, 0), (.lload 7, 0), (.lreturn, 0)]])
/-- DiceLawModel.run(II)I -/
def me179 : ME := ((11, yX11_run, prog_13_method_100_code), (7, 1, 1, 3), [0, 22, 26, 37, 63, 64, 75, 87, 93, 101, 103], [
  [(.aload 0, 0), (.iconst (0), 0), (.putfield 11, 0), (.iload 1, 0), (.invokestatic 111, 1), (.ifCond .eq 1, 0), (.iload 2, 0), (.i2l, 0), (.sipush (0), 0), (.sipush (1), 0), (.invokestatic 82, 3), (.ifCond .ne 2, 0), (.jsr 1, 0)],
  [(.iconst (-1000000000), 0), (.ireturn, 0)],
  [(.iconst (0), 0), (.istore 3, 0), (.iconst (-1), 0), (.istore 4, 0), (.iconst (0), 0), (.istore 5, 0), (.iconst (0), 0), (.istore 6, 0), (.jsr 3, 0)],
  [(.iload 6, 0), (.aload 0, 0), (.getfield 11, 30), (.if_icmp .ge 8, 0), (.aload 0, 0), (.iload 1, 0), (.iload 6, 0), (.invokeinterface 138 3, 11), (.ifCond .eq 4, 0), (.iload 5, 0), (.iconst (1), 0), (.iadd, 0), (.goto 5, 0)],
  [(.iconst (0), 0), (.jsr 5, 0)],
  [(.istore 5, 0), (.iload 5, 0), (.iload 3, 0), (.if_icmp .gt 6, 0), (.goto 7, 0)],
  [(.iload 5, 0), (.istore 3, 0), (.iload 6, 0), (.iload 5, 0), (.isub, 0), (.iconst (1), 0), (.iadd, 0), (.istore 4, 0), (.jsr 7, 0)],
  [(.iinc 6 (1), 0), (.goto 3, 0)],
  [(.iload 2, 0), (.ifCond .ne 9, 0), (.iload 3, 0), (.goto 10, 0)],
  [(.iload 4, 0), (.jsr 10, 0)],
  [(.ireturn, 0)]])
/-- DiceLawModel.isPeace(I)Z -/
def me180 : ME := ((11, yX11_isPeace, prog_13_method_101_code), (3, 2, 1, 2), [0, 2, 28, 34], [
  [(.iconst (0), 0), (.istore 2, 0), (.jsr 1, 0)],
  [(.iload 2, 0), (.iconst (6), 0), (.if_icmp .ge 3, 0), (.aload 0, 0), (.aload 0, 0), (.checkcast 11, 26), (.iconst (5), 0), (.iload 1, 0), (.imul, 0), (.iconst (20), 0), (.iload 2, 0), (.iadd, 0), (.invokeinterface 125 4, 11), (.ifCond .le 2, 0), (.iconst (0), 0), (.ireturn, 1)],
  [(.iinc 2 (1), 0), (.goto 1, 0)],
  [(.iconst (1), 0), (.ireturn, 1)]])
/-- DiceLawModel.peace(I)I -/
def me181 : ME := ((11, yX11_peace, prog_13_method_102_code), (5, 1, 1, 2), [0, 19, 26, 47, 60, 61, 62, 68, 76, 77], [
  [(.aload 0, 0), (.iconst (0), 0), (.putfield 11, 0), (.iload 1, 0), (.i2l, 0), (.sipush (0), 0), (.sipush (1), 0), (.invokestatic 82, 3), (.ifCond .ne 1, 0), (.iconst (-1000000000), 0), (.ireturn, 0)],
  [(.iconst (0), 0), (.istore 2, 0), (.iconst (-1), 0), (.istore 3, 0), (.iconst (0), 0), (.istore 4, 0), (.jsr 2, 0)],
  [(.iload 4, 0), (.aload 0, 0), (.getfield 11, 30), (.if_icmp .ge 7, 0), (.aload 0, 0), (.iload 4, 0), (.invokeinterface 180 2, 11), (.ifCond .ne 3, 0), (.goto 6, 0)],
  [(.iinc 2 (1), 0), (.iload 3, 0), (.iconst (-1), 0), (.if_icmp .ne 4, 0), (.iload 4, 0), (.goto 5, 0)],
  [(.iload 3, 0), (.jsr 5, 0)],
  [(.istore 3, 0), (.jsr 6, 0)],
  [(.iinc 4 (1), 0), (.goto 2, 0)],
  [(.iload 1, 0), (.ifCond .ne 8, 0), (.iload 2, 0), (.goto 9, 0)],
  [(.iload 3, 0), (.jsr 9, 0)],
  [(.ireturn, 0)]])
/-- DiceLawModel.idle(I)I -/
def me182 : ME := ((11, yX11_idle, prog_13_method_103_code), (6, 1, 1, 2), [0, 14, 18, 32, 59, 60, 68, 78, 79, 87], [
  [(.aload 0, 0), (.iconst (0), 0), (.putfield 11, 0), (.iload 1, 0), (.invokestatic 160, 1), (.ifCond .ne 1, 0), (.iconst (-1), 0), (.ireturn, 0)],
  [(.iconst (0), 0), (.istore 2, 0), (.iconst (0), 0), (.istore 3, 0), (.jsr 2, 0)],
  [(.iload 3, 0), (.aload 0, 0), (.getfield 11, 30), (.if_icmp .ge 9, 0), (.iconst (1), 0), (.istore 4, 0), (.iconst (0), 0), (.istore 5, 0), (.jsr 3, 0)],
  [(.iload 5, 0), (.iconst (6), 0), (.if_icmp .ge 6, 0), (.iload 4, 0), (.ifCond .eq 4, 0), (.aload 0, 0), (.iload 1, 0), (.iload 5, 0), (.iload 3, 0), (.invokeinterface 159 4, 11), (.ifCond .ne 4, 0), (.iconst (1), 0), (.goto 5, 0)],
  [(.iconst (0), 0), (.jsr 5, 0)],
  [(.istore 4, 0), (.iinc 5 (1), 0), (.goto 3, 0)],
  [(.iload 2, 0), (.iload 4, 0), (.ifCond .eq 7, 0), (.iconst (1), 0), (.goto 8, 0)],
  [(.iconst (0), 0), (.jsr 8, 0)],
  [(.iadd, 0), (.istore 2, 0), (.iinc 3 (1), 0), (.goto 2, 0)],
  [(.iload 2, 0), (.ireturn, 0)]])
/-- DiceLawModel.busiest()I -/
def me183 : ME := ((11, yX11_busiest, prog_13_method_104_code), (6, 1, 1, 1), [0, 11, 25, 48, 49, 58, 72, 77, 83], [
  [(.aload 0, 0), (.iconst (0), 0), (.putfield 11, 0), (.iconst (-1), 0), (.istore 1, 0), (.iconst (0), 0), (.istore 2, 0), (.iconst (0), 0), (.istore 3, 0), (.jsr 1, 0)],
  [(.iload 3, 0), (.aload 0, 0), (.getfield 11, 30), (.if_icmp .ge 8, 0), (.iconst (0), 0), (.istore 4, 0), (.iconst (0), 0), (.istore 5, 0), (.jsr 2, 0)],
  [(.iload 5, 0), (.iconst (6), 0), (.if_icmp .ge 5, 0), (.iload 4, 0), (.aload 0, 0), (.iload 5, 0), (.iload 3, 0), (.invokeinterface 139 3, 11), (.ifCond .eq 3, 0), (.iconst (1), 0), (.goto 4, 0)],
  [(.iconst (0), 0), (.jsr 4, 0)],
  [(.iadd, 0), (.istore 4, 0), (.iinc 5 (1), 0), (.goto 2, 0)],
  [(.iload 1, 0), (.iconst (-1), 0), (.if_icmp .eq 6, 0), (.iload 4, 0), (.iload 2, 0), (.if_icmp .gt 6, 0), (.goto 7, 0)],
  [(.iload 3, 0), (.istore 1, 0), (.iload 4, 0), (.istore 2, 0), (.jsr 7, 0)],
  [(.iinc 3 (1), 0), (.goto 1, 0)],
  [(.iload 1, 0), (.ireturn, 0)]])
/-- DiceLawModel.keep([I)V -/
def me184 : ME := ((11, yX11_keep, prog_13_method_105_code), (3, 0, 1, 2), [0, 2, 36], [
  [(.iconst (0), 0), (.istore 2, 0), (.jsr 1, 0)],
  [(.iload 2, 0), (.aload 1, 0), (.arraylength, 0), (.if_icmp .ge 2, 0), (.aload 0, 0), (.checkcast 11, 45), (.aload 0, 0), (.getfield 11, 50), (.aload 1, 0), (.iload 2, 0), (.iaload, 0), (.iastore, 0), (.aload 0, 0), (.dup, 0), (.getfield 11, 50), (.iconst (1), 0), (.iadd, 0), (.putfield 11, 50), (.iinc 2 (1), 0), (.goto 1, 0)],
  [(.return_, 0)]])
/-- DiceLawModel.bring([I)V -/
def me185 : ME := ((11, yX11_bring, prog_13_method_106_code), (3, 0, 1, 2), [0, 2, 36], [
  [(.iconst (0), 0), (.istore 2, 0), (.jsr 1, 0)],
  [(.iload 2, 0), (.aload 1, 0), (.arraylength, 0), (.if_icmp .ge 2, 0), (.aload 1, 0), (.iload 2, 0), (.aload 0, 0), (.checkcast 11, 45), (.aload 0, 0), (.getfield 11, 50), (.iaload, 0), (.iastore, 0), (.aload 0, 0), (.dup, 0), (.getfield 11, 50), (.iconst (1), 0), (.iadd, 0), (.putfield 11, 50), (.iinc 2 (1), 0), (.goto 1, 0)],
  [(.return_, 0)]])
/-- DiceLawModel.image()I -/
def me186 : ME := ((11, yX11_image, prog_13_method_107_code), (2, 1, 1, 1), [0, 76, 100], [
  [(.aload 0, 0), (.iconst (0), 0), (.putfield 11, 0), (.aload 0, 0), (.iconst (0), 0), (.putfield 11, 50), (.aload 0, 0), (.aload 0, 0), (.checkcast 11, 18), (.invokeinterface 184 2, 11), (.aload 0, 0), (.aload 0, 0), (.checkcast 11, 21), (.invokeinterface 184 2, 11), (.aload 0, 0), (.aload 0, 0), (.checkcast 11, 26), (.invokeinterface 184 2, 11), (.aload 0, 0), (.aload 0, 0), (.checkcast 11, 27), (.invokeinterface 184 2, 11), (.aload 0, 0), (.aload 0, 0), (.checkcast 11, 28), (.invokeinterface 184 2, 11), (.aload 0, 0), (.aload 0, 0), (.checkcast 11, 41), (.invokeinterface 184 2, 11), (.aload 0, 0), (.aload 0, 0), (.checkcast 11, 42), (.invokeinterface 184 2, 11), (.aload 0, 0), (.aload 0, 0), (.checkcast 11, 43), (.invokeinterface 184 2, 11), (.iconst (0), 0), (.istore 1, 0), (.jsr 1, 0)],
  [(.iload 1, 0), (.iconst (40), 0), (.if_icmp .ge 2, 0), (.aload 0, 0), (.checkcast 11, 46), (.iload 1, 0), (.aload 0, 0), (.checkcast 11, 29), (.iload 1, 0), (.laload, 0), (.lastore, 0), (.iinc 1 (1), 0), (.goto 1, 0)],
  [(.aload 0, 0), (.aload 0, 0), (.getfield 11, 20), (.putfield 11, 47), (.aload 0, 0), (.aload 0, 0), (.getfield 11, 30), (.putfield 11, 48), (.aload 0, 0), (.aload 0, 0), (.getfield 11, 44), (.putfield 11, 49), (.aload 0, 0), (.aload 0, 0), (.getstatic 11, 31), (.putstatic 11, 51), (.aload 0, 0), (.iconst (1), 0), (.ret 11, 52), (.aload 0, 0), (.getfield 11, 30), (.ireturn, 0)]])
/-- DiceLawModel.back()I -/
def me187 : ME := ((11, yX11_back, prog_13_method_108_code), (2, 1, 1, 1), [0, 14, 85, 109], [
  [(.aload 0, 0), (.iconst (0), 0), (.putfield 11, 0), (.aload 0, 0), (.getfield 11, 52), (.ifCond .ne 1, 0), (.iconst (-1), 0), (.ireturn, 0)],
  [(.aload 0, 0), (.iconst (0), 0), (.putfield 11, 50), (.aload 0, 0), (.aload 0, 0), (.checkcast 11, 18), (.invokeinterface 185 2, 11), (.aload 0, 0), (.aload 0, 0), (.checkcast 11, 21), (.invokeinterface 185 2, 11), (.aload 0, 0), (.aload 0, 0), (.checkcast 11, 26), (.invokeinterface 185 2, 11), (.aload 0, 0), (.aload 0, 0), (.checkcast 11, 27), (.invokeinterface 185 2, 11), (.aload 0, 0), (.aload 0, 0), (.checkcast 11, 28), (.invokeinterface 185 2, 11), (.aload 0, 0), (.aload 0, 0), (.checkcast 11, 41), (.invokeinterface 185 2, 11), (.aload 0, 0), (.aload 0, 0), (.checkcast 11, 42), (.invokeinterface 185 2, 11), (.aload 0, 0), (.aload 0, 0), (.checkcast 11, 43), (.invokeinterface 185 2, 11), (.iconst (0), 0), (.istore 1, 0), (.jsr 2, 0)],
  [(.iload 1, 0), (.iconst (40), 0), (.if_icmp .ge 3, 0), (.aload 0, 0), (.checkcast 11, 29), (.iload 1, 0), (.aload 0, 0), (.checkcast 11, 46), (.iload 1, 0), (.laload, 0), (.lastore, 0), (.iinc 1 (1), 0), (.goto 2, 0)],
  [(.aload 0, 0), (.aload 0, 0), (.getfield 11, 47), (.putfield 11, 20), (.aload 0, 0), (.aload 0, 0), (.getfield 11, 48), (.putfield 11, 30), (.aload 0, 0), (.aload 0, 0), (.getfield 11, 49), (.putfield 11, 44), (.aload 0, 0), (.aload 0, 0), (.getstatic 11, 51), (.putstatic 11, 31), (.aload 0, 0), (.getfield 11, 30), (.ireturn, 0)]])
/-- DiceLawModel.count(I)I -/
def me188 : ME := ((11, yX11_count, prog_13_method_109_code), (2, 1, 1, 2), [0, 40, 45, 50, 55, 60, 65], [
  [(.aload 0, 0), (.iconst (0), 0), (.putfield 11, 0), (.iload 1, 0), (.tableswitch 6 (0) (4) #[1, 2, 3, 4, 5], 0)],
  [(.aload 0, 0), (.getfield 11, 20), (.ireturn, 0)],
  [(.aload 0, 0), (.getfield 11, 7), (.ireturn, 0)],
  [(.aload 0, 0), (.getfield 11, 6), (.ireturn, 0)],
  [(.aload 0, 0), (.getfield 11, 30), (.ireturn, 0)],
  [(.aload 0, 0), (.getfield 11, 44), (.ireturn, 0)],
  [(.iconst (-1000000000), 0), (.ireturn, 0)]])
/-- DiceLaw$Book.<init>()V -/
def me189 : ME := ((0, yX0_init, prog_2_method_1_code), (1, 0, 2, 1), [0], [
  [(.aload 0, 0), (.monitorexit, 0), (.aload 0, 0), (.iconst (30), 0), (.newarray .int, 0), (.instanceof 0, 1), (.aload 0, 0), (.iconst (30), 0), (.newarray .int, 0), (.instanceof 0, 2), (.return_, 0)]])
/-- DiceLaw$Book.add([I)V -/
def me190 : ME := ((0, yX0_add, prog_2_method_2_code), (3, 0, 1, 2), [0, 2, 52], [
  [(.iconst (0), 0), (.istore 2, 0), (.jsr 1, 0)],
  [(.iload 2, 0), (.iconst (6), 0), (.if_icmp .ge 2, 0), (.aload 0, 0), (.checkcast 0, 1), (.aload 0, 0), (.getfield 0, 0), (.iconst (6), 0), (.imul, 0), (.iload 2, 0), (.iadd, 0), (.aload 1, 0), (.iload 2, 0), (.invokestatic 61, 2), (.invokestatic 63, 3), (.aload 0, 0), (.checkcast 0, 2), (.aload 0, 0), (.getfield 0, 0), (.iconst (6), 0), (.imul, 0), (.iload 2, 0), (.iadd, 0), (.iconst (2), 0), (.invokestatic 63, 3), (.iinc 2 (1), 0), (.goto 1, 0)],
  [(.aload 0, 0), (.dup, 0), (.getfield 0, 0), (.iconst (1), 0), (.iadd, 0), (.putfield 0, 0), (.return_, 0)]])
/-- DiceLaw$Book.has(II)Z -/
def me191 : ME := ((0, yX0_has, prog_2_method_3_code), (3, 2, 1, 3), [0, 26, 27], [
  [(.iload 1, 0), (.ifCond .lt 1, 0), (.iload 1, 0), (.aload 0, 0), (.getfield 0, 0), (.if_icmp .ge 1, 0), (.iload 2, 0), (.ifCond .lt 1, 0), (.iload 2, 0), (.iconst (6), 0), (.if_icmp .ge 1, 0), (.iconst (1), 0), (.goto 2, 0)],
  [(.iconst (0), 0), (.jsr 2, 0)],
  [(.ireturn, 1)]])
/-- DiceLaw$Book.clauseOf(II)I -/
def me192 : ME := ((0, yX0_clauseOf, prog_2_method_4_code), (3, 1, 1, 3), [0], [
  [(.aload 0, 0), (.checkcast 0, 1), (.iload 1, 0), (.iconst (6), 0), (.imul, 0), (.iload 2, 0), (.iadd, 0), (.invokestatic 61, 2), (.ireturn, 0)]])
/-- DiceLaw$Book.weightOf(II)I -/
def me193 : ME := ((0, yX0_weightOf, prog_2_method_5_code), (3, 1, 1, 3), [0], [
  [(.aload 0, 0), (.checkcast 0, 2), (.iload 1, 0), (.iconst (6), 0), (.imul, 0), (.iload 2, 0), (.iadd, 0), (.invokestatic 61, 2), (.ireturn, 0)]])
/-- DiceLaw$Book.take(LDiceLaw$Book;)V -/
def me194 : ME := ((0, yX0_take, prog_2_method_6_code), (2, 0, 1, 2), [0], [
  [(.aload 0, 0), (.aload 1, 0), (.getfield 0, 0), (.putfield 0, 0), (.aload 1, 0), (.checkcast 0, 1), (.aload 0, 0), (.checkcast 0, 1), (.invokestatic 68, 2), (.aload 1, 0), (.checkcast 0, 2), (.aload 0, 0), (.checkcast 0, 2), (.invokestatic 68, 2), (.return_, 0)]])
/-- DiceLaw$Chances.<init>()V -/
def me195 : ME := ((1, yX1_init, prog_3_method_1_code), (1, 0, 2, 1), [0], [
  [(.aload 0, 0), (.monitorexit, 0), (.aload 0, 0), (.new 9, 13), (.dup, 0), (.invokeinterface 261 1, 9), (.instanceof 1, 0), (.aload 0, 0), (.new 5, 3), (.dup, 0), (.invokeinterface 236 1, 5), (.instanceof 1, 1), (.aload 0, 0), (.iconst (30), 0), (.newarray .int, 0), (.instanceof 1, 2), (.aload 0, 0), (.iconst (30), 0), (.newarray .int, 0), (.instanceof 1, 3), (.aload 0, 0), (.iconst (5), 0), (.newarray .int, 0), (.instanceof 1, 4), (.aload 0, 0), (.iconst (5), 0), (.newarray .int, 0), (.instanceof 1, 5), (.aload 0, 0), (.iconst (5), 0), (.newarray .int, 0), (.instanceof 1, 6), (.aload 0, 0), (.iconst (30), 0), (.newarray .long, 0), (.instanceof 1, 7), (.aload 0, 0), (.iconst (30), 0), (.newarray .long, 0), (.instanceof 1, 8), (.return_, 0)]])
/-- DiceLaw$Chances.ask(III)J -/
def me196 : ME := ((1, yX1_ask, prog_3_method_2_code), (4, 3, 1, 4), [0], [
  [(.aload 0, 0), (.iload 1, 0), (.putfield 1, 9), (.aload 0, 0), (.iload 2, 0), (.putfield 1, 10), (.aload 0, 0), (.iload 3, 0), (.putfield 1, 11), (.aload 0, 0), (.sipush (0), 0), (.putstatic 1, 12), (.aload 0, 0), (.sipush (0), 0), (.putstatic 1, 13), (.aload 0, 0), (.iconst (0), 0), (.putfield 1, 14), (.aload 0, 0), (.checkcast 1, 7), (.aload 0, 0), (.checkcast 1, 7), (.arraylength, 0), (.invokestatic 66, 2), (.aload 0, 0), (.checkcast 1, 8), (.aload 0, 0), (.checkcast 1, 8), (.arraylength, 0), (.invokestatic 66, 2), (.aload 0, 0), (.invokeinterface 197 1, 1), (.aload 0, 0), (.iconst (0), 0), (.iconst (0), 0), (.sipush (1), 0), (.sipush (1), 0), (.invokeinterface 200 5, 1), (.aload 0, 0), (.getstatic 1, 12), (.lreturn, 0)]])
/-- DiceLaw$Chances.sortKinds()V -/
def me197 : ME := ((1, yX1_sortKinds, prog_3_method_3_code), (5, 0, 1, 1), [0, 9, 103, 119], [
  [(.aload 0, 0), (.checkcast 1, 1), (.invokeinterface 237 1, 5), (.iconst (0), 0), (.istore 1, 0), (.jsr 1, 0)],
  [(.iload 1, 0), (.aload 0, 0), (.checkcast 1, 0), (.getfield 9, 0), (.iconst (6), 0), (.imul, 0), (.if_icmp .ge 3, 0), (.iload 1, 0), (.iconst (6), 0), (.idiv, 0), (.istore 2, 0), (.aload 0, 0), (.checkcast 1, 0), (.checkcast 9, 2), (.iload 1, 0), (.invokestatic 61, 2), (.istore 3, 0), (.iconst (-1), 0), (.istore 4, 0), (.iload 3, 0), (.ifCond .le 2, 0), (.aload 0, 0), (.checkcast 1, 1), (.iload 2, 0), (.aload 0, 0), (.aload 0, 0), (.checkcast 1, 0), (.iload 2, 0), (.iload 1, 0), (.iconst (6), 0), (.irem, 0), (.invokeinterface 266 3, 9), (.iload 1, 0), (.iconst (6), 0), (.irem, 0), (.invokeinterface 198 3, 1), (.iload 3, 0), (.invokeinterface 238 4, 5), (.istore 4, 0), (.aload 0, 0), (.checkcast 1, 3), (.iload 2, 0), (.iconst (6), 0), (.imul, 0), (.iload 4, 0), (.iadd, 0), (.aload 0, 0), (.checkcast 1, 0), (.checkcast 9, 8), (.iload 1, 0), (.invokestatic 61, 2), (.invokestatic 63, 3), (.jsr 2, 0)],
  [(.aload 0, 0), (.checkcast 1, 2), (.iload 1, 0), (.iload 4, 0), (.invokestatic 63, 3), (.iinc 1 (1), 0), (.goto 1, 0)],
  [(.return_, 0)]])
/-- DiceLaw$Chances.meaning(II)I -/
def me198 : ME := ((1, yX1_meaning, prog_3_method_4_code), (4, 1, 1, 3), [0, 11, 19, 40, 65, 66, 67, 87, 88, 104, 105, 106, 133, 145, 146], [
  [(.aload 0, 0), (.getfield 1, 9), (.iconst (6), 0), (.if_icmp .ne 1, 0), (.iload 2, 0), (.ireturn, 0)],
  [(.iload 1, 0), (.iconst (50), 0), (.if_icmp .lt 2, 0), (.iload 1, 0), (.ireturn, 0)],
  [(.iload 1, 0), (.iconst (40), 0), (.if_icmp .lt 3, 0), (.iconst (40), 0), (.aload 0, 0), (.checkcast 1, 0), (.iload 1, 0), (.iconst (40), 0), (.isub, 0), (.invokeinterface 272 2, 9), (.iadd, 0), (.ireturn, 0)],
  [(.aload 0, 0), (.getfield 1, 9), (.iconst (4), 0), (.if_icmp .ne 6, 0), (.iload 1, 0), (.iconst (20), 0), (.if_icmp .lt 4, 0), (.iload 1, 0), (.iconst (30), 0), (.if_icmp .ge 4, 0), (.iconst (20), 0), (.goto 5, 0)],
  [(.iconst (0), 0), (.jsr 5, 0)],
  [(.ireturn, 0)],
  [(.aload 0, 0), (.getfield 1, 9), (.iconst (5), 0), (.if_icmp .ne 11, 0), (.aload 0, 0), (.getfield 1, 11), (.ifCond .ne 7, 0), (.iconst (10), 0), (.goto 8, 0)],
  [(.iconst (0), 0), (.jsr 8, 0)],
  [(.istore 3, 0), (.iload 1, 0), (.aload 0, 0), (.getfield 1, 11), (.if_icmp .ne 9, 0), (.aload 0, 0), (.getfield 1, 11), (.goto 10, 0)],
  [(.iload 3, 0), (.jsr 10, 0)],
  [(.ireturn, 0)],
  [(.iload 1, 0), (.iconst (10), 0), (.irem, 0), (.istore 3, 0), (.iload 1, 0), (.iconst (10), 0), (.if_icmp .lt 13, 0), (.iload 3, 0), (.aload 0, 0), (.getfield 1, 10), (.if_icmp .eq 12, 0), (.iload 3, 0), (.aload 0, 0), (.getfield 1, 11), (.if_icmp .ne 13, 0), (.jsr 12, 0)],
  [(.aload 0, 0), (.iload 1, 0), (.invokeinterface 199 2, 1), (.ifCond .eq 13, 0), (.iload 1, 0), (.goto 14, 0)],
  [(.iconst (0), 0), (.jsr 14, 0)],
  [(.ireturn, 0)]])
/-- DiceLaw$Chances.bears(I)Z -/
def me199 : ME := ((1, yX1_bears, prog_3_method_5_code), (2, 2, 1, 2), [0, 10, 34, 38, 48, 49], [
  [(.aload 0, 0), (.getfield 1, 9), (.iconst (1), 0), (.if_icmp .ne 1, 0), (.iconst (1), 0), (.ireturn, 1)],
  [(.aload 0, 0), (.getfield 1, 9), (.iconst (2), 0), (.if_icmp .ne 3, 0), (.iload 1, 0), (.iconst (20), 0), (.if_icmp .lt 2, 0), (.iload 1, 0), (.iconst (30), 0), (.if_icmp .ge 2, 0), (.iconst (1), 0), (.goto 5, 0)],
  [(.iconst (0), 0), (.goto 5, 0)],
  [(.iload 1, 0), (.iconst (30), 0), (.if_icmp .ge 4, 0), (.iconst (1), 0), (.goto 5, 0)],
  [(.iconst (0), 0), (.jsr 5, 0)],
  [(.ireturn, 1)]])
/-- DiceLaw$Chances.lay(IIJJ)V -/
def me200 : ME := ((1, yX1_lay, prog_3_method_6_code), (12, 0, 1, 5), [0, 22, 38, 58, 80, 81, 84, 85, 101, 215, 240, 246], [
  [(.iload 1, 0), (.aload 0, 0), (.checkcast 1, 0), (.getfield 9, 0), (.if_icmp .lt 7, 0), (.lload 5, 0), (.sipush (0), 0), (.lcmp, 0), (.ifCond .ne 1, 0), (.sipush (0), 0), (.goto 2, 0)],
  [(.aload 0, 0), (.checkcast 1, 0), (.checkcast 9, 11), (.iload 2, 0), (.invokestatic 62, 2), (.lload 5, 0), (.ldiv, 0), (.lload 3, 0), (.lmul, 0), (.jsr 2, 0)],
  [(.lstore 7, 0), (.aload 0, 0), (.getfield 1, 9), (.iconst (6), 0), (.if_icmp .ne 3, 0), (.aload 0, 0), (.lload 7, 0), (.invokeinterface 202 2, 1), (.goto 6, 0)],
  [(.lload 7, 0), (.sipush (0), 0), (.lcmp, 0), (.ifCond .le 6, 0), (.aload 0, 0), (.lload 7, 0), (.aload 0, 0), (.invokeinterface 203 1, 1), (.ifCond .eq 4, 0), (.lload 7, 0), (.goto 5, 0)],
  [(.sipush (0), 0), (.jsr 5, 0)],
  [(.invokeinterface 201 3, 1), (.jsr 6, 0)],
  [(.return_, 0)],
  [(.aload 0, 0), (.checkcast 1, 0), (.checkcast 9, 9), (.iload 1, 0), (.invokestatic 61, 2), (.istore 7, 0), (.iconst (0), 0), (.istore 8, 0), (.jsr 8, 0)],
  [(.iload 8, 0), (.aload 0, 0), (.checkcast 1, 1), (.checkcast 5, 0), (.iload 1, 0), (.invokestatic 61, 2), (.if_icmp .ge 11, 0), (.aload 0, 0), (.checkcast 1, 3), (.iload 1, 0), (.iconst (6), 0), (.imul, 0), (.iload 8, 0), (.iadd, 0), (.invokestatic 61, 2), (.istore 9, 0), (.aload 0, 0), (.checkcast 1, 1), (.iload 1, 0), (.iload 8, 0), (.invokeinterface 240 3, 5), (.istore 10, 0), (.aload 0, 0), (.checkcast 1, 0), (.checkcast 9, 6), (.iload 1, 0), (.iload 9, 0), (.invokeinterface 240 3, 5), (.istore 11, 0), (.aload 0, 0), (.checkcast 1, 4), (.iload 1, 0), (.iload 8, 0), (.invokestatic 63, 3), (.aload 0, 0), (.checkcast 1, 5), (.iload 1, 0), (.aload 0, 0), (.checkcast 1, 1), (.iload 1, 0), (.iload 8, 0), (.invokeinterface 239 3, 5), (.invokestatic 63, 3), (.iload 10, 0), (.iload 11, 0), (.if_icmp .ne 9, 0), (.aload 0, 0), (.iload 1, 0), (.iconst (1), 0), (.iadd, 0), (.iload 2, 0), (.iload 9, 0), (.iload 7, 0), (.imul, 0), (.iadd, 0), (.lload 3, 0), (.lload 5, 0), (.invokeinterface 200 5, 1), (.goto 10, 0)],
  [(.aload 0, 0), (.iload 1, 0), (.iconst (1), 0), (.iadd, 0), (.iload 2, 0), (.iload 9, 0), (.iload 7, 0), (.imul, 0), (.iadd, 0), (.lload 3, 0), (.iload 10, 0), (.i2l, 0), (.lmul, 0), (.lload 5, 0), (.iload 11, 0), (.i2l, 0), (.lmul, 0), (.invokeinterface 200 5, 1), (.jsr 10, 0)],
  [(.iinc 8 (1), 0), (.goto 8, 0)],
  [(.return_, 0)]])
/-- DiceLaw$Chances.note(JJ)V -/
def me201 : ME := ((1, yX1_note, prog_3_method_7_code), (6, 0, 1, 3), [0, 20, 23, 87], [
  [(.aload 0, 0), (.dup, 0), (.getstatic 1, 12), (.lload 3, 0), (.ladd, 0), (.putstatic 1, 12), (.aload 0, 0), (.getfield 1, 9), (.iconst (7), 0), (.if_icmp .eq 1, 0), (.return_, 0)],
  [(.iconst (0), 0), (.istore 5, 0), (.jsr 2, 0)],
  [(.iload 5, 0), (.aload 0, 0), (.checkcast 1, 0), (.getfield 9, 0), (.if_icmp .ge 3, 0), (.aload 0, 0), (.checkcast 1, 7), (.iload 5, 0), (.iconst (6), 0), (.imul, 0), (.aload 0, 0), (.checkcast 1, 4), (.iload 5, 0), (.invokestatic 61, 2), (.iadd, 0), (.lload 1, 0), (.invokestatic 65, 3), (.aload 0, 0), (.checkcast 1, 8), (.iload 5, 0), (.iconst (6), 0), (.imul, 0), (.aload 0, 0), (.checkcast 1, 4), (.iload 5, 0), (.invokestatic 61, 2), (.iadd, 0), (.lload 3, 0), (.invokestatic 65, 3), (.iinc 5 (1), 0), (.goto 2, 0)],
  [(.return_, 0)]])
/-- DiceLaw$Chances.noteFaces(J)V -/
def me202 : ME := ((1, yX1_noteFaces, prog_3_method_8_code), (4, 0, 1, 2), [0, 10, 22, 59], [
  [(.lload 1, 0), (.aload 0, 0), (.getstatic 1, 13), (.lcmp, 0), (.ifCond .gt 1, 0), (.return_, 0)],
  [(.aload 0, 0), (.lload 1, 0), (.putstatic 1, 13), (.aload 0, 0), (.iconst (0), 0), (.putfield 1, 14), (.iconst (0), 0), (.istore 3, 0), (.jsr 2, 0)],
  [(.iload 3, 0), (.aload 0, 0), (.checkcast 1, 0), (.getfield 9, 0), (.if_icmp .ge 3, 0), (.aload 0, 0), (.aload 0, 0), (.getfield 1, 14), (.iconst (6), 0), (.imul, 0), (.aload 0, 0), (.checkcast 1, 5), (.iload 3, 0), (.invokestatic 61, 2), (.iadd, 0), (.putfield 1, 14), (.iinc 3 (1), 0), (.goto 2, 0)],
  [(.return_, 0)]])
/-- DiceLaw$Chances.isMet()Z -/
def me203 : ME := ((1, yX1_isMet, prog_3_method_9_code), (3, 2, 1, 1), [0, 10, 38, 76, 90, 113, 114, 115, 151, 152, 153, 171, 172, 173, 195, 196, 197], [
  [(.aload 0, 0), (.checkcast 1, 0), (.getfield 9, 0), (.istore 1, 0), (.iconst (0), 0), (.istore 2, 0), (.jsr 1, 0)],
  [(.iload 2, 0), (.iload 1, 0), (.if_icmp .ge 2, 0), (.aload 0, 0), (.checkcast 1, 6), (.iload 2, 0), (.aload 0, 0), (.checkcast 1, 5), (.iload 1, 0), (.iload 2, 0), (.invokestatic 75, 3), (.invokestatic 63, 3), (.iinc 2 (1), 0), (.goto 1, 0)],
  [(.aload 0, 0), (.getfield 1, 9), (.tableswitch 16 (1) (5) #[3, 4, 7, 10, 13], 0)],
  [(.aload 0, 0), (.checkcast 1, 6), (.iconst (0), 0), (.iload 1, 0), (.aload 0, 0), (.getfield 1, 10), (.invokestatic 79, 4), (.ireturn, 1)],
  [(.aload 0, 0), (.checkcast 1, 6), (.iconst (0), 0), (.iload 1, 0), (.iconst (20), 0), (.aload 0, 0), (.getfield 1, 10), (.iadd, 0), (.invokestatic 77, 4), (.ifCond .le 5, 0), (.iconst (1), 0), (.goto 6, 0)],
  [(.iconst (0), 0), (.jsr 6, 0)],
  [(.ireturn, 1)],
  [(.aload 0, 0), (.checkcast 1, 6), (.iconst (0), 0), (.iload 1, 0), (.aload 0, 0), (.getfield 1, 10), (.invokestatic 78, 4), (.ifCond .eq 8, 0), (.aload 0, 0), (.checkcast 1, 6), (.iconst (0), 0), (.iload 1, 0), (.aload 0, 0), (.getfield 1, 11), (.invokestatic 78, 4), (.ifCond .eq 8, 0), (.iconst (1), 0), (.goto 9, 0)],
  [(.iconst (0), 0), (.jsr 9, 0)],
  [(.ireturn, 1)],
  [(.aload 0, 0), (.checkcast 1, 6), (.iconst (0), 0), (.iload 1, 0), (.iconst (20), 0), (.invokestatic 77, 4), (.ifCond .ne 11, 0), (.iconst (1), 0), (.goto 12, 0)],
  [(.iconst (0), 0), (.jsr 12, 0)],
  [(.ireturn, 1)],
  [(.aload 0, 0), (.checkcast 1, 6), (.aload 0, 0), (.getfield 1, 10), (.invokestatic 61, 2), (.aload 0, 0), (.getfield 1, 11), (.if_icmp .ne 14, 0), (.iconst (1), 0), (.goto 15, 0)],
  [(.iconst (0), 0), (.jsr 15, 0)],
  [(.ireturn, 1)],
  [(.aload 0, 0), (.checkcast 1, 6), (.iconst (0), 0), (.iload 1, 0), (.aload 0, 0), (.getfield 1, 10), (.invokestatic 78, 4), (.ireturn, 1)]])
/-- DiceLaw$Chances.allBy(II)J -/
def me204 : ME := ((1, yX1_allBy, prog_3_method_10_code), (4, 3, 1, 3), [0, 23, 36], [
  [(.aload 0, 0), (.checkcast 1, 2), (.iload 1, 0), (.iconst (6), 0), (.imul, 0), (.iload 2, 0), (.iadd, 0), (.invokestatic 61, 2), (.istore 3, 0), (.iload 3, 0), (.iconst (-1), 0), (.if_icmp .ne 1, 0), (.sipush (0), 0), (.goto 2, 0)],
  [(.aload 0, 0), (.checkcast 1, 7), (.iload 1, 0), (.iconst (6), 0), (.imul, 0), (.iload 3, 0), (.iadd, 0), (.invokestatic 62, 2), (.jsr 2, 0)],
  [(.lreturn, 0)]])
/-- DiceLaw$Chances.metBy(II)J -/
def me205 : ME := ((1, yX1_metBy, prog_3_method_11_code), (4, 3, 1, 3), [0, 23, 36], [
  [(.aload 0, 0), (.checkcast 1, 2), (.iload 1, 0), (.iconst (6), 0), (.imul, 0), (.iload 2, 0), (.iadd, 0), (.invokestatic 61, 2), (.istore 3, 0), (.iload 3, 0), (.iconst (-1), 0), (.if_icmp .ne 1, 0), (.sipush (0), 0), (.goto 2, 0)],
  [(.aload 0, 0), (.checkcast 1, 8), (.iload 1, 0), (.iconst (6), 0), (.imul, 0), (.iload 3, 0), (.iadd, 0), (.invokestatic 62, 2), (.jsr 2, 0)],
  [(.lreturn, 0)]])
/-- DiceLaw$Cursor.<init>()V -/
def me206 : ME := ((2, yX2_init, prog_4_method_1_code), (1, 0, 2, 1), [0], [
  [(.aload 0, 0), (.monitorexit, 0), (.return_, 0)]])
/-- DiceLaw$Cursor.start(LDiceLaw$Text;)V -/
def me207 : ME := ((2, yX2_start, prog_4_method_2_code), (2, 0, 1, 2), [0], [
  [(.aload 0, 0), (.aload 1, 0), (.instanceof 2, 0), (.aload 0, 0), (.iconst (0), 0), (.putfield 2, 1), (.aload 0, 0), (.iconst (-1), 0), (.putfield 2, 2), (.return_, 0)]])
/-- DiceLaw$Cursor.peek()I -/
def me208 : ME := ((2, yX2_peek, prog_4_method_3_code), (2, 1, 1, 1), [0, 15, 17, 25, 73, 86], [
  [(.aload 0, 0), (.getfield 2, 2), (.iconst (-1), 0), (.if_icmp .ne 1, 0), (.aload 0, 0), (.checkcast 2, 0), (.ifnonnull 2, 0), (.jsr 1, 0)],
  [(.iconst (0), 0), (.ireturn, 0)],
  [(.aload 0, 0), (.checkcast 2, 0), (.checkcast 8, 0), (.astore 1, 0), (.jsr 3, 0)],
  [(.aload 0, 0), (.getfield 2, 1), (.ifCond .lt 5, 0), (.aload 0, 0), (.getfield 2, 1), (.aload 0, 0), (.checkcast 2, 0), (.getfield 8, 1), (.if_icmp .ge 5, 0), (.aload 0, 0), (.getfield 2, 1), (.aload 1, 0), (.arraylength, 0), (.if_icmp .ge 5, 0), (.aload 1, 0), (.aload 0, 0), (.getfield 2, 1), (.iaload, 0), (.iconst (32), 0), (.if_icmp .eq 4, 0), (.aload 1, 0), (.aload 0, 0), (.getfield 2, 1), (.iaload, 0), (.ireturn, 0)],
  [(.aload 0, 0), (.dup, 0), (.getfield 2, 1), (.iconst (1), 0), (.iadd, 0), (.putfield 2, 1), (.goto 3, 0)],
  [(.iconst (0), 0), (.ireturn, 0)]])
/-- DiceLaw$Cursor.here()I -/
def me209 : ME := ((2, yX2_here, prog_4_method_4_code), (1, 1, 1, 1), [0, 43, 45], [
  [(.aload 0, 0), (.checkcast 2, 0), (.ifnull 1, 0), (.aload 0, 0), (.getfield 2, 1), (.ifCond .lt 1, 0), (.aload 0, 0), (.getfield 2, 1), (.aload 0, 0), (.checkcast 2, 0), (.getfield 8, 1), (.if_icmp .ge 1, 0), (.aload 0, 0), (.getfield 2, 1), (.aload 0, 0), (.checkcast 2, 0), (.checkcast 8, 0), (.arraylength, 0), (.if_icmp .lt 2, 0), (.jsr 1, 0)],
  [(.iconst (0), 0), (.ireturn, 0)],
  [(.aload 0, 0), (.checkcast 2, 0), (.checkcast 8, 0), (.aload 0, 0), (.getfield 2, 1), (.iaload, 0), (.ireturn, 0)]])
/-- DiceLaw$Cursor.step()V -/
def me210 : ME := ((2, yX2_step, prog_4_method_5_code), (1, 0, 1, 1), [0], [
  [(.aload 0, 0), (.dup, 0), (.getfield 2, 1), (.iconst (1), 0), (.iadd, 0), (.putfield 2, 1), (.return_, 0)]])
/-- DiceLaw$Cursor.accept(I)Z -/
def me211 : ME := ((2, yX2_accept, prog_4_method_6_code), (2, 2, 1, 2), [0, 10], [
  [(.aload 0, 0), (.invokeinterface 208 1, 2), (.iload 1, 0), (.if_icmp .eq 1, 0), (.iconst (0), 0), (.ireturn, 1)],
  [(.aload 0, 0), (.dup, 0), (.getfield 2, 1), (.iconst (1), 0), (.iadd, 0), (.putfield 2, 1), (.iconst (1), 0), (.ireturn, 1)]])
/-- DiceLaw$Cursor.need(I)V -/
def me212 : ME := ((2, yX2_need, prog_4_method_7_code), (2, 0, 1, 2), [0, 21, 25], [
  [(.aload 0, 0), (.invokeinterface 208 1, 2), (.iload 1, 0), (.if_icmp .ne 1, 0), (.aload 0, 0), (.dup, 0), (.getfield 2, 1), (.iconst (1), 0), (.iadd, 0), (.putfield 2, 1), (.goto 2, 0)],
  [(.aload 0, 0), (.invokeinterface 215 1, 2), (.jsr 2, 0)],
  [(.return_, 0)]])
/-- DiceLaw$Cursor.needEnd()V -/
def me213 : ME := ((2, yX2_needEnd, prog_4_method_8_code), (1, 0, 1, 1), [0, 11], [
  [(.aload 0, 0), (.invokeinterface 208 1, 2), (.ifCond .eq 1, 0), (.aload 0, 0), (.invokeinterface 215 1, 2), (.jsr 1, 0)],
  [(.return_, 0)]])
/-- DiceLaw$Cursor.needOneOf(II)I -/
def me214 : ME := ((2, yX2_needOneOf, prog_4_method_9_code), (4, 1, 1, 3), [0, 15, 21], [
  [(.aload 0, 0), (.invokeinterface 208 1, 2), (.istore 3, 0), (.iload 3, 0), (.iload 1, 0), (.if_icmp .lt 1, 0), (.iload 3, 0), (.iload 2, 0), (.if_icmp .le 2, 0), (.jsr 1, 0)],
  [(.aload 0, 0), (.invokeinterface 215 1, 2), (.iconst (0), 0), (.ireturn, 0)],
  [(.aload 0, 0), (.dup, 0), (.getfield 2, 1), (.iconst (1), 0), (.iadd, 0), (.putfield 2, 1), (.iload 3, 0), (.iload 1, 0), (.isub, 0), (.ireturn, 0)]])
/-- DiceLaw$Cursor.fail()V -/
def me215 : ME := ((2, yX2_fail, prog_4_method_10_code), (1, 0, 1, 1), [0, 16], [
  [(.aload 0, 0), (.getfield 2, 2), (.iconst (-1), 0), (.if_icmp .ne 1, 0), (.aload 0, 0), (.aload 0, 0), (.getfield 2, 1), (.putfield 2, 2), (.jsr 1, 0)],
  [(.return_, 0)]])
/-- DiceLaw$Diary.<init>()V -/
def me216 : ME := ((3, yX3_init, prog_5_method_1_code), (1, 0, 2, 1), [0], [
  [(.aload 0, 0), (.monitorexit, 0), (.aload 0, 0), (.iconst (200), 0), (.newarray .int, 0), (.instanceof 3, 4), (.aload 0, 0), (.iconst (200), 0), (.newarray .int, 0), (.instanceof 3, 5), (.aload 0, 0), (.iconst (40), 0), (.newarray .int, 0), (.instanceof 3, 6), (.aload 0, 0), (.iconst (240), 0), (.newarray .int, 0), (.instanceof 3, 7), (.aload 0, 0), (.iconst (40), 0), (.newarray .long, 0), (.instanceof 3, 8), (.aload 0, 0), (.iconst (5), 0), (.newarray .int, 0), (.instanceof 3, 9), (.return_, 0)]])
/-- DiceLaw$Diary.has(I)Z -/
def me217 : ME := ((3, yX3_has, prog_5_method_2_code), (2, 2, 1, 2), [0, 16, 17], [
  [(.iload 1, 0), (.ifCond .lt 1, 0), (.iload 1, 0), (.aload 0, 0), (.getfield 3, 2), (.if_icmp .ge 1, 0), (.iconst (1), 0), (.goto 2, 0)],
  [(.iconst (0), 0), (.jsr 2, 0)],
  [(.ireturn, 1)]])
/-- DiceLaw$Diary.add(LDiceLaw$Book;[IIJ)I -/
def me218 : ME := ((3, yX3_add, prog_5_method_3_code), (8, 1, 1, 5), [0, 11, 86, 89, 133], [
  [(.aload 0, 0), (.aload 1, 0), (.getfield 0, 0), (.putfield 3, 1), (.iconst (0), 0), (.istore 6, 0), (.jsr 1, 0)],
  [(.iload 6, 0), (.aload 0, 0), (.getfield 3, 1), (.if_icmp .ge 2, 0), (.aload 1, 0), (.iload 6, 0), (.aload 2, 0), (.iload 6, 0), (.invokestatic 61, 2), (.invokeinterface 192 3, 0), (.istore 7, 0), (.aload 0, 0), (.checkcast 3, 4), (.aload 0, 0), (.getfield 3, 2), (.iconst (5), 0), (.imul, 0), (.iload 6, 0), (.iadd, 0), (.aload 2, 0), (.iload 6, 0), (.invokestatic 61, 2), (.invokestatic 63, 3), (.aload 0, 0), (.checkcast 3, 9), (.iload 6, 0), (.iload 7, 0), (.aload 0, 0), (.getfield 3, 1), (.aload 0, 0), (.iload 6, 0), (.invokeinterface 223 2, 3), (.invokestatic 74, 3), (.invokestatic 63, 3), (.iinc 6 (1), 0), (.goto 1, 0)],
  [(.iconst (0), 0), (.istore 6, 0), (.jsr 3, 0)],
  [(.iload 6, 0), (.aload 0, 0), (.getfield 3, 1), (.if_icmp .ge 4, 0), (.aload 0, 0), (.checkcast 3, 5), (.aload 0, 0), (.getfield 3, 2), (.iconst (5), 0), (.imul, 0), (.iload 6, 0), (.iadd, 0), (.aload 0, 0), (.checkcast 3, 9), (.aload 0, 0), (.getfield 3, 1), (.iload 6, 0), (.invokestatic 75, 3), (.invokestatic 63, 3), (.iinc 6 (1), 0), (.goto 3, 0)],
  [(.aload 0, 0), (.checkcast 3, 6), (.aload 0, 0), (.getfield 3, 2), (.iload 3, 0), (.invokestatic 63, 3), (.aload 0, 0), (.checkcast 3, 8), (.aload 0, 0), (.getfield 3, 2), (.lload 4, 0), (.invokestatic 64, 3), (.aload 0, 0), (.dup, 0), (.getfield 3, 2), (.iconst (1), 0), (.iadd, 0), (.putfield 3, 2), (.aload 0, 0), (.getfield 3, 2), (.ireturn, 0)]])
/-- DiceLaw$Diary.drop()I -/
def me219 : ME := ((3, yX3_drop, prog_5_method_4_code), (2, 1, 1, 1), [0, 27, 84], [
  [(.aload 0, 0), (.dup, 0), (.getfield 3, 2), (.iconst (1), 0), (.isub, 0), (.putfield 3, 2), (.aload 0, 0), (.aload 0, 0), (.checkcast 3, 8), (.aload 0, 0), (.getfield 3, 2), (.invokestatic 62, 2), (.putstatic 3, 0), (.iconst (0), 0), (.istore 1, 0), (.jsr 1, 0)],
  [(.iload 1, 0), (.iconst (6), 0), (.if_icmp .ge 2, 0), (.aload 0, 0), (.dup, 0), (.getfield 3, 3), (.aload 0, 0), (.checkcast 3, 7), (.aload 0, 0), (.getfield 3, 2), (.iconst (6), 0), (.imul, 0), (.iload 1, 0), (.iadd, 0), (.invokestatic 61, 2), (.invokestatic 276, 1), (.isub, 0), (.putfield 3, 3), (.aload 0, 0), (.checkcast 3, 7), (.aload 0, 0), (.getfield 3, 2), (.iconst (6), 0), (.imul, 0), (.iload 1, 0), (.iadd, 0), (.iconst (0), 0), (.invokestatic 63, 3), (.iinc 1 (1), 0), (.goto 1, 0)],
  [(.aload 0, 0), (.getfield 3, 2), (.ireturn, 0)]])
/-- DiceLaw$Diary.digits(I)I -/
def me220 : ME := ((3, yX3_digits, prog_5_method_5_code), (4, 1, 1, 2), [0, 4, 30], [
  [(.iconst (0), 0), (.istore 2, 0), (.iconst (0), 0), (.istore 3, 0), (.jsr 1, 0)],
  [(.iload 3, 0), (.aload 0, 0), (.getfield 3, 1), (.if_icmp .ge 2, 0), (.iload 2, 0), (.iconst (6), 0), (.imul, 0), (.aload 0, 0), (.iload 3, 0), (.iload 1, 0), (.invokeinterface 221 3, 3), (.iadd, 0), (.istore 2, 0), (.iinc 3 (1), 0), (.goto 1, 0)],
  [(.iload 2, 0), (.ireturn, 0)]])
/-- DiceLaw$Diary.faceOf(II)I -/
def me221 : ME := ((3, yX3_faceOf, prog_5_method_6_code), (3, 1, 1, 3), [0], [
  [(.aload 0, 0), (.checkcast 3, 4), (.iload 2, 0), (.iconst (5), 0), (.imul, 0), (.iload 1, 0), (.iadd, 0), (.invokestatic 61, 2), (.ireturn, 0)]])
/-- DiceLaw$Diary.holdingOf(II)I -/
def me222 : ME := ((3, yX3_holdingOf, prog_5_method_7_code), (3, 1, 1, 3), [0], [
  [(.aload 0, 0), (.checkcast 3, 5), (.iload 2, 0), (.iconst (5), 0), (.imul, 0), (.iload 1, 0), (.iadd, 0), (.invokestatic 61, 2), (.ireturn, 0)]])
/-- DiceLaw$Diary.today(I)I -/
def me223 : ME := ((3, yX3_today, prog_5_method_8_code), (2, 1, 1, 2), [0, 11, 22], [
  [(.aload 0, 0), (.getfield 3, 2), (.ifCond .ne 1, 0), (.iconst (0), 0), (.goto 2, 0)],
  [(.aload 0, 0), (.iload 1, 0), (.aload 0, 0), (.getfield 3, 2), (.iconst (1), 0), (.isub, 0), (.invokeinterface 222 3, 3), (.jsr 2, 0)],
  [(.ireturn, 0)]])
/-- DiceLaw$Diary.by(II)I -/
def me224 : ME := ((3, yX3_by, prog_5_method_9_code), (3, 1, 1, 3), [0], [
  [(.aload 0, 0), (.checkcast 3, 5), (.iload 1, 0), (.iconst (5), 0), (.imul, 0), (.aload 0, 0), (.getfield 3, 1), (.iload 2, 0), (.invokestatic 77, 4), (.ireturn, 0)]])
/-- DiceLaw$Diary.lawfulOn(II)Z -/
def me225 : ME := ((3, yX3_lawfulOn, prog_5_method_10_code), (3, 2, 1, 3), [0], [
  [(.aload 0, 0), (.checkcast 3, 5), (.iload 1, 0), (.iconst (5), 0), (.imul, 0), (.aload 0, 0), (.getfield 3, 1), (.iload 2, 0), (.invokestatic 78, 4), (.ireturn, 1)]])
/-- DiceLaw$Diary.boundOn(II)Z -/
def me226 : ME := ((3, yX3_boundOn, prog_5_method_11_code), (3, 2, 1, 3), [0], [
  [(.aload 0, 0), (.checkcast 3, 5), (.iload 1, 0), (.iconst (5), 0), (.imul, 0), (.aload 0, 0), (.getfield 3, 1), (.iload 2, 0), (.invokestatic 79, 4), (.ireturn, 1)]])
/-- DiceLaw$Diary.isPeaceful(I)Z -/
def me227 : ME := ((3, yX3_isPeaceful, prog_5_method_12_code), (3, 2, 1, 2), [0, 2, 22, 28], [
  [(.iconst (0), 0), (.istore 2, 0), (.jsr 1, 0)],
  [(.iload 2, 0), (.iconst (6), 0), (.if_icmp .ge 3, 0), (.aload 0, 0), (.iload 1, 0), (.iconst (20), 0), (.iload 2, 0), (.iadd, 0), (.invokeinterface 224 3, 3), (.ifCond .le 2, 0), (.iconst (0), 0), (.ireturn, 1)],
  [(.iinc 2 (1), 0), (.goto 1, 0)],
  [(.iconst (1), 0), (.ireturn, 1)]])
/-- DiceLaw$Diary.did(III)Z -/
def me228 : ME := ((3, yX3_did, prog_5_method_13_code), (4, 2, 1, 4), [0, 24, 25], [
  [(.aload 0, 0), (.checkcast 3, 7), (.iload 3, 0), (.iconst (6), 0), (.imul, 0), (.iload 1, 0), (.iadd, 0), (.invokestatic 61, 2), (.iload 2, 0), (.ishr, 0), (.iconst (1), 0), (.iand, 0), (.ifCond .eq 1, 0), (.iconst (1), 0), (.goto 2, 0)],
  [(.iconst (0), 0), (.jsr 2, 0)],
  [(.ireturn, 1)]])
/-- DiceLaw$Diary.enter(III)I -/
def me229 : ME := ((3, yX3_enter, prog_5_method_14_code), (5, 1, 1, 4), [0], [
  [(.iload 3, 0), (.iconst (6), 0), (.imul, 0), (.iload 1, 0), (.iadd, 0), (.istore 4, 0), (.aload 0, 0), (.checkcast 3, 7), (.iload 4, 0), (.aload 0, 0), (.checkcast 3, 7), (.iload 4, 0), (.invokestatic 61, 2), (.iconst (1), 0), (.iload 2, 0), (.ishl, 0), (.ior, 0), (.invokestatic 63, 3), (.aload 0, 0), (.dup, 0), (.getfield 3, 3), (.iconst (1), 0), (.iadd, 0), (.putfield 3, 3), (.aload 0, 0), (.getfield 3, 3), (.ireturn, 0)]])
/-- DiceLaw$Diary.breach(III)I -/
def me230 : ME := ((3, yX3_breach, prog_5_method_15_code), (6, 1, 1, 4), [0, 27, 31, 37, 61, 62, 69, 70], [
  [(.aload 0, 0), (.iload 1, 0), (.iload 2, 0), (.iload 3, 0), (.invokeinterface 228 4, 3), (.istore 4, 0), (.iload 4, 0), (.ifCond .eq 2, 0), (.aload 0, 0), (.iload 3, 0), (.iload 2, 0), (.invokeinterface 225 3, 3), (.ifCond .ne 1, 0), (.iconst (1), 0), (.goto 3, 0)],
  [(.iconst (0), 0), (.goto 3, 0)],
  [(.aload 0, 0), (.iload 3, 0), (.iload 2, 0), (.invokeinterface 226 3, 3), (.jsr 3, 0)],
  [(.istore 5, 0), (.iload 5, 0), (.ifCond .eq 6, 0), (.iconst (12), 0), (.iload 3, 0), (.imul, 0), (.iconst (2), 0), (.iload 2, 0), (.imul, 0), (.iadd, 0), (.iload 4, 0), (.ifCond .ne 4, 0), (.iconst (1), 0), (.goto 5, 0)],
  [(.iconst (0), 0), (.jsr 5, 0)],
  [(.invokestatic 69, 1), (.iadd, 0), (.goto 7, 0)],
  [(.iconst (-1), 0), (.jsr 7, 0)],
  [(.ireturn, 0)]])
/-- DiceLaw$Diary.take(LDiceLaw$Diary;)V -/
def me231 : ME := ((3, yX3_take, prog_5_method_16_code), (3, 0, 1, 2), [0, 78, 109], [
  [(.aload 0, 0), (.aload 1, 0), (.getstatic 3, 0), (.putstatic 3, 0), (.aload 0, 0), (.aload 1, 0), (.getfield 3, 1), (.putfield 3, 1), (.aload 0, 0), (.aload 1, 0), (.getfield 3, 2), (.putfield 3, 2), (.aload 0, 0), (.aload 1, 0), (.getfield 3, 3), (.putfield 3, 3), (.aload 1, 0), (.checkcast 3, 4), (.aload 0, 0), (.checkcast 3, 4), (.invokestatic 68, 2), (.aload 1, 0), (.checkcast 3, 5), (.aload 0, 0), (.checkcast 3, 5), (.invokestatic 68, 2), (.aload 1, 0), (.checkcast 3, 6), (.aload 0, 0), (.checkcast 3, 6), (.invokestatic 68, 2), (.aload 1, 0), (.checkcast 3, 7), (.aload 0, 0), (.checkcast 3, 7), (.invokestatic 68, 2), (.iconst (0), 0), (.istore 2, 0), (.jsr 1, 0)],
  [(.iload 2, 0), (.aload 0, 0), (.checkcast 3, 8), (.arraylength, 0), (.if_icmp .ge 2, 0), (.aload 0, 0), (.checkcast 3, 8), (.iload 2, 0), (.aload 1, 0), (.checkcast 3, 8), (.iload 2, 0), (.invokestatic 62, 2), (.invokestatic 64, 3), (.iinc 2 (1), 0), (.goto 1, 0)],
  [(.return_, 0)]])
/-- DiceLaw$Dice.<init>()V -/
def me232 : ME := ((4, yX4_init, prog_6_method_1_code), (1, 0, 2, 1), [0], [
  [(.aload 0, 0), (.monitorexit, 0), (.aload 0, 0), (.iconst (5), 0), (.newarray .int, 0), (.instanceof 4, 0), (.aload 0, 0), (.iconst (5), 0), (.newarray .int, 0), (.instanceof 4, 1), (.return_, 0)]])
/-- DiceLaw$Dice.lay(II)Z -/
def me233 : ME := ((4, yX4_lay, prog_6_method_2_code), (5, 2, 1, 3), [0, 7, 36, 48, 49], [
  [(.iload 2, 0), (.istore 3, 0), (.iload 1, 0), (.iconst (1), 0), (.isub, 0), (.istore 4, 0), (.jsr 1, 0)],
  [(.iload 4, 0), (.ifCond .lt 2, 0), (.aload 0, 0), (.checkcast 4, 0), (.iload 4, 0), (.iload 3, 0), (.iconst (6), 0), (.irem, 0), (.invokestatic 63, 3), (.iload 3, 0), (.iconst (6), 0), (.idiv, 0), (.istore 3, 0), (.iinc 4 (-1), 0), (.goto 1, 0)],
  [(.iload 2, 0), (.ifCond .lt 3, 0), (.iload 3, 0), (.ifCond .ne 3, 0), (.iconst (1), 0), (.goto 4, 0)],
  [(.iconst (0), 0), (.jsr 4, 0)],
  [(.ireturn, 1)]])
/-- DiceLaw$Dice.throwAll(LDiceLaw$Book;J)J -/
def me234 : ME := ((4, yX4_throwAll, prog_6_method_3_code), (8, 3, 1, 3), [0, 13, 35, 41, 73, 123], [
  [(.aload 0, 0), (.lload 2, 0), (.putstatic 4, 3), (.aload 0, 0), (.iconst (0), 0), (.putfield 4, 2), (.iconst (0), 0), (.istore 4, 0), (.jsr 1, 0)],
  [(.iload 4, 0), (.aload 1, 0), (.getfield 0, 0), (.if_icmp .ge 2, 0), (.aload 0, 0), (.aload 1, 0), (.iload 4, 0), (.invokeinterface 235 3, 4), (.iinc 4 (1), 0), (.goto 1, 0)],
  [(.iconst (0), 0), (.istore 4, 0), (.iconst (0), 0), (.istore 5, 0), (.jsr 3, 0)],
  [(.iload 5, 0), (.iconst (3), 0), (.if_icmp .ge 5, 0), (.aload 0, 0), (.checkcast 4, 1), (.aload 1, 0), (.getfield 0, 0), (.iload 4, 0), (.invokestatic 76, 3), (.istore 6, 0), (.iload 6, 0), (.iconst (-1), 0), (.if_icmp .ne 4, 0), (.aload 0, 0), (.getstatic 4, 3), (.lreturn, 0)],
  [(.aload 0, 0), (.checkcast 4, 1), (.iload 6, 0), (.invokestatic 61, 2), (.istore 7, 0), (.iload 4, 0), (.iconst (1), 0), (.iload 6, 0), (.ishl, 0), (.ior, 0), (.iconst (1), 0), (.iload 7, 0), (.ishl, 0), (.iconst (-1), 0), (.ixor, 0), (.iand, 0), (.istore 4, 0), (.aload 0, 0), (.aload 1, 0), (.iload 7, 0), (.invokeinterface 235 3, 4), (.aload 0, 0), (.dup, 0), (.getfield 4, 2), (.iconst (1), 0), (.iadd, 0), (.putfield 4, 2), (.iinc 5 (1), 0), (.goto 3, 0)],
  [(.aload 0, 0), (.getstatic 4, 3), (.lreturn, 0)]])
/-- DiceLaw$Dice.throwOne(LDiceLaw$Book;I)V -/
def me235 : ME := ((4, yX4_throwOne, prog_6_method_4_code), (8, 0, 1, 3), [0, 42, 79], [
  [(.aload 0, 0), (.aload 0, 0), (.getstatic 4, 3), (.sipush (6364136223846793005), 0), (.lmul, 0), (.sipush (1442695040888963407), 0), (.ladd, 0), (.putstatic 4, 3), (.aload 0, 0), (.getstatic 4, 3), (.iconst (33), 0), (.lushr, 0), (.sipush (12), 0), (.lrem, 0), (.lstore 3, 0), (.iconst (0), 0), (.istore 5, 0), (.aload 1, 0), (.iload 2, 0), (.iconst (0), 0), (.invokeinterface 193 3, 0), (.istore 6, 0), (.iconst (1), 0), (.istore 7, 0), (.jsr 1, 0)],
  [(.iload 7, 0), (.iconst (6), 0), (.if_icmp .ge 2, 0), (.iload 6, 0), (.i2l, 0), (.lload 3, 0), (.lcmp, 0), (.ifCond .gt 2, 0), (.iload 7, 0), (.istore 5, 0), (.iload 6, 0), (.aload 1, 0), (.iload 2, 0), (.iload 7, 0), (.invokeinterface 193 3, 0), (.iadd, 0), (.istore 6, 0), (.iinc 7 (1), 0), (.goto 1, 0)],
  [(.aload 0, 0), (.checkcast 4, 0), (.iload 2, 0), (.iload 5, 0), (.invokestatic 63, 3), (.aload 0, 0), (.checkcast 4, 1), (.iload 2, 0), (.aload 1, 0), (.iload 2, 0), (.iload 5, 0), (.invokeinterface 192 3, 0), (.aload 1, 0), (.getfield 0, 0), (.invokestatic 73, 2), (.invokestatic 63, 3), (.return_, 0)]])
/-- DiceLaw$Kinds.<init>()V -/
def me236 : ME := ((5, yX5_init, prog_7_method_1_code), (1, 0, 2, 1), [0], [
  [(.aload 0, 0), (.monitorexit, 0), (.aload 0, 0), (.iconst (5), 0), (.newarray .int, 0), (.instanceof 5, 0), (.aload 0, 0), (.iconst (30), 0), (.newarray .int, 0), (.instanceof 5, 1), (.aload 0, 0), (.iconst (30), 0), (.newarray .int, 0), (.instanceof 5, 2), (.return_, 0)]])
/-- DiceLaw$Kinds.empty()V -/
def me237 : ME := ((5, yX5_empty, prog_7_method_2_code), (2, 0, 1, 1), [0, 2, 22], [
  [(.iconst (0), 0), (.istore 1, 0), (.jsr 1, 0)],
  [(.iload 1, 0), (.iconst (5), 0), (.if_icmp .ge 2, 0), (.aload 0, 0), (.checkcast 5, 0), (.iload 1, 0), (.iconst (0), 0), (.invokestatic 63, 3), (.iinc 1 (1), 0), (.goto 1, 0)],
  [(.return_, 0)]])
/-- DiceLaw$Kinds.add(III)I -/
def me238 : ME := ((5, yX5_add, prog_7_method_3_code), (6, 1, 1, 4), [0, 13, 57, 63], [
  [(.aload 0, 0), (.checkcast 5, 0), (.iload 1, 0), (.invokestatic 61, 2), (.istore 4, 0), (.iconst (0), 0), (.istore 5, 0), (.jsr 1, 0)],
  [(.iload 5, 0), (.iload 4, 0), (.if_icmp .ge 3, 0), (.aload 0, 0), (.iload 1, 0), (.iload 5, 0), (.invokeinterface 239 3, 5), (.iload 2, 0), (.if_icmp .ne 2, 0), (.aload 0, 0), (.checkcast 5, 2), (.iload 1, 0), (.iconst (6), 0), (.imul, 0), (.iload 5, 0), (.iadd, 0), (.aload 0, 0), (.iload 1, 0), (.iload 5, 0), (.invokeinterface 240 3, 5), (.iload 3, 0), (.iadd, 0), (.invokestatic 63, 3), (.iload 5, 0), (.ireturn, 0)],
  [(.iinc 5 (1), 0), (.goto 1, 0)],
  [(.aload 0, 0), (.checkcast 5, 1), (.iload 1, 0), (.iconst (6), 0), (.imul, 0), (.iload 4, 0), (.iadd, 0), (.iload 2, 0), (.invokestatic 63, 3), (.aload 0, 0), (.checkcast 5, 2), (.iload 1, 0), (.iconst (6), 0), (.imul, 0), (.iload 4, 0), (.iadd, 0), (.iload 3, 0), (.invokestatic 63, 3), (.aload 0, 0), (.checkcast 5, 0), (.iload 1, 0), (.iload 4, 0), (.iconst (1), 0), (.iadd, 0), (.invokestatic 63, 3), (.iload 4, 0), (.ireturn, 0)]])
/-- DiceLaw$Kinds.signOf(II)I -/
def me239 : ME := ((5, yX5_signOf, prog_7_method_4_code), (3, 1, 1, 3), [0], [
  [(.aload 0, 0), (.checkcast 5, 1), (.iload 1, 0), (.iconst (6), 0), (.imul, 0), (.iload 2, 0), (.iadd, 0), (.invokestatic 61, 2), (.ireturn, 0)]])
/-- DiceLaw$Kinds.shareOf(II)I -/
def me240 : ME := ((5, yX5_shareOf, prog_7_method_5_code), (3, 1, 1, 3), [0], [
  [(.aload 0, 0), (.checkcast 5, 2), (.iload 1, 0), (.iconst (6), 0), (.imul, 0), (.iload 2, 0), (.iadd, 0), (.invokestatic 61, 2), (.ireturn, 0)]])
/-- DiceLaw$LawReader.<init>()V -/
def me241 : ME := ((6, yX6_init, prog_8_method_1_code), (1, 0, 2, 1), [0], [
  [(.aload 0, 0), (.monitorexit, 0), (.aload 0, 0), (.new 2, 3), (.dup, 0), (.invokeinterface 206 1, 2), (.instanceof 6, 0), (.aload 0, 0), (.iconst (6), 0), (.newarray .int, 0), (.instanceof 6, 1), (.return_, 0)]])
/-- DiceLaw$LawReader.read(LDiceLaw$Text;)I -/
def me242 : ME := ((6, yX6_read, prog_8_method_2_code), (3, 1, 1, 2), [0, 10, 29, 47], [
  [(.aload 0, 0), (.checkcast 6, 0), (.aload 1, 0), (.invokeinterface 207 2, 2), (.iconst (0), 0), (.istore 2, 0), (.jsr 1, 0)],
  [(.iload 2, 0), (.iconst (6), 0), (.if_icmp .ge 3, 0), (.iload 2, 0), (.ifCond .le 2, 0), (.aload 0, 0), (.checkcast 6, 0), (.iconst (44), 0), (.invokeinterface 212 2, 2), (.jsr 2, 0)],
  [(.aload 0, 0), (.checkcast 6, 1), (.iload 2, 0), (.aload 0, 0), (.invokeinterface 243 1, 6), (.invokestatic 63, 3), (.iinc 2 (1), 0), (.goto 1, 0)],
  [(.aload 0, 0), (.checkcast 6, 0), (.invokeinterface 213 1, 2), (.aload 0, 0), (.checkcast 6, 0), (.getfield 2, 2), (.ireturn, 0)]])
/-- DiceLaw$LawReader.readClause()I -/
def me243 : ME := ((6, yX6_readClause, prog_8_method_3_code), (1, 1, 1, 1), [0, 14, 41, 68, 95, 122, 149], [
  [(.aload 0, 0), (.checkcast 6, 0), (.iconst (46), 0), (.invokeinterface 211 2, 2), (.ifCond .eq 1, 0), (.iconst (0), 0), (.ireturn, 0)],
  [(.aload 0, 0), (.checkcast 6, 0), (.iconst (109), 0), (.invokeinterface 211 2, 2), (.ifCond .eq 2, 0), (.iconst (10), 0), (.aload 0, 0), (.checkcast 6, 0), (.iconst (97), 0), (.iconst (102), 0), (.invokeinterface 214 3, 2), (.iadd, 0), (.ireturn, 0)],
  [(.aload 0, 0), (.checkcast 6, 0), (.iconst (110), 0), (.invokeinterface 211 2, 2), (.ifCond .eq 3, 0), (.iconst (20), 0), (.aload 0, 0), (.checkcast 6, 0), (.iconst (97), 0), (.iconst (102), 0), (.invokeinterface 214 3, 2), (.iadd, 0), (.ireturn, 0)],
  [(.aload 0, 0), (.checkcast 6, 0), (.iconst (111), 0), (.invokeinterface 211 2, 2), (.ifCond .eq 4, 0), (.iconst (30), 0), (.aload 0, 0), (.checkcast 6, 0), (.iconst (97), 0), (.iconst (102), 0), (.invokeinterface 214 3, 2), (.iadd, 0), (.ireturn, 0)],
  [(.aload 0, 0), (.checkcast 6, 0), (.iconst (116), 0), (.invokeinterface 211 2, 2), (.ifCond .eq 5, 0), (.iconst (40), 0), (.aload 0, 0), (.checkcast 6, 0), (.iconst (48), 0), (.iconst (52), 0), (.invokeinterface 214 3, 2), (.iadd, 0), (.ireturn, 0)],
  [(.aload 0, 0), (.checkcast 6, 0), (.iconst (99), 0), (.invokeinterface 211 2, 2), (.ifCond .eq 6, 0), (.iconst (50), 0), (.aload 0, 0), (.checkcast 6, 0), (.iconst (48), 0), (.iconst (52), 0), (.invokeinterface 214 3, 2), (.iadd, 0), (.ireturn, 0)],
  [(.aload 0, 0), (.checkcast 6, 0), (.iconst (121), 0), (.invokeinterface 212 2, 2), (.iconst (60), 0), (.ireturn, 0)]])
/-- DiceLaw$RuleReader.<init>()V -/
def me244 : ME := ((7, yX7_init, prog_9_method_1_code), (1, 0, 2, 1), [0], [
  [(.aload 0, 0), (.monitorexit, 0), (.aload 0, 0), (.new 2, 3), (.dup, 0), (.invokeinterface 206 1, 2), (.instanceof 7, 0), (.aload 0, 0), (.iconst (6), 0), (.newarray .int, 0), (.instanceof 7, 1), (.return_, 0)]])
/-- DiceLaw$RuleReader.read(LDiceLaw$Text;[I)I -/
def me245 : ME := ((7, yX7_read, prog_9_method_2_code), (4, 1, 1, 3), [0, 32, 60], [
  [(.aload 2, 0), (.aload 0, 0), (.checkcast 7, 1), (.invokestatic 68, 2), (.aload 0, 0), (.checkcast 7, 0), (.aload 1, 0), (.invokeinterface 207 2, 2), (.aload 0, 0), (.iconst (0), 0), (.putfield 7, 2), (.aload 0, 0), (.iconst (0), 0), (.ret 7, 3), (.aload 0, 0), (.invokeinterface 246 1, 7), (.iconst (0), 0), (.istore 3, 0), (.jsr 1, 0)],
  [(.iload 3, 0), (.iconst (120), 0), (.if_icmp .ge 2, 0), (.aload 0, 0), (.checkcast 7, 0), (.iconst (59), 0), (.invokeinterface 211 2, 2), (.ifCond .eq 2, 0), (.aload 0, 0), (.invokeinterface 246 1, 7), (.iinc 3 (1), 0), (.goto 1, 0)],
  [(.aload 0, 0), (.checkcast 7, 0), (.invokeinterface 213 1, 2), (.aload 0, 0), (.checkcast 7, 0), (.getfield 2, 2), (.ireturn, 0)]])
/-- DiceLaw$RuleReader.readClause()V -/
def me246 : ME := ((7, yX7_readClause, prog_9_method_3_code), (5, 0, 1, 1), [0, 38, 42, 43, 52, 57, 78, 87, 88, 118, 140], [
  [(.aload 0, 0), (.checkcast 7, 0), (.iconst (121), 0), (.invokeinterface 212 2, 2), (.aload 0, 0), (.checkcast 7, 0), (.iconst (58), 0), (.invokeinterface 212 2, 2), (.aload 0, 0), (.checkcast 7, 0), (.invokeinterface 208 1, 2), (.istore 1, 0), (.iload 1, 0), (.iconst (33), 0), (.if_icmp .eq 1, 0), (.iload 1, 0), (.iconst (40), 0), (.if_icmp .ne 2, 0), (.jsr 1, 0)],
  [(.iconst (1), 0), (.goto 3, 0)],
  [(.iconst (0), 0), (.jsr 3, 0)],
  [(.istore 2, 0), (.iload 2, 0), (.ifCond .eq 4, 0), (.iconst (0), 0), (.goto 5, 0)],
  [(.aload 0, 0), (.iconst (0), 0), (.invokeinterface 250 2, 7), (.jsr 5, 0)],
  [(.istore 3, 0), (.iconst (1), 0), (.istore 4, 0), (.iload 2, 0), (.ifCond .ne 6, 0), (.aload 0, 0), (.checkcast 7, 0), (.invokeinterface 208 1, 2), (.invokestatic 256, 1), (.ifCond .eq 9, 0), (.jsr 6, 0)],
  [(.aload 0, 0), (.iload 2, 0), (.ifCond .ne 7, 0), (.iconst (1), 0), (.goto 8, 0)],
  [(.iconst (0), 0), (.jsr 8, 0)],
  [(.ret 7, 4), (.aload 0, 0), (.iload 3, 0), (.putfield 7, 5), (.aload 0, 0), (.iconst (0), 0), (.invokeinterface 247 2, 7), (.istore 4, 0), (.aload 0, 0), (.checkcast 7, 0), (.iconst (63), 0), (.invokeinterface 212 2, 2), (.aload 0, 0), (.iconst (0), 0), (.invokeinterface 250 2, 7), (.istore 3, 0), (.jsr 9, 0)],
  [(.iload 4, 0), (.ifCond .eq 10, 0), (.aload 0, 0), (.getfield 7, 3), (.ifCond .ne 10, 0), (.aload 0, 0), (.iload 3, 0), (.putfield 7, 2), (.aload 0, 0), (.iconst (1), 0), (.ret 7, 3), (.jsr 10, 0)],
  [(.return_, 0)]])
/-- DiceLaw$RuleReader.readCondition(I)Z -/
def me247 : ME := ((7, yX7_readCondition, prog_9_method_4_code), (4, 2, 1, 2), [0, 8, 38, 42, 43, 50], [
  [(.aload 0, 0), (.iload 1, 0), (.invokeinterface 248 2, 7), (.istore 2, 0), (.iconst (0), 0), (.istore 3, 0), (.jsr 1, 0)],
  [(.iload 3, 0), (.iconst (120), 0), (.if_icmp .ge 5, 0), (.aload 0, 0), (.checkcast 7, 0), (.iconst (124), 0), (.invokeinterface 211 2, 2), (.ifCond .eq 5, 0), (.aload 0, 0), (.iload 1, 0), (.invokeinterface 248 2, 7), (.ifCond .ne 2, 0), (.iload 2, 0), (.ifCond .eq 3, 0), (.jsr 2, 0)],
  [(.iconst (1), 0), (.goto 4, 0)],
  [(.iconst (0), 0), (.jsr 4, 0)],
  [(.istore 2, 0), (.iinc 3 (1), 0), (.goto 1, 0)],
  [(.iload 2, 0), (.ireturn, 1)]])
/-- DiceLaw$RuleReader.readTruth(I)Z -/
def me248 : ME := ((7, yX7_readTruth, prog_9_method_5_code), (4, 2, 1, 2), [0, 8, 42, 43, 50], [
  [(.aload 0, 0), (.iload 1, 0), (.invokeinterface 249 2, 7), (.istore 2, 0), (.iconst (0), 0), (.istore 3, 0), (.jsr 1, 0)],
  [(.iload 3, 0), (.iconst (120), 0), (.if_icmp .ge 4, 0), (.aload 0, 0), (.checkcast 7, 0), (.iconst (38), 0), (.invokeinterface 211 2, 2), (.ifCond .eq 4, 0), (.aload 0, 0), (.iload 1, 0), (.invokeinterface 249 2, 7), (.ifCond .eq 2, 0), (.iload 2, 0), (.ifCond .eq 2, 0), (.iconst (1), 0), (.goto 3, 0)],
  [(.iconst (0), 0), (.jsr 3, 0)],
  [(.istore 2, 0), (.iinc 3 (1), 0), (.goto 1, 0)],
  [(.iload 2, 0), (.ireturn, 1)]])
/-- DiceLaw$RuleReader.readUnit(I)Z -/
def me249 : ME := ((7, yX7_readUnit, prog_9_method_6_code), (6, 2, 1, 2), [0, 11, 18, 47, 48, 49, 77, 78, 90, 104, 109, 141, 172, 176, 193, 197, 207, 208], [
  [(.aload 0, 0), (.getfield 7, 4), (.ifCond .eq 1, 0), (.iconst (0), 0), (.goto 2, 0)],
  [(.aload 0, 0), (.checkcast 7, 0), (.invokeinterface 208 1, 2), (.jsr 2, 0)],
  [(.istore 2, 0), (.iload 2, 0), (.iconst (33), 0), (.if_icmp .ne 5, 0), (.aload 0, 0), (.iload 1, 0), (.invokeinterface 254 2, 7), (.ifCond .eq 3, 0), (.aload 0, 0), (.iload 1, 0), (.iconst (1), 0), (.iadd, 0), (.invokeinterface 249 2, 7), (.ifCond .ne 3, 0), (.iconst (1), 0), (.goto 4, 0)],
  [(.iconst (0), 0), (.jsr 4, 0)],
  [(.ireturn, 1)],
  [(.iload 2, 0), (.iconst (40), 0), (.if_icmp .ne 8, 0), (.aload 0, 0), (.iload 1, 0), (.invokeinterface 254 2, 7), (.ifCond .eq 6, 0), (.aload 0, 0), (.iload 1, 0), (.iconst (1), 0), (.iadd, 0), (.invokeinterface 247 2, 7), (.ifCond .eq 6, 0), (.iconst (1), 0), (.goto 7, 0)],
  [(.iconst (0), 0), (.jsr 7, 0)],
  [(.istore 3, 0), (.aload 0, 0), (.checkcast 7, 0), (.iconst (41), 0), (.invokeinterface 212 2, 2), (.iload 3, 0), (.ireturn, 1)],
  [(.aload 0, 0), (.getfield 7, 4), (.ifCond .eq 9, 0), (.aload 0, 0), (.getfield 7, 5), (.goto 10, 0)],
  [(.aload 0, 0), (.iload 1, 0), (.invokeinterface 250 2, 7), (.jsr 10, 0)],
  [(.istore 3, 0), (.aload 0, 0), (.iconst (0), 0), (.ret 7, 4), (.aload 0, 0), (.checkcast 7, 0), (.invokeinterface 208 1, 2), (.istore 4, 0), (.iload 4, 0), (.invokestatic 256, 1), (.ifCond .ne 11, 0), (.aload 0, 0), (.checkcast 7, 0), (.invokeinterface 215 1, 2), (.iconst (0), 0), (.ireturn, 1)],
  [(.aload 0, 0), (.checkcast 7, 0), (.invokeinterface 210 1, 2), (.aload 0, 0), (.iload 1, 0), (.invokeinterface 250 2, 7), (.istore 5, 0), (.iload 4, 0), (.iconst (61), 0), (.if_icmp .ne 13, 0), (.iload 3, 0), (.iload 5, 0), (.if_icmp .ne 12, 0), (.iconst (1), 0), (.goto 17, 0)],
  [(.iconst (0), 0), (.goto 17, 0)],
  [(.iload 4, 0), (.iconst (60), 0), (.if_icmp .ne 15, 0), (.iload 3, 0), (.iload 5, 0), (.if_icmp .ge 14, 0), (.iconst (1), 0), (.goto 17, 0)],
  [(.iconst (0), 0), (.goto 17, 0)],
  [(.iload 3, 0), (.iload 5, 0), (.if_icmp .le 16, 0), (.iconst (1), 0), (.goto 17, 0)],
  [(.iconst (0), 0), (.jsr 17, 0)],
  [(.ireturn, 1)]])
/-- DiceLaw$RuleReader.readSum(I)I -/
def me250 : ME := ((7, yX7_readSum, prog_9_method_7_code), (4, 1, 1, 2), [0, 8, 42, 70, 72, 78], [
  [(.aload 0, 0), (.iload 1, 0), (.invokeinterface 251 2, 7), (.istore 2, 0), (.iconst (0), 0), (.istore 3, 0), (.jsr 1, 0)],
  [(.iload 3, 0), (.iconst (120), 0), (.if_icmp .ge 5, 0), (.aload 0, 0), (.checkcast 7, 0), (.iconst (43), 0), (.invokeinterface 211 2, 2), (.ifCond .eq 2, 0), (.iload 2, 0), (.i2l, 0), (.aload 0, 0), (.iload 1, 0), (.invokeinterface 251 2, 7), (.i2l, 0), (.ladd, 0), (.invokestatic 257, 1), (.istore 2, 0), (.goto 4, 0)],
  [(.aload 0, 0), (.checkcast 7, 0), (.iconst (45), 0), (.invokeinterface 211 2, 2), (.ifCond .eq 3, 0), (.iload 2, 0), (.i2l, 0), (.aload 0, 0), (.iload 1, 0), (.invokeinterface 251 2, 7), (.i2l, 0), (.lsub, 0), (.invokestatic 257, 1), (.istore 2, 0), (.goto 4, 0)],
  [(.iload 2, 0), (.ireturn, 0)],
  [(.iinc 3 (1), 0), (.goto 1, 0)],
  [(.iload 2, 0), (.ireturn, 0)]])
/-- DiceLaw$RuleReader.readTerm(I)I -/
def me251 : ME := ((7, yX7_readTerm, prog_9_method_8_code), (5, 1, 1, 2), [0, 8, 42, 70, 78, 82, 84, 90], [
  [(.aload 0, 0), (.iload 1, 0), (.invokeinterface 252 2, 7), (.istore 2, 0), (.iconst (0), 0), (.istore 3, 0), (.jsr 1, 0)],
  [(.iload 3, 0), (.iconst (120), 0), (.if_icmp .ge 7, 0), (.aload 0, 0), (.checkcast 7, 0), (.iconst (42), 0), (.invokeinterface 211 2, 2), (.ifCond .eq 2, 0), (.iload 2, 0), (.i2l, 0), (.aload 0, 0), (.iload 1, 0), (.invokeinterface 252 2, 7), (.i2l, 0), (.lmul, 0), (.invokestatic 257, 1), (.istore 2, 0), (.goto 6, 0)],
  [(.aload 0, 0), (.checkcast 7, 0), (.iconst (47), 0), (.invokeinterface 211 2, 2), (.ifCond .eq 5, 0), (.aload 0, 0), (.iload 1, 0), (.invokeinterface 252 2, 7), (.istore 4, 0), (.iload 4, 0), (.ifCond .ne 3, 0), (.iconst (0), 0), (.goto 4, 0)],
  [(.iload 2, 0), (.iload 4, 0), (.idiv, 0), (.i2l, 0), (.invokestatic 257, 1), (.jsr 4, 0)],
  [(.istore 2, 0), (.goto 6, 0)],
  [(.iload 2, 0), (.ireturn, 0)],
  [(.iinc 3 (1), 0), (.goto 1, 0)],
  [(.iload 2, 0), (.ireturn, 0)]])
/-- DiceLaw$RuleReader.readAtom(I)I -/
def me252 : ME := ((7, yX7_readAtom, prog_9_method_9_code), (4, 1, 1, 2), [0, 25, 49, 50, 62, 81], [
  [(.aload 0, 0), (.checkcast 7, 0), (.invokeinterface 208 1, 2), (.istore 2, 0), (.iload 2, 0), (.iconst (48), 0), (.if_icmp .lt 1, 0), (.iload 2, 0), (.iconst (57), 0), (.if_icmp .gt 1, 0), (.aload 0, 0), (.invokeinterface 253 1, 7), (.ireturn, 0)],
  [(.iload 2, 0), (.iconst (91), 0), (.if_icmp .ne 4, 0), (.aload 0, 0), (.iload 1, 0), (.invokeinterface 254 2, 7), (.ifCond .eq 2, 0), (.aload 0, 0), (.iload 1, 0), (.iconst (1), 0), (.iadd, 0), (.invokeinterface 250 2, 7), (.goto 3, 0)],
  [(.iconst (0), 0), (.jsr 3, 0)],
  [(.istore 3, 0), (.aload 0, 0), (.checkcast 7, 0), (.iconst (93), 0), (.invokeinterface 212 2, 2), (.iload 3, 0), (.ireturn, 0)],
  [(.iload 2, 0), (.invokestatic 255, 1), (.istore 3, 0), (.iload 3, 0), (.iconst (-1), 0), (.if_icmp .ne 5, 0), (.aload 0, 0), (.checkcast 7, 0), (.invokeinterface 215 1, 2), (.iconst (0), 0), (.ireturn, 0)],
  [(.aload 0, 0), (.checkcast 7, 0), (.invokeinterface 210 1, 2), (.aload 0, 0), (.checkcast 7, 1), (.iload 3, 0), (.invokestatic 61, 2), (.ireturn, 0)]])
/-- DiceLaw$RuleReader.readNumber()I -/
def me253 : ME := ((7, yX7_readNumber, prog_9_method_10_code), (3, 1, 1, 1), [0, 4, 62], [
  [(.iconst (0), 0), (.istore 1, 0), (.iconst (0), 0), (.istore 2, 0), (.jsr 1, 0)],
  [(.iload 2, 0), (.iconst (4), 0), (.if_icmp .ge 2, 0), (.aload 0, 0), (.checkcast 7, 0), (.invokeinterface 209 1, 2), (.iconst (48), 0), (.if_icmp .lt 2, 0), (.aload 0, 0), (.checkcast 7, 0), (.invokeinterface 209 1, 2), (.iconst (57), 0), (.if_icmp .gt 2, 0), (.iload 1, 0), (.iconst (10), 0), (.imul, 0), (.aload 0, 0), (.checkcast 7, 0), (.invokeinterface 209 1, 2), (.iadd, 0), (.iconst (48), 0), (.isub, 0), (.istore 1, 0), (.aload 0, 0), (.checkcast 7, 0), (.invokeinterface 210 1, 2), (.iinc 2 (1), 0), (.goto 1, 0)],
  [(.iload 1, 0), (.ireturn, 0)]])
/-- DiceLaw$RuleReader.opens(I)Z -/
def me254 : ME := ((7, yX7_opens, prog_9_method_11_code), (2, 2, 1, 2), [0, 15], [
  [(.iload 1, 0), (.iconst (6), 0), (.if_icmp .lt 1, 0), (.aload 0, 0), (.checkcast 7, 0), (.invokeinterface 215 1, 2), (.iconst (0), 0), (.ireturn, 1)],
  [(.aload 0, 0), (.checkcast 7, 0), (.invokeinterface 210 1, 2), (.iconst (1), 0), (.ireturn, 1)]])
/-- DiceLaw$RuleReader.letterOf(I)I -/
def me255 : ME := ((7, yX7_letterOf, prog_9_method_12_code), (1, 1, 0, 1), [0, 96, 98, 100, 102, 104, 106, 108], [
  [(.iload 0, 0), (.tableswitch 7 (100) (119) #[2, 7, 7, 7, 7, 7, 7, 7, 1, 3, 4, 7, 7, 7, 7, 7, 6, 7, 7, 5], 0)],
  [(.iconst (0), 0), (.ireturn, 0)],
  [(.iconst (1), 0), (.ireturn, 0)],
  [(.iconst (2), 0), (.ireturn, 0)],
  [(.iconst (3), 0), (.ireturn, 0)],
  [(.iconst (4), 0), (.ireturn, 0)],
  [(.iconst (5), 0), (.ireturn, 0)],
  [(.iconst (-1), 0), (.ireturn, 0)]])
/-- DiceLaw$RuleReader.isComparison(I)Z -/
def me256 : ME := ((7, yX7_isComparison, prog_9_method_13_code), (1, 2, 0, 1), [0, 18, 22, 23], [
  [(.iload 0, 0), (.iconst (61), 0), (.if_icmp .eq 1, 0), (.iload 0, 0), (.iconst (60), 0), (.if_icmp .eq 1, 0), (.iload 0, 0), (.iconst (62), 0), (.if_icmp .ne 2, 0), (.jsr 1, 0)],
  [(.iconst (1), 0), (.goto 3, 0)],
  [(.iconst (0), 0), (.jsr 3, 0)],
  [(.ireturn, 1)]])
/-- DiceLaw$RuleReader.bounded(J)I -/
def me257 : ME := ((7, yX7_bounded, prog_9_method_14_code), (2, 1, 0, 1), [0], [
  [(.sipush (-1000000), 0), (.sipush (1000000), 0), (.lload 0, 0), (.invokestatic 279, 2), (.invokestatic 277, 2), (.l2i, 0), (.ireturn, 0)]])
/-- DiceLaw$Text.<init>()V -/
def me258 : ME := ((8, yX8_init, prog_10_method_1_code), (1, 0, 2, 1), [0], [
  [(.aload 0, 0), (.monitorexit, 0), (.aload 0, 0), (.iconst (120), 0), (.newarray .int, 0), (.instanceof 8, 0), (.return_, 0)]])
/-- DiceLaw$Text.append(I)V -/
def me259 : ME := ((8, yX8_append, prog_10_method_2_code), (4, 0, 1, 2), [0, 3, 50, 56], [
  [(.iconst (24), 0), (.istore 2, 0), (.jsr 1, 0)],
  [(.iload 2, 0), (.ifCond .lt 3, 0), (.iload 1, 0), (.iload 2, 0), (.iushr, 0), (.iconst (255), 0), (.iand, 0), (.istore 3, 0), (.iload 3, 0), (.ifCond .eq 2, 0), (.aload 0, 0), (.getfield 8, 1), (.iconst (120), 0), (.if_icmp .ge 2, 0), (.aload 0, 0), (.checkcast 8, 0), (.aload 0, 0), (.getfield 8, 1), (.iload 3, 0), (.invokestatic 63, 3), (.aload 0, 0), (.dup, 0), (.getfield 8, 1), (.iconst (1), 0), (.iadd, 0), (.putfield 8, 1), (.jsr 2, 0)],
  [(.iinc 2 (-8), 0), (.goto 1, 0)],
  [(.return_, 0)]])
/-- DiceLaw$Text.take(LDiceLaw$Text;)V -/
def me260 : ME := ((8, yX8_take, prog_10_method_3_code), (2, 0, 1, 2), [0], [
  [(.aload 1, 0), (.checkcast 8, 0), (.aload 0, 0), (.checkcast 8, 0), (.invokestatic 68, 2), (.aload 0, 0), (.aload 1, 0), (.getfield 8, 1), (.putfield 8, 1), (.return_, 0)]])
/-- DiceLaw$Tomorrow.<init>()V -/
def me261 : ME := ((9, yX9_init, prog_11_method_1_code), (1, 0, 2, 1), [0], [
  [(.aload 0, 0), (.monitorexit, 0), (.aload 0, 0), (.iconst (30), 0), (.newarray .int, 0), (.instanceof 9, 1), (.aload 0, 0), (.iconst (30), 0), (.newarray .int, 0), (.instanceof 9, 2), (.aload 0, 0), (.iconst (5), 0), (.newarray .int, 0), (.instanceof 9, 3), (.aload 0, 0), (.new 5, 3), (.dup, 0), (.invokeinterface 236 1, 5), (.instanceof 9, 5), (.aload 0, 0), (.new 5, 3), (.dup, 0), (.invokeinterface 236 1, 5), (.instanceof 9, 6), (.aload 0, 0), (.iconst (30), 0), (.newarray .int, 0), (.instanceof 9, 7), (.aload 0, 0), (.iconst (30), 0), (.newarray .int, 0), (.instanceof 9, 8), (.aload 0, 0), (.iconst (5), 0), (.newarray .int, 0), (.instanceof 9, 9), (.aload 0, 0), (.iconst (5), 0), (.newarray .int, 0), (.instanceof 9, 10), (.aload 0, 0), (.iconst (7776), 0), (.newarray .long, 0), (.instanceof 9, 11), (.aload 0, 0), (.iconst (4), 0), (.newarray .long, 0), (.instanceof 9, 12), (.return_, 0)]])
/-- DiceLaw$Tomorrow.load(LDiceLaw$Book;LDiceLaw$Diary;)V -/
def me262 : ME := ((9, yX9_load, prog_11_method_2_code), (4, 0, 1, 3), [0, 32, 59], [
  [(.aload 0, 0), (.aload 1, 0), (.getfield 0, 0), (.putfield 9, 0), (.aload 1, 0), (.checkcast 0, 1), (.aload 0, 0), (.checkcast 9, 1), (.invokestatic 68, 2), (.aload 1, 0), (.checkcast 0, 2), (.aload 0, 0), (.checkcast 9, 2), (.invokestatic 68, 2), (.iconst (0), 0), (.istore 3, 0), (.jsr 1, 0)],
  [(.iload 3, 0), (.aload 0, 0), (.getfield 9, 0), (.if_icmp .ge 2, 0), (.aload 0, 0), (.checkcast 9, 3), (.iload 3, 0), (.aload 2, 0), (.iload 3, 0), (.invokeinterface 223 2, 3), (.invokestatic 63, 3), (.iinc 3 (1), 0), (.goto 1, 0)],
  [(.return_, 0)]])
/-- DiceLaw$Tomorrow.alter(III)V -/
def me263 : ME := ((9, yX9_alter, prog_11_method_3_code), (4, 0, 1, 4), [0], [
  [(.aload 0, 0), (.checkcast 9, 1), (.iload 1, 0), (.iconst (6), 0), (.imul, 0), (.iload 2, 0), (.iadd, 0), (.iload 3, 0), (.invokestatic 63, 3), (.return_, 0)]])
/-- DiceLaw$Tomorrow.shift(III)V -/
def me264 : ME := ((9, yX9_shift, prog_11_method_4_code), (4, 0, 1, 4), [0], [
  [(.aload 0, 0), (.checkcast 9, 2), (.iload 1, 0), (.iconst (6), 0), (.imul, 0), (.iload 2, 0), (.iadd, 0), (.aload 0, 0), (.checkcast 9, 2), (.iload 1, 0), (.iconst (6), 0), (.imul, 0), (.iload 2, 0), (.iadd, 0), (.invokestatic 61, 2), (.iconst (1), 0), (.isub, 0), (.invokestatic 63, 3), (.aload 0, 0), (.checkcast 9, 2), (.iload 1, 0), (.iconst (6), 0), (.imul, 0), (.iload 3, 0), (.iadd, 0), (.aload 0, 0), (.checkcast 9, 2), (.iload 1, 0), (.iconst (6), 0), (.imul, 0), (.iload 3, 0), (.iadd, 0), (.invokestatic 61, 2), (.iconst (1), 0), (.iadd, 0), (.invokestatic 63, 3), (.return_, 0)]])
/-- DiceLaw$Tomorrow.total()J -/
def me265 : ME := ((9, yX9_total, prog_11_method_5_code), (4, 3, 1, 1), [0, 4, 26], [
  [(.sipush (1), 0), (.lstore 1, 0), (.iconst (0), 0), (.istore 3, 0), (.jsr 1, 0)],
  [(.iload 3, 0), (.aload 0, 0), (.getfield 9, 0), (.iconst (3), 0), (.iadd, 0), (.if_icmp .ge 2, 0), (.lload 1, 0), (.sipush (12), 0), (.lmul, 0), (.lstore 1, 0), (.iinc 3 (1), 0), (.goto 1, 0)],
  [(.lload 1, 0), (.lreturn, 0)]])
/-- DiceLaw$Tomorrow.showsOn(II)I -/
def me266 : ME := ((9, yX9_showsOn, prog_11_method_6_code), (3, 1, 1, 3), [0], [
  [(.aload 0, 0), (.checkcast 9, 1), (.iload 1, 0), (.iconst (6), 0), (.imul, 0), (.iload 2, 0), (.iadd, 0), (.invokestatic 61, 2), (.aload 0, 0), (.getfield 9, 0), (.aload 0, 0), (.checkcast 9, 3), (.iload 1, 0), (.invokestatic 61, 2), (.invokestatic 74, 3), (.ireturn, 0)]])
/-- DiceLaw$Tomorrow.toss(Z)V -/
def me267 : ME := ((9, yX9_toss, prog_11_method_8_code), (4, 0, 1, 2), [0, 13, 59], [
  [(.aload 0, 0), (.iload 1, 0), (.ret 9, 4), (.aload 0, 0), (.invokeinterface 268 1, 9), (.iconst (1), 0), (.istore 2, 0), (.iconst (0), 0), (.istore 3, 0), (.jsr 1, 0)],
  [(.iload 3, 0), (.aload 0, 0), (.getfield 9, 0), (.if_icmp .ge 2, 0), (.aload 0, 0), (.checkcast 9, 10), (.iload 3, 0), (.iconst (-1), 0), (.invokestatic 63, 3), (.aload 0, 0), (.checkcast 9, 9), (.iload 3, 0), (.iload 2, 0), (.invokestatic 63, 3), (.iload 2, 0), (.aload 0, 0), (.checkcast 9, 6), (.checkcast 5, 0), (.iload 3, 0), (.invokestatic 61, 2), (.imul, 0), (.istore 2, 0), (.iinc 3 (1), 0), (.goto 1, 0)],
  [(.aload 0, 0), (.checkcast 9, 11), (.iload 2, 0), (.invokestatic 66, 2), (.aload 0, 0), (.checkcast 9, 12), (.aload 0, 0), (.checkcast 9, 12), (.arraylength, 0), (.invokestatic 66, 2), (.aload 0, 0), (.iconst (0), 0), (.iconst (0), 0), (.sipush (1), 0), (.invokeinterface 269 4, 9), (.return_, 0)]])
/-- DiceLaw$Tomorrow.sortTypes()V -/
def me268 : ME := ((9, yX9_sortTypes, prog_11_method_9_code), (6, 0, 1, 1), [0, 16, 114, 120], [
  [(.aload 0, 0), (.checkcast 9, 5), (.invokeinterface 237 1, 5), (.aload 0, 0), (.checkcast 9, 6), (.invokeinterface 237 1, 5), (.iconst (0), 0), (.istore 1, 0), (.jsr 1, 0)],
  [(.iload 1, 0), (.aload 0, 0), (.getfield 9, 0), (.iconst (6), 0), (.imul, 0), (.if_icmp .ge 3, 0), (.aload 0, 0), (.checkcast 9, 2), (.iload 1, 0), (.invokestatic 61, 2), (.istore 2, 0), (.iload 2, 0), (.ifCond .le 2, 0), (.iload 1, 0), (.iconst (6), 0), (.idiv, 0), (.istore 3, 0), (.aload 0, 0), (.checkcast 9, 1), (.iload 1, 0), (.invokestatic 61, 2), (.aload 0, 0), (.getfield 9, 0), (.invokestatic 73, 2), (.istore 4, 0), (.aload 0, 0), (.checkcast 9, 6), (.iload 3, 0), (.aload 0, 0), (.iload 4, 0), (.invokeinterface 272 2, 9), (.iload 2, 0), (.invokeinterface 238 4, 5), (.istore 5, 0), (.aload 0, 0), (.checkcast 9, 7), (.iload 3, 0), (.iconst (6), 0), (.imul, 0), (.aload 0, 0), (.checkcast 9, 5), (.iload 3, 0), (.iload 4, 0), (.iload 2, 0), (.invokeinterface 238 4, 5), (.iadd, 0), (.iload 5, 0), (.invokestatic 63, 3), (.aload 0, 0), (.checkcast 9, 8), (.iload 1, 0), (.iload 5, 0), (.invokestatic 63, 3), (.jsr 2, 0)],
  [(.iinc 1 (1), 0), (.goto 1, 0)],
  [(.return_, 0)]])
/-- DiceLaw$Tomorrow.look(IIJ)V -/
def me269 : ME := ((9, yX9_look, prog_11_method_10_code), (9, 0, 1, 4), [0, 3, 31, 47, 50, 123, 132, 138], [
  [(.iload 1, 0), (.istore 5, 0), (.jsr 1, 0)],
  [(.iload 5, 0), (.aload 0, 0), (.getfield 9, 0), (.if_icmp .ge 2, 0), (.aload 0, 0), (.checkcast 9, 10), (.iload 5, 0), (.invokestatic 61, 2), (.iconst (-1), 0), (.if_icmp .eq 2, 0), (.iinc 5 (1), 0), (.goto 1, 0)],
  [(.iload 5, 0), (.aload 0, 0), (.getfield 9, 0), (.if_icmp .lt 3, 0), (.aload 0, 0), (.iload 2, 0), (.lload 3, 0), (.invokeinterface 273 3, 9), (.return_, 0)],
  [(.iconst (0), 0), (.istore 6, 0), (.jsr 4, 0)],
  [(.iload 6, 0), (.aload 0, 0), (.checkcast 9, 5), (.checkcast 5, 0), (.iload 5, 0), (.invokestatic 61, 2), (.if_icmp .ge 7, 0), (.aload 0, 0), (.checkcast 9, 10), (.iload 5, 0), (.iload 6, 0), (.invokestatic 63, 3), (.lload 3, 0), (.aload 0, 0), (.checkcast 9, 5), (.iload 5, 0), (.iload 6, 0), (.invokeinterface 240 3, 5), (.i2l, 0), (.lmul, 0), (.lstore 7, 0), (.aload 0, 0), (.checkcast 9, 5), (.iload 5, 0), (.iload 6, 0), (.invokeinterface 239 3, 5), (.iconst (-1), 0), (.if_icmp .ne 5, 0), (.aload 0, 0), (.iload 5, 0), (.iconst (1), 0), (.iadd, 0), (.iload 2, 0), (.lload 7, 0), (.invokeinterface 269 4, 9), (.goto 6, 0)],
  [(.aload 0, 0), (.iload 5, 0), (.iload 2, 0), (.lload 7, 0), (.invokeinterface 270 4, 9), (.jsr 6, 0)],
  [(.iinc 6 (1), 0), (.goto 4, 0)],
  [(.aload 0, 0), (.checkcast 9, 10), (.iload 5, 0), (.iconst (-1), 0), (.invokestatic 63, 3), (.return_, 0)]])
/-- DiceLaw$Tomorrow.throwAgain(IIJ)V -/
def me270 : ME := ((9, yX9_throwAgain, prog_11_method_11_code), (9, 0, 1, 4), [0, 43, 44, 81, 88], [
  [(.aload 0, 0), (.checkcast 9, 5), (.iload 1, 0), (.aload 0, 0), (.checkcast 9, 10), (.iload 1, 0), (.invokestatic 61, 2), (.invokeinterface 239 3, 5), (.istore 5, 0), (.aload 0, 0), (.checkcast 9, 10), (.iload 5, 0), (.invokestatic 61, 2), (.istore 6, 0), (.iload 6, 0), (.iconst (-1), 0), (.if_icmp .ne 1, 0), (.lload 3, 0), (.sipush (12), 0), (.lmul, 0), (.goto 2, 0)],
  [(.lload 3, 0), (.jsr 2, 0)],
  [(.lstore 7, 0), (.aload 0, 0), (.checkcast 9, 10), (.iload 5, 0), (.iconst (-1), 0), (.invokestatic 63, 3), (.iload 2, 0), (.iconst (1), 0), (.iadd, 0), (.iconst (3), 0), (.if_icmp .ge 3, 0), (.aload 0, 0), (.iload 1, 0), (.iload 5, 0), (.invokestatic 278, 2), (.iload 2, 0), (.iconst (1), 0), (.iadd, 0), (.lload 7, 0), (.invokeinterface 269 4, 9), (.goto 4, 0)],
  [(.aload 0, 0), (.iconst (3), 0), (.lload 7, 0), (.invokeinterface 273 3, 9), (.jsr 4, 0)],
  [(.aload 0, 0), (.checkcast 9, 10), (.iload 5, 0), (.iload 6, 0), (.invokestatic 63, 3), (.return_, 0)]])
/-- DiceLaw$Tomorrow.spread(IIJ)V -/
def me271 : ME := ((9, yX9_spread, prog_11_method_13_code), (8, 0, 1, 4), [0, 18, 72, 75, 124], [
  [(.iload 1, 0), (.aload 0, 0), (.getfield 9, 0), (.if_icmp .lt 1, 0), (.aload 0, 0), (.checkcast 9, 11), (.iload 2, 0), (.lload 3, 0), (.invokestatic 65, 3), (.return_, 0)],
  [(.aload 0, 0), (.checkcast 9, 10), (.iload 1, 0), (.invokestatic 61, 2), (.istore 5, 0), (.aload 0, 0), (.checkcast 9, 9), (.iload 1, 0), (.invokestatic 61, 2), (.istore 6, 0), (.iload 5, 0), (.iconst (-1), 0), (.if_icmp .eq 2, 0), (.aload 0, 0), (.iload 1, 0), (.iconst (1), 0), (.iadd, 0), (.iload 2, 0), (.aload 0, 0), (.checkcast 9, 7), (.iload 1, 0), (.iconst (6), 0), (.imul, 0), (.iload 5, 0), (.iadd, 0), (.invokestatic 61, 2), (.iload 6, 0), (.imul, 0), (.iadd, 0), (.lload 3, 0), (.invokeinterface 271 4, 9), (.return_, 0)],
  [(.iconst (0), 0), (.istore 7, 0), (.jsr 3, 0)],
  [(.iload 7, 0), (.aload 0, 0), (.checkcast 9, 6), (.checkcast 5, 0), (.iload 1, 0), (.invokestatic 61, 2), (.if_icmp .ge 4, 0), (.aload 0, 0), (.iload 1, 0), (.iconst (1), 0), (.iadd, 0), (.iload 2, 0), (.iload 7, 0), (.iload 6, 0), (.imul, 0), (.iadd, 0), (.lload 3, 0), (.aload 0, 0), (.checkcast 9, 6), (.iload 1, 0), (.iload 7, 0), (.invokeinterface 240 3, 5), (.i2l, 0), (.lmul, 0), (.invokeinterface 271 4, 9), (.iinc 7 (1), 0), (.goto 3, 0)],
  [(.return_, 0)]])
/-- DiceLaw$Tomorrow.lotSign(I)I -/
def me272 : ME := ((9, yX9_lotSign, prog_11_method_7_code), (2, 1, 1, 2), [0, 11, 16], [
  [(.aload 0, 0), (.getfield 9, 4), (.ifCond .eq 1, 0), (.iload 1, 0), (.goto 2, 0)],
  [(.iload 1, 0), (.iconst (0), 0), (.invokestatic 278, 2), (.jsr 2, 0)],
  [(.ireturn, 0)]])
/-- DiceLaw$Tomorrow.rest(IJ)V -/
def me273 : ME := ((9, yX9_rest, prog_11_method_12_code), (9, 0, 1, 3), [0, 6, 26, 33, 63, 64, 73], [
  [(.lload 2, 0), (.lstore 4, 0), (.iload 1, 0), (.istore 6, 0), (.jsr 1, 0)],
  [(.iload 6, 0), (.iconst (3), 0), (.if_icmp .ge 2, 0), (.lload 4, 0), (.sipush (12), 0), (.lmul, 0), (.lstore 4, 0), (.iinc 6 (1), 0), (.goto 1, 0)],
  [(.lload 4, 0), (.lstore 6, 0), (.iconst (0), 0), (.istore 8, 0), (.jsr 3, 0)],
  [(.iload 8, 0), (.aload 0, 0), (.getfield 9, 0), (.if_icmp .ge 6, 0), (.lload 6, 0), (.aload 0, 0), (.checkcast 9, 10), (.iload 8, 0), (.invokestatic 61, 2), (.iconst (-1), 0), (.if_icmp .ne 4, 0), (.sipush (12), 0), (.goto 5, 0)],
  [(.sipush (1), 0), (.jsr 5, 0)],
  [(.lmul, 0), (.lstore 6, 0), (.iinc 8 (1), 0), (.goto 3, 0)],
  [(.aload 0, 0), (.checkcast 9, 12), (.iload 1, 0), (.lload 6, 0), (.invokestatic 65, 3), (.aload 0, 0), (.iconst (0), 0), (.iconst (0), 0), (.lload 4, 0), (.invokeinterface 271 4, 9), (.return_, 0)]])
/-- DiceLawLaw.clause(LDiceLaw;II[J)I -/
def me274 : ME := ((12, yL_clause, method_3_code), (5, 1, 3, 4), [], [
])
/-- DiceLawLaw.law([I)Z -/
def me275 : ME := ((12, yL_law, code), (7, 2, 0, 1), [0, 23, 232, 305, 330, 355, 380, 428, 445, 448, 549, 586, 641, 654, 679, 692, 729, 766, 815, 865, 915, 941, 991, 1029, 1054, 1091, 1153, 1202, 1239, 1326, 1375, 1412, 1461, 1523, 1561, 1610, 1672, 1697, 1723, 1760, 1786, 1848, 1885, 1910, 1935, 1948, 1961, 1974, 1999, 2005], [
  [(.new 10, 16), (.dup, 0), (.invokeinterface 0 1, 10), (.astore 1, 0), (.new 11, 53), (.dup, 0), (.invokeinterface 80 1, 11), (.astore 2, 0), (.iconst (1), 0), (.newarray .long, 0), (.astore 3, 0), (.iconst (0), 0), (.istore 4, 0), (.jsr 1, 0)],
  [(.iload 4, 0), (.aload 0, 0), (.arraylength, 0), (.iconst (8), 0), (.isub, 0), (.if_icmp .gt 49, 0), (.aload 0, 0), (.iload 4, 0), (.iaload, 0), (.iconst (63), 0), (.iand, 0), (.tableswitch 48 (0) (43) #[2, 3, 4, 5, 6, 9, 10, 11, 12, 13, 14, 15, 16, 17, 18, 19, 20, 21, 22, 23, 24, 25, 26, 27, 28, 29, 30, 31, 32, 33, 34, 35, 36, 37, 38, 39, 40, 41, 42, 43, 44, 45, 46, 47], 0)],
  [(.aload 1, 0), (.aload 0, 0), (.iload 4, 0), (.iconst (1), 0), (.iadd, 0), (.iaload, 0), (.aload 0, 0), (.iload 4, 0), (.iconst (2), 0), (.iadd, 0), (.iaload, 0), (.aload 0, 0), (.iload 4, 0), (.iconst (3), 0), (.iadd, 0), (.iaload, 0), (.aload 0, 0), (.iload 4, 0), (.iconst (4), 0), (.iadd, 0), (.iaload, 0), (.aload 0, 0), (.iload 4, 0), (.iconst (5), 0), (.iadd, 0), (.iaload, 0), (.invokeinterface 1 6, 10), (.aload 2, 0), (.aload 0, 0), (.iload 4, 0), (.iconst (1), 0), (.iadd, 0), (.iaload, 0), (.aload 0, 0), (.iload 4, 0), (.iconst (2), 0), (.iadd, 0), (.iaload, 0), (.aload 0, 0), (.iload 4, 0), (.iconst (3), 0), (.iadd, 0), (.iaload, 0), (.aload 0, 0), (.iload 4, 0), (.iconst (4), 0), (.iadd, 0), (.iaload, 0), (.aload 0, 0), (.iload 4, 0), (.iconst (5), 0), (.iadd, 0), (.iaload, 0), (.invokeinterface 86 6, 11), (.if_icmp .eq 48, 0), (.iconst (0), 0), (.ireturn, 1)],
  [(.aload 1, 0), (.aload 0, 0), (.iload 4, 0), (.iconst (1), 0), (.iadd, 0), (.iaload, 0), (.invokeinterface 2 2, 10), (.aload 2, 0), (.aload 0, 0), (.iload 4, 0), (.iconst (1), 0), (.iadd, 0), (.iaload, 0), (.invokeinterface 87 2, 11), (.if_icmp .eq 48, 0), (.iconst (0), 0), (.ireturn, 1)],
  [(.aload 1, 0), (.aload 0, 0), (.iload 4, 0), (.iconst (1), 0), (.iadd, 0), (.iaload, 0), (.invokeinterface 3 2, 10), (.aload 2, 0), (.aload 0, 0), (.iload 4, 0), (.iconst (1), 0), (.iadd, 0), (.iaload, 0), (.invokeinterface 107 2, 11), (.if_icmp .eq 48, 0), (.iconst (0), 0), (.ireturn, 1)],
  [(.aload 1, 0), (.aload 0, 0), (.iload 4, 0), (.iconst (1), 0), (.iadd, 0), (.iaload, 0), (.invokeinterface 4 2, 10), (.aload 2, 0), (.aload 0, 0), (.iload 4, 0), (.iconst (1), 0), (.iadd, 0), (.iaload, 0), (.invokeinterface 108 2, 11), (.if_icmp .eq 48, 0), (.iconst (0), 0), (.ireturn, 1)],
  [(.aload 1, 0), (.aload 0, 0), (.iload 4, 0), (.iconst (1), 0), (.iadd, 0), (.iaload, 0), (.aload 0, 0), (.iload 4, 0), (.iconst (2), 0), (.iadd, 0), (.iaload, 0), (.aload 3, 0), (.invokestatic 274, 4), (.istore 5, 0), (.aload 2, 0), (.aload 0, 0), (.iload 4, 0), (.iconst (1), 0), (.iadd, 0), (.iaload, 0), (.aload 0, 0), (.iload 4, 0), (.iconst (2), 0), (.iadd, 0), (.iaload, 0), (.invokeinterface 113 3, 11), (.istore 6, 0), (.aload 2, 0), (.invokeinterface 81 1, 11), (.iload 5, 0), (.if_icmp .eq 7, 0), (.iconst (0), 0), (.ireturn, 1)],
  [(.iload 5, 0), (.ifCond .ne 8, 0), (.aload 3, 0), (.iconst (0), 0), (.laload, 0), (.iload 6, 0), (.i2l, 0), (.lcmp, 0), (.ifCond .eq 8, 0), (.iconst (0), 0), (.ireturn, 1)],
  [(.goto 48, 0)],
  [(.aload 1, 0), (.aload 0, 0), (.iload 4, 0), (.iconst (1), 0), (.iadd, 0), (.iaload, 0), (.aload 0, 0), (.iload 4, 0), (.iconst (2), 0), (.iadd, 0), (.iaload, 0), (.aload 0, 0), (.iload 4, 0), (.iconst (3), 0), (.iadd, 0), (.iaload, 0), (.aload 0, 0), (.iload 4, 0), (.iconst (4), 0), (.iadd, 0), (.iaload, 0), (.aload 0, 0), (.iload 4, 0), (.iconst (5), 0), (.iadd, 0), (.iaload, 0), (.aload 0, 0), (.iload 4, 0), (.iconst (6), 0), (.iadd, 0), (.iaload, 0), (.aload 0, 0), (.iload 4, 0), (.iconst (7), 0), (.iadd, 0), (.iaload, 0), (.invokeinterface 8 8, 10), (.aload 2, 0), (.aload 0, 0), (.iload 4, 0), (.iconst (1), 0), (.iadd, 0), (.iaload, 0), (.aload 0, 0), (.iload 4, 0), (.iconst (2), 0), (.iadd, 0), (.iaload, 0), (.aload 0, 0), (.iload 4, 0), (.iconst (3), 0), (.iadd, 0), (.iaload, 0), (.aload 0, 0), (.iload 4, 0), (.iconst (4), 0), (.iadd, 0), (.iaload, 0), (.aload 0, 0), (.iload 4, 0), (.iconst (5), 0), (.iadd, 0), (.iaload, 0), (.aload 0, 0), (.iload 4, 0), (.iconst (6), 0), (.iadd, 0), (.iaload, 0), (.aload 0, 0), (.iload 4, 0), (.iconst (7), 0), (.iadd, 0), (.iaload, 0), (.invokeinterface 116 8, 11), (.if_icmp .eq 48, 0), (.iconst (0), 0), (.ireturn, 1)],
  [(.aload 1, 0), (.aload 0, 0), (.iload 4, 0), (.iconst (1), 0), (.iadd, 0), (.iaload, 0), (.aload 0, 0), (.iload 4, 0), (.iconst (2), 0), (.iadd, 0), (.iaload, 0), (.invokeinterface 10 3, 10), (.aload 2, 0), (.aload 0, 0), (.iload 4, 0), (.iconst (1), 0), (.iadd, 0), (.iaload, 0), (.aload 0, 0), (.iload 4, 0), (.iconst (2), 0), (.iadd, 0), (.iaload, 0), (.invokeinterface 117 3, 11), (.if_icmp .eq 48, 0), (.iconst (0), 0), (.ireturn, 1)],
  [(.aload 1, 0), (.aload 0, 0), (.iload 4, 0), (.iconst (1), 0), (.iadd, 0), (.iaload, 0), (.i2l, 0), (.iconst (32), 0), (.lshl, 0), (.aload 0, 0), (.iload 4, 0), (.iconst (2), 0), (.iadd, 0), (.iaload, 0), (.i2l, 0), (.sipush (4294967295), 0), (.land, 0), (.lor, 0), (.invokeinterface 12 2, 10), (.aload 2, 0), (.aload 0, 0), (.iload 4, 0), (.iconst (1), 0), (.iadd, 0), (.iaload, 0), (.i2l, 0), (.iconst (32), 0), (.lshl, 0), (.aload 0, 0), (.iload 4, 0), (.iconst (2), 0), (.iadd, 0), (.iaload, 0), (.i2l, 0), (.sipush (4294967295), 0), (.land, 0), (.lor, 0), (.invokeinterface 129 2, 11), (.goto 48, 0)],
  [(.aload 1, 0), (.invokeinterface 13 1, 10), (.aload 2, 0), (.invokeinterface 132 1, 11), (.if_icmp .eq 48, 0), (.iconst (0), 0), (.ireturn, 1)],
  [(.aload 1, 0), (.aload 0, 0), (.iload 4, 0), (.iconst (1), 0), (.iadd, 0), (.iaload, 0), (.invokeinterface 14 2, 10), (.aload 2, 0), (.aload 0, 0), (.iload 4, 0), (.iconst (1), 0), (.iadd, 0), (.iaload, 0), (.invokeinterface 133 2, 11), (.if_icmp .eq 48, 0), (.iconst (0), 0), (.ireturn, 1)],
  [(.aload 1, 0), (.invokeinterface 15 1, 10), (.aload 2, 0), (.invokeinterface 134 1, 11), (.if_icmp .eq 48, 0), (.iconst (0), 0), (.ireturn, 1)],
  [(.aload 1, 0), (.aload 0, 0), (.iload 4, 0), (.iconst (1), 0), (.iadd, 0), (.iaload, 0), (.aload 0, 0), (.iload 4, 0), (.iconst (2), 0), (.iadd, 0), (.iaload, 0), (.invokeinterface 16 3, 10), (.aload 2, 0), (.aload 0, 0), (.iload 4, 0), (.iconst (1), 0), (.iadd, 0), (.iaload, 0), (.aload 0, 0), (.iload 4, 0), (.iconst (2), 0), (.iadd, 0), (.iaload, 0), (.invokeinterface 136 3, 11), (.if_icmp .eq 48, 0), (.iconst (0), 0), (.ireturn, 1)],
  [(.aload 1, 0), (.aload 0, 0), (.iload 4, 0), (.iconst (1), 0), (.iadd, 0), (.iaload, 0), (.aload 0, 0), (.iload 4, 0), (.iconst (2), 0), (.iadd, 0), (.iaload, 0), (.invokeinterface 17 3, 10), (.aload 2, 0), (.aload 0, 0), (.iload 4, 0), (.iconst (1), 0), (.iadd, 0), (.iaload, 0), (.aload 0, 0), (.iload 4, 0), (.iconst (2), 0), (.iadd, 0), (.iaload, 0), (.invokeinterface 137 3, 11), (.if_icmp .eq 48, 0), (.iconst (0), 0), (.ireturn, 1)],
  [(.aload 1, 0), (.aload 0, 0), (.iload 4, 0), (.iconst (1), 0), (.iadd, 0), (.iaload, 0), (.aload 0, 0), (.iload 4, 0), (.iconst (2), 0), (.iadd, 0), (.iaload, 0), (.aload 0, 0), (.iload 4, 0), (.iconst (3), 0), (.iadd, 0), (.iaload, 0), (.invokeinterface 18 4, 10), (.aload 2, 0), (.aload 0, 0), (.iload 4, 0), (.iconst (1), 0), (.iadd, 0), (.iaload, 0), (.aload 0, 0), (.iload 4, 0), (.iconst (2), 0), (.iadd, 0), (.iaload, 0), (.aload 0, 0), (.iload 4, 0), (.iconst (3), 0), (.iadd, 0), (.iaload, 0), (.invokeinterface 140 4, 11), (.if_icmp .eq 48, 0), (.iconst (0), 0), (.ireturn, 1)],
  [(.aload 1, 0), (.aload 0, 0), (.iload 4, 0), (.iconst (1), 0), (.iadd, 0), (.iaload, 0), (.aload 0, 0), (.iload 4, 0), (.iconst (2), 0), (.iadd, 0), (.iaload, 0), (.aload 0, 0), (.iload 4, 0), (.iconst (3), 0), (.iadd, 0), (.iaload, 0), (.invokeinterface 19 4, 10), (.aload 2, 0), (.aload 0, 0), (.iload 4, 0), (.iconst (1), 0), (.iadd, 0), (.iaload, 0), (.aload 0, 0), (.iload 4, 0), (.iconst (2), 0), (.iadd, 0), (.iaload, 0), (.aload 0, 0), (.iload 4, 0), (.iconst (3), 0), (.iadd, 0), (.iaload, 0), (.invokeinterface 150 4, 11), (.lcmp, 0), (.ifCond .eq 48, 0), (.iconst (0), 0), (.ireturn, 1)],
  [(.aload 1, 0), (.aload 0, 0), (.iload 4, 0), (.iconst (1), 0), (.iadd, 0), (.iaload, 0), (.aload 0, 0), (.iload 4, 0), (.iconst (2), 0), (.iadd, 0), (.iaload, 0), (.aload 0, 0), (.iload 4, 0), (.iconst (3), 0), (.iadd, 0), (.iaload, 0), (.invokeinterface 20 4, 10), (.aload 2, 0), (.aload 0, 0), (.iload 4, 0), (.iconst (1), 0), (.iadd, 0), (.iaload, 0), (.aload 0, 0), (.iload 4, 0), (.iconst (2), 0), (.iadd, 0), (.iaload, 0), (.aload 0, 0), (.iload 4, 0), (.iconst (3), 0), (.iadd, 0), (.iaload, 0), (.invokeinterface 151 4, 11), (.lcmp, 0), (.ifCond .eq 48, 0), (.iconst (0), 0), (.ireturn, 1)],
  [(.aload 1, 0), (.aload 0, 0), (.iload 4, 0), (.iconst (1), 0), (.iadd, 0), (.iaload, 0), (.invokeinterface 21 2, 10), (.aload 2, 0), (.aload 0, 0), (.iload 4, 0), (.iconst (1), 0), (.iadd, 0), (.iaload, 0), (.invokeinterface 152 2, 11), (.lcmp, 0), (.ifCond .eq 48, 0), (.iconst (0), 0), (.ireturn, 1)],
  [(.aload 1, 0), (.aload 0, 0), (.iload 4, 0), (.iconst (1), 0), (.iadd, 0), (.iaload, 0), (.aload 0, 0), (.iload 4, 0), (.iconst (2), 0), (.iadd, 0), (.iaload, 0), (.aload 0, 0), (.iload 4, 0), (.iconst (3), 0), (.iadd, 0), (.iaload, 0), (.invokeinterface 22 4, 10), (.aload 2, 0), (.aload 0, 0), (.iload 4, 0), (.iconst (1), 0), (.iadd, 0), (.iaload, 0), (.aload 0, 0), (.iload 4, 0), (.iconst (2), 0), (.iadd, 0), (.iaload, 0), (.aload 0, 0), (.iload 4, 0), (.iconst (3), 0), (.iadd, 0), (.iaload, 0), (.invokeinterface 153 4, 11), (.lcmp, 0), (.ifCond .eq 48, 0), (.iconst (0), 0), (.ireturn, 1)],
  [(.aload 1, 0), (.aload 0, 0), (.iload 4, 0), (.iconst (1), 0), (.iadd, 0), (.iaload, 0), (.aload 0, 0), (.iload 4, 0), (.iconst (2), 0), (.iadd, 0), (.iaload, 0), (.invokeinterface 23 3, 10), (.aload 2, 0), (.aload 0, 0), (.iload 4, 0), (.iconst (1), 0), (.iadd, 0), (.iaload, 0), (.aload 0, 0), (.iload 4, 0), (.iconst (2), 0), (.iadd, 0), (.iaload, 0), (.invokeinterface 154 3, 11), (.lcmp, 0), (.ifCond .eq 48, 0), (.iconst (0), 0), (.ireturn, 1)],
  [(.aload 1, 0), (.aload 0, 0), (.iload 4, 0), (.iconst (1), 0), (.iadd, 0), (.iaload, 0), (.invokeinterface 24 2, 10), (.aload 2, 0), (.aload 0, 0), (.iload 4, 0), (.iconst (1), 0), (.iadd, 0), (.iaload, 0), (.invokeinterface 155 2, 11), (.if_icmp .eq 48, 0), (.iconst (0), 0), (.ireturn, 1)],
  [(.aload 1, 0), (.aload 0, 0), (.iload 4, 0), (.iconst (1), 0), (.iadd, 0), (.iaload, 0), (.aload 0, 0), (.iload 4, 0), (.iconst (2), 0), (.iadd, 0), (.iaload, 0), (.invokeinterface 25 3, 10), (.aload 2, 0), (.aload 0, 0), (.iload 4, 0), (.iconst (1), 0), (.iadd, 0), (.iaload, 0), (.aload 0, 0), (.iload 4, 0), (.iconst (2), 0), (.iadd, 0), (.iaload, 0), (.invokeinterface 157 3, 11), (.if_icmp .eq 48, 0), (.iconst (0), 0), (.ireturn, 1)],
  [(.aload 1, 0), (.aload 0, 0), (.iload 4, 0), (.iconst (1), 0), (.iadd, 0), (.iaload, 0), (.aload 0, 0), (.iload 4, 0), (.iconst (2), 0), (.iadd, 0), (.iaload, 0), (.aload 0, 0), (.iload 4, 0), (.iconst (3), 0), (.iadd, 0), (.iaload, 0), (.aload 0, 0), (.iload 4, 0), (.iconst (4), 0), (.iadd, 0), (.iaload, 0), (.invokeinterface 26 5, 10), (.aload 2, 0), (.aload 0, 0), (.iload 4, 0), (.iconst (1), 0), (.iadd, 0), (.iaload, 0), (.aload 0, 0), (.iload 4, 0), (.iconst (2), 0), (.iadd, 0), (.iaload, 0), (.aload 0, 0), (.iload 4, 0), (.iconst (3), 0), (.iadd, 0), (.iaload, 0), (.aload 0, 0), (.iload 4, 0), (.iconst (4), 0), (.iadd, 0), (.iaload, 0), (.invokeinterface 158 5, 11), (.lcmp, 0), (.ifCond .eq 48, 0), (.iconst (0), 0), (.ireturn, 1)],
  [(.aload 1, 0), (.aload 0, 0), (.iload 4, 0), (.iconst (1), 0), (.iadd, 0), (.iaload, 0), (.aload 0, 0), (.iload 4, 0), (.iconst (2), 0), (.iadd, 0), (.iaload, 0), (.aload 0, 0), (.iload 4, 0), (.iconst (3), 0), (.iadd, 0), (.iaload, 0), (.invokeinterface 35 4, 10), (.aload 2, 0), (.aload 0, 0), (.iload 4, 0), (.iconst (1), 0), (.iadd, 0), (.iaload, 0), (.aload 0, 0), (.iload 4, 0), (.iconst (2), 0), (.iadd, 0), (.iaload, 0), (.aload 0, 0), (.iload 4, 0), (.iconst (3), 0), (.iadd, 0), (.iaload, 0), (.invokeinterface 161 4, 11), (.if_icmp .eq 48, 0), (.iconst (0), 0), (.ireturn, 1)],
  [(.aload 1, 0), (.aload 0, 0), (.iload 4, 0), (.iconst (1), 0), (.iadd, 0), (.iaload, 0), (.aload 0, 0), (.iload 4, 0), (.iconst (2), 0), (.iadd, 0), (.iaload, 0), (.invokeinterface 36 3, 10), (.aload 2, 0), (.aload 0, 0), (.iload 4, 0), (.iconst (1), 0), (.iadd, 0), (.iaload, 0), (.aload 0, 0), (.iload 4, 0), (.iconst (2), 0), (.iadd, 0), (.iaload, 0), (.invokeinterface 162 3, 11), (.if_icmp .eq 48, 0), (.iconst (0), 0), (.ireturn, 1)],
  [(.aload 1, 0), (.aload 0, 0), (.iload 4, 0), (.iconst (1), 0), (.iadd, 0), (.iaload, 0), (.aload 0, 0), (.iload 4, 0), (.iconst (2), 0), (.iadd, 0), (.iaload, 0), (.aload 0, 0), (.iload 4, 0), (.iconst (3), 0), (.iadd, 0), (.iaload, 0), (.aload 0, 0), (.iload 4, 0), (.iconst (4), 0), (.iadd, 0), (.iaload, 0), (.aload 0, 0), (.iload 4, 0), (.iconst (5), 0), (.iadd, 0), (.iaload, 0), (.aload 0, 0), (.iload 4, 0), (.iconst (6), 0), (.iadd, 0), (.iaload, 0), (.invokeinterface 38 7, 10), (.aload 2, 0), (.aload 0, 0), (.iload 4, 0), (.iconst (1), 0), (.iadd, 0), (.iaload, 0), (.aload 0, 0), (.iload 4, 0), (.iconst (2), 0), (.iadd, 0), (.iaload, 0), (.aload 0, 0), (.iload 4, 0), (.iconst (3), 0), (.iadd, 0), (.iaload, 0), (.aload 0, 0), (.iload 4, 0), (.iconst (4), 0), (.iadd, 0), (.iaload, 0), (.aload 0, 0), (.iload 4, 0), (.iconst (5), 0), (.iadd, 0), (.iaload, 0), (.aload 0, 0), (.iload 4, 0), (.iconst (6), 0), (.iadd, 0), (.iaload, 0), (.invokeinterface 118 7, 11), (.if_icmp .eq 48, 0), (.iconst (0), 0), (.ireturn, 1)],
  [(.aload 1, 0), (.aload 0, 0), (.iload 4, 0), (.iconst (1), 0), (.iadd, 0), (.iaload, 0), (.aload 0, 0), (.iload 4, 0), (.iconst (2), 0), (.iadd, 0), (.iaload, 0), (.aload 0, 0), (.iload 4, 0), (.iconst (3), 0), (.iadd, 0), (.iaload, 0), (.invokeinterface 39 4, 10), (.aload 2, 0), (.aload 0, 0), (.iload 4, 0), (.iconst (1), 0), (.iadd, 0), (.iaload, 0), (.aload 0, 0), (.iload 4, 0), (.iconst (2), 0), (.iadd, 0), (.iaload, 0), (.aload 0, 0), (.iload 4, 0), (.iconst (3), 0), (.iadd, 0), (.iaload, 0), (.invokeinterface 165 4, 11), (.if_icmp .eq 48, 0), (.iconst (0), 0), (.ireturn, 1)],
  [(.aload 1, 0), (.aload 0, 0), (.iload 4, 0), (.iconst (1), 0), (.iadd, 0), (.iaload, 0), (.aload 0, 0), (.iload 4, 0), (.iconst (2), 0), (.iadd, 0), (.iaload, 0), (.invokeinterface 40 3, 10), (.aload 2, 0), (.aload 0, 0), (.iload 4, 0), (.iconst (1), 0), (.iadd, 0), (.iaload, 0), (.aload 0, 0), (.iload 4, 0), (.iconst (2), 0), (.iadd, 0), (.iaload, 0), (.invokeinterface 166 3, 11), (.if_icmp .eq 48, 0), (.iconst (0), 0), (.ireturn, 1)],
  [(.aload 1, 0), (.aload 0, 0), (.iload 4, 0), (.iconst (1), 0), (.iadd, 0), (.iaload, 0), (.aload 0, 0), (.iload 4, 0), (.iconst (2), 0), (.iadd, 0), (.iaload, 0), (.aload 0, 0), (.iload 4, 0), (.iconst (3), 0), (.iadd, 0), (.iaload, 0), (.invokeinterface 11 4, 10), (.aload 2, 0), (.aload 0, 0), (.iload 4, 0), (.iconst (1), 0), (.iadd, 0), (.iaload, 0), (.aload 0, 0), (.iload 4, 0), (.iconst (2), 0), (.iadd, 0), (.iaload, 0), (.aload 0, 0), (.iload 4, 0), (.iconst (3), 0), (.iadd, 0), (.iaload, 0), (.invokeinterface 119 4, 11), (.if_icmp .eq 48, 0), (.iconst (0), 0), (.ireturn, 1)],
  [(.aload 1, 0), (.aload 0, 0), (.iload 4, 0), (.iconst (1), 0), (.iadd, 0), (.iaload, 0), (.aload 0, 0), (.iload 4, 0), (.iconst (2), 0), (.iadd, 0), (.iaload, 0), (.aload 0, 0), (.iload 4, 0), (.iconst (3), 0), (.iadd, 0), (.iaload, 0), (.aload 0, 0), (.iload 4, 0), (.iconst (4), 0), (.iadd, 0), (.iaload, 0), (.invokeinterface 42 5, 10), (.aload 2, 0), (.aload 0, 0), (.iload 4, 0), (.iconst (1), 0), (.iadd, 0), (.iaload, 0), (.aload 0, 0), (.iload 4, 0), (.iconst (2), 0), (.iadd, 0), (.iaload, 0), (.aload 0, 0), (.iload 4, 0), (.iconst (3), 0), (.iadd, 0), (.iaload, 0), (.aload 0, 0), (.iload 4, 0), (.iconst (4), 0), (.iadd, 0), (.iaload, 0), (.invokeinterface 168 5, 11), (.lcmp, 0), (.ifCond .eq 48, 0), (.iconst (0), 0), (.ireturn, 1)],
  [(.aload 1, 0), (.aload 0, 0), (.iload 4, 0), (.iconst (1), 0), (.iadd, 0), (.iaload, 0), (.aload 0, 0), (.iload 4, 0), (.iconst (2), 0), (.iadd, 0), (.iaload, 0), (.invokeinterface 44 3, 10), (.aload 2, 0), (.aload 0, 0), (.iload 4, 0), (.iconst (1), 0), (.iadd, 0), (.iaload, 0), (.aload 0, 0), (.iload 4, 0), (.iconst (2), 0), (.iadd, 0), (.iaload, 0), (.invokeinterface 169 3, 11), (.lcmp, 0), (.ifCond .eq 48, 0), (.iconst (0), 0), (.ireturn, 1)],
  [(.aload 1, 0), (.aload 0, 0), (.iload 4, 0), (.iconst (1), 0), (.iadd, 0), (.iaload, 0), (.aload 0, 0), (.iload 4, 0), (.iconst (2), 0), (.iadd, 0), (.iaload, 0), (.aload 0, 0), (.iload 4, 0), (.iconst (3), 0), (.iadd, 0), (.iaload, 0), (.invokeinterface 46 4, 10), (.aload 2, 0), (.aload 0, 0), (.iload 4, 0), (.iconst (1), 0), (.iadd, 0), (.iaload, 0), (.aload 0, 0), (.iload 4, 0), (.iconst (2), 0), (.iadd, 0), (.iaload, 0), (.aload 0, 0), (.iload 4, 0), (.iconst (3), 0), (.iadd, 0), (.iaload, 0), (.invokeinterface 170 4, 11), (.if_icmp .eq 48, 0), (.iconst (0), 0), (.ireturn, 1)],
  [(.aload 1, 0), (.aload 0, 0), (.iload 4, 0), (.iconst (1), 0), (.iadd, 0), (.iaload, 0), (.aload 0, 0), (.iload 4, 0), (.iconst (2), 0), (.iadd, 0), (.iaload, 0), (.aload 0, 0), (.iload 4, 0), (.iconst (3), 0), (.iadd, 0), (.iaload, 0), (.aload 0, 0), (.iload 4, 0), (.iconst (4), 0), (.iadd, 0), (.iaload, 0), (.invokeinterface 28 5, 10), (.aload 2, 0), (.aload 0, 0), (.iload 4, 0), (.iconst (1), 0), (.iadd, 0), (.iaload, 0), (.aload 0, 0), (.iload 4, 0), (.iconst (2), 0), (.iadd, 0), (.iaload, 0), (.aload 0, 0), (.iload 4, 0), (.iconst (3), 0), (.iadd, 0), (.iaload, 0), (.aload 0, 0), (.iload 4, 0), (.iconst (4), 0), (.iadd, 0), (.iaload, 0), (.invokeinterface 172 5, 11), (.lcmp, 0), (.ifCond .eq 48, 0), (.iconst (0), 0), (.ireturn, 1)],
  [(.aload 1, 0), (.aload 0, 0), (.iload 4, 0), (.iconst (1), 0), (.iadd, 0), (.iaload, 0), (.invokeinterface 29 2, 10), (.aload 2, 0), (.aload 0, 0), (.iload 4, 0), (.iconst (1), 0), (.iadd, 0), (.iaload, 0), (.invokeinterface 173 2, 11), (.if_icmp .eq 48, 0), (.iconst (0), 0), (.ireturn, 1)],
  [(.aload 1, 0), (.aload 0, 0), (.iload 4, 0), (.iconst (1), 0), (.iadd, 0), (.iaload, 0), (.invokeinterface 30 2, 10), (.aload 2, 0), (.aload 0, 0), (.iload 4, 0), (.iconst (1), 0), (.iadd, 0), (.iaload, 0), (.invokeinterface 175 2, 11), (.lcmp, 0), (.ifCond .eq 48, 0), (.iconst (0), 0), (.ireturn, 1)],
  [(.aload 1, 0), (.aload 0, 0), (.iload 4, 0), (.iconst (1), 0), (.iadd, 0), (.iaload, 0), (.aload 0, 0), (.iload 4, 0), (.iconst (2), 0), (.iadd, 0), (.iaload, 0), (.invokeinterface 31 3, 10), (.aload 2, 0), (.aload 0, 0), (.iload 4, 0), (.iconst (1), 0), (.iadd, 0), (.iaload, 0), (.aload 0, 0), (.iload 4, 0), (.iconst (2), 0), (.iadd, 0), (.iaload, 0), (.invokeinterface 176 3, 11), (.if_icmp .eq 48, 0), (.iconst (0), 0), (.ireturn, 1)],
  [(.aload 1, 0), (.aload 0, 0), (.iload 4, 0), (.iconst (1), 0), (.iadd, 0), (.iaload, 0), (.invokeinterface 32 2, 10), (.aload 2, 0), (.aload 0, 0), (.iload 4, 0), (.iconst (1), 0), (.iadd, 0), (.iaload, 0), (.invokeinterface 177 2, 11), (.lcmp, 0), (.ifCond .eq 48, 0), (.iconst (0), 0), (.ireturn, 1)],
  [(.aload 1, 0), (.aload 0, 0), (.iload 4, 0), (.iconst (1), 0), (.iadd, 0), (.iaload, 0), (.aload 0, 0), (.iload 4, 0), (.iconst (2), 0), (.iadd, 0), (.iaload, 0), (.aload 0, 0), (.iload 4, 0), (.iconst (3), 0), (.iadd, 0), (.iaload, 0), (.aload 0, 0), (.iload 4, 0), (.iconst (4), 0), (.iadd, 0), (.iaload, 0), (.invokeinterface 43 5, 10), (.aload 2, 0), (.aload 0, 0), (.iload 4, 0), (.iconst (1), 0), (.iadd, 0), (.iaload, 0), (.aload 0, 0), (.iload 4, 0), (.iconst (2), 0), (.iadd, 0), (.iaload, 0), (.aload 0, 0), (.iload 4, 0), (.iconst (3), 0), (.iadd, 0), (.iaload, 0), (.aload 0, 0), (.iload 4, 0), (.iconst (4), 0), (.iadd, 0), (.iaload, 0), (.invokeinterface 178 5, 11), (.lcmp, 0), (.ifCond .eq 48, 0), (.iconst (0), 0), (.ireturn, 1)],
  [(.aload 1, 0), (.aload 0, 0), (.iload 4, 0), (.iconst (1), 0), (.iadd, 0), (.iaload, 0), (.aload 0, 0), (.iload 4, 0), (.iconst (2), 0), (.iadd, 0), (.iaload, 0), (.invokeinterface 49 3, 10), (.aload 2, 0), (.aload 0, 0), (.iload 4, 0), (.iconst (1), 0), (.iadd, 0), (.iaload, 0), (.aload 0, 0), (.iload 4, 0), (.iconst (2), 0), (.iadd, 0), (.iaload, 0), (.invokeinterface 179 3, 11), (.if_icmp .eq 48, 0), (.iconst (0), 0), (.ireturn, 1)],
  [(.aload 1, 0), (.aload 0, 0), (.iload 4, 0), (.iconst (1), 0), (.iadd, 0), (.iaload, 0), (.invokeinterface 50 2, 10), (.aload 2, 0), (.aload 0, 0), (.iload 4, 0), (.iconst (1), 0), (.iadd, 0), (.iaload, 0), (.invokeinterface 181 2, 11), (.if_icmp .eq 48, 0), (.iconst (0), 0), (.ireturn, 1)],
  [(.aload 1, 0), (.aload 0, 0), (.iload 4, 0), (.iconst (1), 0), (.iadd, 0), (.iaload, 0), (.invokeinterface 37 2, 10), (.aload 2, 0), (.aload 0, 0), (.iload 4, 0), (.iconst (1), 0), (.iadd, 0), (.iaload, 0), (.invokeinterface 182 2, 11), (.if_icmp .eq 48, 0), (.iconst (0), 0), (.ireturn, 1)],
  [(.aload 1, 0), (.invokeinterface 51 1, 10), (.aload 2, 0), (.invokeinterface 183 1, 11), (.if_icmp .eq 48, 0), (.iconst (0), 0), (.ireturn, 1)],
  [(.aload 1, 0), (.invokeinterface 52 1, 10), (.aload 2, 0), (.invokeinterface 186 1, 11), (.if_icmp .eq 48, 0), (.iconst (0), 0), (.ireturn, 1)],
  [(.aload 1, 0), (.invokeinterface 53 1, 10), (.aload 2, 0), (.invokeinterface 187 1, 11), (.if_icmp .eq 48, 0), (.iconst (0), 0), (.ireturn, 1)],
  [(.aload 1, 0), (.aload 0, 0), (.iload 4, 0), (.iconst (1), 0), (.iadd, 0), (.iaload, 0), (.invokeinterface 54 2, 10), (.aload 2, 0), (.aload 0, 0), (.iload 4, 0), (.iconst (1), 0), (.iadd, 0), (.iaload, 0), (.invokeinterface 188 2, 11), (.if_icmp .eq 48, 0), (.iconst (0), 0), (.ireturn, 1)],
  [(.iinc 4 (8), 0), (.goto 1, 0)],
  [(.iconst (1), 0), (.ireturn, 1)]])
/-- java/lang/Integer.bitCount(I)I -/
def me276 : ME := ((13, yJ6_bitCount_0f7a4, prog_18_method_49_code), (1, 1, 0, 1), [0], [
  [(.iload 0, 0), (.iload 0, 0), (.iconst (1), 0), (.iushr, 0), (.iconst (1431655765), 0), (.iand, 0), (.isub, 0), (.istore 0, 0), (.iload 0, 0), (.iconst (858993459), 0), (.iand, 0), (.iload 0, 0), (.iconst (2), 0), (.iushr, 0), (.iconst (858993459), 0), (.iand, 0), (.iadd, 0), (.istore 0, 0), (.iload 0, 0), (.iload 0, 0), (.iconst (4), 0), (.iushr, 0), (.iadd, 0), (.iconst (252645135), 0), (.iand, 0), (.istore 0, 0), (.iload 0, 0), (.iload 0, 0), (.iconst (8), 0), (.iushr, 0), (.iadd, 0), (.istore 0, 0), (.iload 0, 0), (.iload 0, 0), (.iconst (16), 0), (.iushr, 0), (.iadd, 0), (.istore 0, 0), (.iload 0, 0), (.iconst (63), 0), (.iand, 0), (.ireturn, 0)]])
/-- java/lang/Math.max(JJ)J -/
def me277 : ME := ((14, yJ9_max_f86c9, prog_19_method_66_code), (4, 3, 0, 2), [0, 10, 11], [
  [(.lload 0, 0), (.lload 2, 0), (.lcmp, 0), (.ifCond .lt 1, 0), (.lload 0, 0), (.goto 2, 0)],
  [(.lload 2, 0), (.jsr 2, 0)],
  [(.lreturn, 0)]])
/-- java/lang/Math.min(II)I -/
def me278 : ME := ((14, yJ9_min_7cf53, prog_19_method_69_code), (2, 1, 0, 2), [0, 9, 10], [
  [(.iload 0, 0), (.iload 1, 0), (.if_icmp .gt 1, 0), (.iload 0, 0), (.goto 2, 0)],
  [(.iload 1, 0), (.jsr 2, 0)],
  [(.ireturn, 0)]])
/-- java/lang/Math.min(JJ)J -/
def me279 : ME := ((14, yJ9_min_f86c9, prog_19_method_70_code), (4, 3, 0, 2), [0, 10, 11], [
  [(.lload 0, 0), (.lload 2, 0), (.lcmp, 0), (.ifCond .gt 1, 0), (.lload 0, 0), (.goto 2, 0)],
  [(.lload 2, 0), (.jsr 2, 0)],
  [(.lreturn, 0)]])
def mt0 : List ME := [me0, me1, me2, me3, me4, me5, me6, me7, me8, me9, me10, me11, me12, me13, me14, me15, me16, me17, me18, me19]
def mt1 : List ME := [me20, me21, me22, me23, me24, me25, me26, me27, me28, me29, me30, me31, me32, me33, me34, me35, me36, me37, me38, me39]
def mt2 : List ME := [me40, me41, me42, me43, me44, me45, me46, me47, me48, me49, me50, me51, me52, me53, me54, me55, me56, me57, me58, me59]
def mt3 : List ME := [me60, me61, me62, me63, me64, me65, me66, me67, me68, me69, me70, me71, me72, me73, me74, me75, me76, me77, me78, me79]
def mt4 : List ME := [me80, me81, me82, me83, me84, me85, me86, me87, me88, me89, me90, me91, me92, me93, me94, me95, me96, me97, me98, me99]
def mt5 : List ME := [me100, me101, me102, me103, me104, me105, me106, me107, me108, me109, me110, me111, me112, me113, me114, me115, me116, me117, me118, me119]
def mt6 : List ME := [me120, me121, me122, me123, me124, me125, me126, me127, me128, me129, me130, me131, me132, me133, me134, me135, me136, me137, me138, me139]
def mt7 : List ME := [me140, me141, me142, me143, me144, me145, me146, me147, me148, me149, me150, me151, me152, me153, me154, me155, me156, me157, me158, me159]
def mt8 : List ME := [me160, me161, me162, me163, me164, me165, me166, me167, me168, me169, me170, me171, me172, me173, me174, me175, me176, me177, me178, me179]
def mt9 : List ME := [me180, me181, me182, me183, me184, me185, me186, me187, me188, me189, me190, me191, me192, me193, me194, me195, me196, me197, me198, me199]
def mt10 : List ME := [me200, me201, me202, me203, me204, me205, me206, me207, me208, me209, me210, me211, me212, me213, me214, me215, me216, me217, me218, me219]
def mt11 : List ME := [me220, me221, me222, me223, me224, me225, me226, me227, me228, me229, me230, me231, me232, me233, me234, me235, me236, me237, me238, me239]
def mt12 : List ME := [me240, me241, me242, me243, me244, me245, me246, me247, me248, me249, me250, me251, me252, me253, me254, me255, me256, me257, me258, me259]
def mt13 : List ME := [me260, me261, me262, me263, me264, me265, me266, me267, me268, me269, me270, me271, me272, me273, me274, me275, me276, me277, me278, me279]
def mt : List ME := mt0 ++ (mt1 ++ (mt2 ++ (mt3 ++ (mt4 ++ (mt5 ++ (mt6 ++ (mt7 ++ (mt8 ++ (mt9 ++ (mt10 ++ (mt11 ++ (mt12 ++ (mt13)))))))))))))
def mOf (k : Nat) : ME := mt.getD k me0
def blk (k b : Nat) : List XI := (mOf k).2.2.2.getD b []
