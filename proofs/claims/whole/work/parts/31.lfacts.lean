def tb_L_book_0 : List (Nat × Instr × Nat) := [(0, .aload 4, 2), (2, .iconst 0, 1), (3, .aload_n 0, 1), (4, .iload_n 1, 1), (5, .iload_n 2, 1), (6, .iload_n 3, 1), (7, .invokevirtual 7, 3), (10, .ifCond .eq 7, 3), (13, .lconst 1, 1), (14, .goto 4, 3), (17, .lconst 0, 1), (18, .lastore, 1), (19, .goto 7, 3), (22, .astore 5, 2), (24, .iconst 1, 1), (25, .ireturn, 1), (26, .iconst 0, 1), (27, .ireturn, 1)]
theorem tk_L_book_0 : tb_L_book_0.all (dqb method_3_code) = true := by decide +kernel
def y_L_book : MethodName := ⟨"LabourExchangeLaw", "book", "(LLabourExchange;III[J)I"⟩
def hh_L_book : List (Nat × Nat × Nat × Nat) := [((0 : Nat), (19 : Nat), (22 : Nat), (13 : Nat))]
theorem yw_L_book : Yw y_L_book method_3_code 6 hh_L_book 5 := ⟨⟨(tb_c5 61 (by decide +kernel) (by decide +kernel)), (tb_c1 0 (by decide +kernel) (by decide +kernel)), (tb_c5 62 (by decide +kernel) (by decide +kernel))⟩, by decide, by decide, by decide +kernel⟩
def tb_L_returns_0 : List (Nat × Instr × Nat) := [(0, .aload 4, 2), (2, .iconst 0, 1), (3, .aload_n 0, 1), (4, .iload_n 1, 1), (5, .iload_n 2, 1), (6, .iload_n 3, 1), (7, .invokevirtual 15, 3), (10, .ifCond .eq 7, 3), (13, .lconst 1, 1), (14, .goto 4, 3), (17, .lconst 0, 1), (18, .lastore, 1), (19, .goto 7, 3), (22, .astore 5, 2), (24, .iconst 1, 1), (25, .ireturn, 1), (26, .iconst 0, 1), (27, .ireturn, 1)]
theorem tk_L_returns_0 : tb_L_returns_0.all (dqb method_4_code) = true := by decide +kernel
def y_L_returns : MethodName := ⟨"LabourExchangeLaw", "returns", "(LLabourExchange;III[J)I"⟩
def hh_L_returns : List (Nat × Nat × Nat × Nat) := [((0 : Nat), (19 : Nat), (22 : Nat), (13 : Nat))]
theorem yw_L_returns : Yw y_L_returns method_4_code 6 hh_L_returns 5 := ⟨⟨(tb_c5 152 (by decide +kernel) (by decide +kernel)), (tb_c1 0 (by decide +kernel) (by decide +kernel)), (tb_c5 153 (by decide +kernel) (by decide +kernel))⟩, by decide, by decide, by decide +kernel⟩
def tb_L_stamps_0 : List (Nat × Instr × Nat) := [(0, .aload_n 3, 1), (1, .iconst 0, 1), (2, .aload_n 0, 1), (3, .iload_n 1, 1), (4, .iload_n 2, 1), (5, .invokevirtual 18, 3), (8, .i2l, 1), (9, .lastore, 1), (10, .goto 7, 3), (13, .astore 4, 2), (15, .iconst 1, 1), (16, .ireturn, 1), (17, .iconst 0, 1), (18, .ireturn, 1)]
theorem tk_L_stamps_0 : tb_L_stamps_0.all (dqb method_5_code) = true := by decide +kernel
def y_L_stamps : MethodName := ⟨"LabourExchangeLaw", "stamps", "(LLabourExchange;II[J)I"⟩
def hh_L_stamps : List (Nat × Nat × Nat × Nat) := [((0 : Nat), (10 : Nat), (13 : Nat), (13 : Nat))]
theorem yw_L_stamps : Yw y_L_stamps method_5_code 5 hh_L_stamps 4 := ⟨⟨(tb_c5 163 (by decide +kernel) (by decide +kernel)), (tb_c1 0 (by decide +kernel) (by decide +kernel)), (tb_c5 164 (by decide +kernel) (by decide +kernel))⟩, by decide, by decide, by decide +kernel⟩
def tb_L_text_0 : List (Nat × Instr × Nat) := [(0, .aload 4, 2), (2, .iconst 0, 1), (3, .aload_n 0, 1), (4, .iload_n 1, 1), (5, .iload_n 2, 1), (6, .iload_n 3, 1), (7, .invokevirtual 22, 3), (10, .i2l, 1), (11, .lastore, 1), (12, .goto 7, 3), (15, .astore 5, 2), (17, .iconst 1, 1), (18, .ireturn, 1), (19, .iconst 0, 1), (20, .ireturn, 1)]
theorem tk_L_text_0 : tb_L_text_0.all (dqb method_6_code) = true := by decide +kernel
def y_L_text : MethodName := ⟨"LabourExchangeLaw", "text", "(LLabourExchange;III[J)I"⟩
def hh_L_text : List (Nat × Nat × Nat × Nat) := [((0 : Nat), (12 : Nat), (15 : Nat), (26 : Nat))]
theorem yw_L_text : Yw y_L_text method_6_code 6 hh_L_text 5 := ⟨⟨(tb_c5 182 (by decide +kernel) (by decide +kernel)), (tb_c1 0 (by decide +kernel) (by decide +kernel)), (tb_c5 183 (by decide +kernel) (by decide +kernel))⟩, by decide, by decide, by decide +kernel⟩
def tb_L_event_0 : List (Nat × Instr × Nat) := [(0, .aload 5, 2), (2, .iconst 0, 1), (3, .aload_n 0, 1), (4, .iload_n 1, 1), (5, .iload_n 2, 1), (6, .iload_n 3, 1), (7, .iload 4, 2), (9, .invokevirtual 28, 3), (12, .i2l, 1), (13, .lastore, 1), (14, .goto 7, 3), (17, .astore 6, 2), (19, .iconst 1, 1), (20, .ireturn, 1), (21, .iconst 0, 1), (22, .ireturn, 1)]
theorem tk_L_event_0 : tb_L_event_0.all (dqb method_7_code) = true := by decide +kernel
def y_L_event : MethodName := ⟨"LabourExchangeLaw", "event", "(LLabourExchange;IIII[J)I"⟩
def hh_L_event : List (Nat × Nat × Nat × Nat) := [((0 : Nat), (14 : Nat), (17 : Nat), (13 : Nat))]
theorem yw_L_event : Yw y_L_event method_7_code 7 hh_L_event 6 := ⟨⟨(tb_c6 145 (by decide +kernel) (by decide +kernel)), (tb_c1 0 (by decide +kernel) (by decide +kernel)), (tb_c6 146 (by decide +kernel) (by decide +kernel))⟩, by decide, by decide, by decide +kernel⟩
def tb_L_back_0 : List (Nat × Instr × Nat) := [(0, .aload_n 2, 1), (1, .iconst 0, 1), (2, .aload_n 0, 1), (3, .iload_n 1, 1), (4, .invokevirtual 32, 3), (7, .ifCond .eq 7, 3), (10, .lconst 1, 1), (11, .goto 4, 3), (14, .lconst 0, 1), (15, .lastore, 1), (16, .goto 6, 3), (19, .astore_n 3, 1), (20, .iconst 1, 1), (21, .ireturn, 1), (22, .iconst 0, 1), (23, .ireturn, 1)]
theorem tk_L_back_0 : tb_L_back_0.all (dqb method_8_code) = true := by decide +kernel
def y_L_back : MethodName := ⟨"LabourExchangeLaw", "back", "(LLabourExchange;I[J)I"⟩
def hh_L_back : List (Nat × Nat × Nat × Nat) := [((0 : Nat), (16 : Nat), (19 : Nat), (13 : Nat))]
theorem yw_L_back : Yw y_L_back method_8_code 4 hh_L_back 3 := ⟨⟨(tb_c6 166 (by decide +kernel) (by decide +kernel)), (tb_c1 0 (by decide +kernel) (by decide +kernel)), (tb_c6 167 (by decide +kernel) (by decide +kernel))⟩, by decide, by decide, by decide +kernel⟩
def tb_L_told_0 : List (Nat × Instr × Nat) := [(0, .aload_n 3, 1), (1, .iconst 0, 1), (2, .aload_n 0, 1), (3, .iload_n 1, 1), (4, .iload_n 2, 1), (5, .invokevirtual 36, 3), (8, .i2l, 1), (9, .lastore, 1), (10, .goto 7, 3), (13, .astore 4, 2), (15, .iconst 1, 1), (16, .ireturn, 1), (17, .iconst 0, 1), (18, .ireturn, 1)]
theorem tk_L_told_0 : tb_L_told_0.all (dqb method_9_code) = true := by decide +kernel
def y_L_told : MethodName := ⟨"LabourExchangeLaw", "told", "(LLabourExchange;II[J)I"⟩
def hh_L_told : List (Nat × Nat × Nat × Nat) := [((0 : Nat), (10 : Nat), (13 : Nat), (13 : Nat))]
theorem yw_L_told : Yw y_L_told method_9_code 5 hh_L_told 4 := ⟨⟨(tb_c6 173 (by decide +kernel) (by decide +kernel)), (tb_c1 0 (by decide +kernel) (by decide +kernel)), (tb_c6 174 (by decide +kernel) (by decide +kernel))⟩, by decide, by decide, by decide +kernel⟩
def tb_L_days_0 : List (Nat × Instr × Nat) := [(0, .aload_n 2, 1), (1, .iconst 0, 1), (2, .aload_n 0, 1), (3, .iload_n 1, 1), (4, .invokevirtual 39, 3), (7, .i2l, 1), (8, .lastore, 1), (9, .goto 6, 3), (12, .astore_n 3, 1), (13, .iconst 1, 1), (14, .ireturn, 1), (15, .iconst 0, 1), (16, .ireturn, 1)]
theorem tk_L_days_0 : tb_L_days_0.all (dqb method_10_code) = true := by decide +kernel
def y_L_days : MethodName := ⟨"LabourExchangeLaw", "days", "(LLabourExchange;I[J)I"⟩
def hh_L_days : List (Nat × Nat × Nat × Nat) := [((0 : Nat), (9 : Nat), (12 : Nat), (26 : Nat))]
theorem yw_L_days : Yw y_L_days method_10_code 4 hh_L_days 3 := ⟨⟨(tb_c6 193 (by decide +kernel) (by decide +kernel)), (tb_c1 0 (by decide +kernel) (by decide +kernel)), (tb_c6 194 (by decide +kernel) (by decide +kernel))⟩, by decide, by decide, by decide +kernel⟩
def tb_L_look_0 : List (Nat × Instr × Nat) := [(0, .aload_n 2, 1), (1, .iconst 0, 1), (2, .aload_n 0, 1), (3, .iload_n 1, 1), (4, .invokevirtual 43, 3), (7, .i2l, 1), (8, .lastore, 1), (9, .goto 6, 3), (12, .astore_n 3, 1), (13, .iconst 1, 1), (14, .ireturn, 1), (15, .iconst 0, 1), (16, .ireturn, 1)]
theorem tk_L_look_0 : tb_L_look_0.all (dqb method_11_code) = true := by decide +kernel
def y_L_look : MethodName := ⟨"LabourExchangeLaw", "look", "(LLabourExchange;I[J)I"⟩
def hh_L_look : List (Nat × Nat × Nat × Nat) := [((0 : Nat), (9 : Nat), (12 : Nat), (26 : Nat))]
theorem yw_L_look : Yw y_L_look method_11_code 4 hh_L_look 3 := ⟨⟨(tb_c6 221 (by decide +kernel) (by decide +kernel)), (tb_c1 0 (by decide +kernel) (by decide +kernel)), (tb_c6 222 (by decide +kernel) (by decide +kernel))⟩, by decide, by decide, by decide +kernel⟩
def tb_L_day_0 : List (Nat × Instr × Nat) := [(0, .aload 4, 2), (2, .iconst 0, 1), (3, .aload_n 0, 1), (4, .iload_n 1, 1), (5, .iload_n 2, 1), (6, .iload_n 3, 1), (7, .invokevirtual 46, 3), (10, .i2l, 1), (11, .lastore, 1), (12, .goto 7, 3), (15, .astore 5, 2), (17, .iconst 1, 1), (18, .ireturn, 1), (19, .iconst 0, 1), (20, .ireturn, 1)]
theorem tk_L_day_0 : tb_L_day_0.all (dqb method_12_code) = true := by decide +kernel
def y_L_day : MethodName := ⟨"LabourExchangeLaw", "day", "(LLabourExchange;III[J)I"⟩
def hh_L_day : List (Nat × Nat × Nat × Nat) := [((0 : Nat), (12 : Nat), (15 : Nat), (13 : Nat))]
theorem yw_L_day : Yw y_L_day method_12_code 6 hh_L_day 5 := ⟨⟨(tb_c6 228 (by decide +kernel) (by decide +kernel)), (tb_c1 0 (by decide +kernel) (by decide +kernel)), (tb_c6 229 (by decide +kernel) (by decide +kernel))⟩, by decide, by decide, by decide +kernel⟩
def tb_L_claim_0 : List (Nat × Instr × Nat) := [(0, .aload 4, 2), (2, .iconst 0, 1), (3, .aload_n 0, 1), (4, .iload_n 1, 1), (5, .iload_n 2, 1), (6, .iload_n 3, 1), (7, .invokevirtual 49, 3), (10, .i2l, 1), (11, .lastore, 1), (12, .goto 7, 3), (15, .astore 5, 2), (17, .iconst 1, 1), (18, .ireturn, 1), (19, .iconst 0, 1), (20, .ireturn, 1)]
theorem tk_L_claim_0 : tb_L_claim_0.all (dqb method_13_code) = true := by decide +kernel
def y_L_claim : MethodName := ⟨"LabourExchangeLaw", "claim", "(LLabourExchange;III[J)I"⟩
def hh_L_claim : List (Nat × Nat × Nat × Nat) := [((0 : Nat), (12 : Nat), (15 : Nat), (13 : Nat))]
theorem yw_L_claim : Yw y_L_claim method_13_code 6 hh_L_claim 5 := ⟨⟨(tb_c7 8 (by decide +kernel) (by decide +kernel)), (tb_c1 0 (by decide +kernel) (by decide +kernel)), (tb_c7 9 (by decide +kernel) (by decide +kernel))⟩, by decide, by decide, by decide +kernel⟩
def tb_L_value_0 : List (Nat × Instr × Nat) := [(0, .aload_n 3, 1), (1, .iconst 0, 1), (2, .aload_n 0, 1), (3, .iload_n 1, 1), (4, .iload_n 2, 1), (5, .invokevirtual 52, 3), (8, .lastore, 1), (9, .goto 7, 3), (12, .astore 4, 2), (14, .iconst 1, 1), (15, .ireturn, 1), (16, .iconst 0, 1), (17, .ireturn, 1)]
theorem tk_L_value_0 : tb_L_value_0.all (dqb method_14_code) = true := by decide +kernel
def y_L_value : MethodName := ⟨"LabourExchangeLaw", "value", "(LLabourExchange;II[J)I"⟩
def hh_L_value : List (Nat × Nat × Nat × Nat) := [((0 : Nat), (9 : Nat), (12 : Nat), (13 : Nat))]
theorem yw_L_value : Yw y_L_value method_14_code 5 hh_L_value 4 := ⟨⟨(tb_c7 15 (by decide +kernel) (by decide +kernel)), (tb_c1 0 (by decide +kernel) (by decide +kernel)), (tb_c7 16 (by decide +kernel) (by decide +kernel))⟩, by decide, by decide, by decide +kernel⟩
def tb_L_law_0 : List (Nat × Instr × Nat) := [(0, .aload_n 3, 1), (1, .iconst 0, 1), (2, .aload_n 0, 1), (3, .iload_n 1, 1), (4, .iload_n 2, 1), (5, .invokevirtual 56, 3), (8, .i2l, 1), (9, .lastore, 1), (10, .goto 7, 3), (13, .astore 4, 2), (15, .iconst 1, 1), (16, .ireturn, 1), (17, .iconst 0, 1), (18, .ireturn, 1)]
theorem tk_L_law_0 : tb_L_law_0.all (dqb method_15_code) = true := by decide +kernel
def y_L_law : MethodName := ⟨"LabourExchangeLaw", "law", "(LLabourExchange;II[J)I"⟩
def hh_L_law : List (Nat × Nat × Nat × Nat) := [((0 : Nat), (10 : Nat), (13 : Nat), (13 : Nat))]
theorem yw_L_law : Yw y_L_law method_15_code 5 hh_L_law 4 := ⟨⟨(tb_c7 23 (by decide +kernel) (by decide +kernel)), (tb_c1 0 (by decide +kernel) (by decide +kernel)), (tb_c7 24 (by decide +kernel) (by decide +kernel))⟩, by decide, by decide, by decide +kernel⟩
def tb_L_paid_0 : List (Nat × Instr × Nat) := [(0, .aload_n 3, 1), (1, .iconst 0, 1), (2, .aload_n 0, 1), (3, .iload_n 1, 1), (4, .iload_n 2, 1), (5, .invokevirtual 59, 3), (8, .i2l, 1), (9, .lastore, 1), (10, .goto 7, 3), (13, .astore 4, 2), (15, .iconst 1, 1), (16, .ireturn, 1), (17, .iconst 0, 1), (18, .ireturn, 1)]
theorem tk_L_paid_0 : tb_L_paid_0.all (dqb method_16_code) = true := by decide +kernel
def y_L_paid : MethodName := ⟨"LabourExchangeLaw", "paid", "(LLabourExchange;II[J)I"⟩
def hh_L_paid : List (Nat × Nat × Nat × Nat) := [((0 : Nat), (10 : Nat), (13 : Nat), (13 : Nat))]
theorem yw_L_paid : Yw y_L_paid method_16_code 5 hh_L_paid 4 := ⟨⟨(tb_c7 31 (by decide +kernel) (by decide +kernel)), (tb_c1 0 (by decide +kernel) (by decide +kernel)), (tb_c7 32 (by decide +kernel) (by decide +kernel))⟩, by decide, by decide, by decide +kernel⟩
def tb_L_fund_0 : List (Nat × Instr × Nat) := [(0, .aload_n 2, 1), (1, .iconst 0, 1), (2, .aload_n 0, 1), (3, .iload_n 1, 1), (4, .invokevirtual 62, 3), (7, .i2l, 1), (8, .lastore, 1), (9, .goto 6, 3), (12, .astore_n 3, 1), (13, .iconst 1, 1), (14, .ireturn, 1), (15, .iconst 0, 1), (16, .ireturn, 1)]
theorem tk_L_fund_0 : tb_L_fund_0.all (dqb method_17_code) = true := by decide +kernel
def y_L_fund : MethodName := ⟨"LabourExchangeLaw", "fund", "(LLabourExchange;I[J)I"⟩
def hh_L_fund : List (Nat × Nat × Nat × Nat) := [((0 : Nat), (9 : Nat), (12 : Nat), (13 : Nat))]
theorem yw_L_fund : Yw y_L_fund method_17_code 4 hh_L_fund 3 := ⟨⟨(tb_c7 38 (by decide +kernel) (by decide +kernel)), (tb_c1 0 (by decide +kernel) (by decide +kernel)), (tb_c7 39 (by decide +kernel) (by decide +kernel))⟩, by decide, by decide, by decide +kernel⟩
def tb_L_known_0 : List (Nat × Instr × Nat) := [(0, .aload_n 3, 1), (1, .iconst 0, 1), (2, .aload_n 0, 1), (3, .iload_n 1, 1), (4, .iload_n 2, 1), (5, .invokevirtual 65, 3), (8, .i2l, 1), (9, .lastore, 1), (10, .goto 7, 3), (13, .astore 4, 2), (15, .iconst 1, 1), (16, .ireturn, 1), (17, .iconst 0, 1), (18, .ireturn, 1)]
theorem tk_L_known_0 : tb_L_known_0.all (dqb method_18_code) = true := by decide +kernel
def y_L_known : MethodName := ⟨"LabourExchangeLaw", "known", "(LLabourExchange;II[J)I"⟩
def hh_L_known : List (Nat × Nat × Nat × Nat) := [((0 : Nat), (10 : Nat), (13 : Nat), (13 : Nat))]
theorem yw_L_known : Yw y_L_known method_18_code 5 hh_L_known 4 := ⟨⟨(tb_c7 53 (by decide +kernel) (by decide +kernel)), (tb_c1 0 (by decide +kernel) (by decide +kernel)), (tb_c7 54 (by decide +kernel) (by decide +kernel))⟩, by decide, by decide, by decide +kernel⟩
def tb_L_offer_0 : List (Nat × Instr × Nat) := [(0, .aload_n 3, 1), (1, .iconst 0, 1), (2, .aload_n 0, 1), (3, .iload_n 1, 1), (4, .iload_n 2, 1), (5, .invokevirtual 68, 3), (8, .i2l, 1), (9, .lastore, 1), (10, .goto 7, 3), (13, .astore 4, 2), (15, .iconst 1, 1), (16, .ireturn, 1), (17, .iconst 0, 1), (18, .ireturn, 1)]
theorem tk_L_offer_0 : tb_L_offer_0.all (dqb method_19_code) = true := by decide +kernel
def y_L_offer : MethodName := ⟨"LabourExchangeLaw", "offer", "(LLabourExchange;II[J)I"⟩
def hh_L_offer : List (Nat × Nat × Nat × Nat) := [((0 : Nat), (10 : Nat), (13 : Nat), (13 : Nat))]
theorem yw_L_offer : Yw y_L_offer method_19_code 5 hh_L_offer 4 := ⟨⟨(tb_c7 61 (by decide +kernel) (by decide +kernel)), (tb_c1 0 (by decide +kernel) (by decide +kernel)), (tb_c7 62 (by decide +kernel) (by decide +kernel))⟩, by decide, by decide, by decide +kernel⟩
def tb_L_offerOf_0 : List (Nat × Instr × Nat) := [(0, .aload_n 3, 1), (1, .iconst 0, 1), (2, .aload_n 0, 1), (3, .iload_n 1, 1), (4, .iload_n 2, 1), (5, .invokevirtual 71, 3), (8, .i2l, 1), (9, .lastore, 1), (10, .goto 7, 3), (13, .astore 4, 2), (15, .iconst 1, 1), (16, .ireturn, 1), (17, .iconst 0, 1), (18, .ireturn, 1)]
theorem tk_L_offerOf_0 : tb_L_offerOf_0.all (dqb method_20_code) = true := by decide +kernel
def y_L_offerOf : MethodName := ⟨"LabourExchangeLaw", "offerOf", "(LLabourExchange;II[J)I"⟩
def hh_L_offerOf : List (Nat × Nat × Nat × Nat) := [((0 : Nat), (10 : Nat), (13 : Nat), (13 : Nat))]
theorem yw_L_offerOf : Yw y_L_offerOf method_20_code 5 hh_L_offerOf 4 := ⟨⟨(tb_c7 73 (by decide +kernel) (by decide +kernel)), (tb_c1 0 (by decide +kernel) (by decide +kernel)), (tb_c7 74 (by decide +kernel) (by decide +kernel))⟩, by decide, by decide, by decide +kernel⟩
def tb_L_answer_0 : List (Nat × Instr × Nat) := [(0, .aload_n 3, 1), (1, .iconst 0, 1), (2, .aload_n 0, 1), (3, .iload_n 1, 1), (4, .iload_n 2, 1), (5, .invokevirtual 74, 3), (8, .i2l, 1), (9, .lastore, 1), (10, .goto 7, 3), (13, .astore 4, 2), (15, .iconst 1, 1), (16, .ireturn, 1), (17, .iconst 0, 1), (18, .ireturn, 1)]
theorem tk_L_answer_0 : tb_L_answer_0.all (dqb method_21_code) = true := by decide +kernel
def y_L_answer : MethodName := ⟨"LabourExchangeLaw", "answer", "(LLabourExchange;IZ[J)I"⟩
def hh_L_answer : List (Nat × Nat × Nat × Nat) := [((0 : Nat), (10 : Nat), (13 : Nat), (13 : Nat))]
theorem yw_L_answer : Yw y_L_answer method_21_code 5 hh_L_answer 4 := ⟨⟨(tb_c7 80 (by decide +kernel) (by decide +kernel)), (tb_c1 0 (by decide +kernel) (by decide +kernel)), (tb_c7 81 (by decide +kernel) (by decide +kernel))⟩, by decide, by decide, by decide +kernel⟩
def tb_L_sent_0 : List (Nat × Instr × Nat) := [(0, .aload_n 2, 1), (1, .iconst 0, 1), (2, .aload_n 0, 1), (3, .iload_n 1, 1), (4, .invokevirtual 78, 3), (7, .i2l, 1), (8, .lastore, 1), (9, .goto 6, 3), (12, .astore_n 3, 1), (13, .iconst 1, 1), (14, .ireturn, 1), (15, .iconst 0, 1), (16, .ireturn, 1)]
theorem tk_L_sent_0 : tb_L_sent_0.all (dqb method_22_code) = true := by decide +kernel
def y_L_sent : MethodName := ⟨"LabourExchangeLaw", "sent", "(LLabourExchange;I[J)I"⟩
def hh_L_sent : List (Nat × Nat × Nat × Nat) := [((0 : Nat), (9 : Nat), (12 : Nat), (13 : Nat))]
theorem yw_L_sent : Yw y_L_sent method_22_code 4 hh_L_sent 3 := ⟨⟨(tb_c7 87 (by decide +kernel) (by decide +kernel)), (tb_c1 0 (by decide +kernel) (by decide +kernel)), (tb_c7 88 (by decide +kernel) (by decide +kernel))⟩, by decide, by decide, by decide +kernel⟩
def tb_L_appeal_0 : List (Nat × Instr × Nat) := [(0, .aload_n 2, 1), (1, .iconst 0, 1), (2, .aload_n 0, 1), (3, .iload_n 1, 1), (4, .invokevirtual 81, 3), (7, .i2l, 1), (8, .lastore, 1), (9, .goto 6, 3), (12, .astore_n 3, 1), (13, .iconst 1, 1), (14, .ireturn, 1), (15, .iconst 0, 1), (16, .ireturn, 1)]
theorem tk_L_appeal_0 : tb_L_appeal_0.all (dqb method_23_code) = true := by decide +kernel
def y_L_appeal : MethodName := ⟨"LabourExchangeLaw", "appeal", "(LLabourExchange;I[J)I"⟩
def hh_L_appeal : List (Nat × Nat × Nat × Nat) := [((0 : Nat), (9 : Nat), (12 : Nat), (13 : Nat))]
theorem yw_L_appeal : Yw y_L_appeal method_23_code 4 hh_L_appeal 3 := ⟨⟨(tb_c7 94 (by decide +kernel) (by decide +kernel)), (tb_c1 0 (by decide +kernel) (by decide +kernel)), (tb_c7 95 (by decide +kernel) (by decide +kernel))⟩, by decide, by decide, by decide +kernel⟩
def tb_L_close_0 : List (Nat × Instr × Nat) := [(0, .aload_n 3, 1), (1, .iconst 0, 1), (2, .aload_n 0, 1), (3, .iload_n 1, 1), (4, .iload_n 2, 1), (5, .invokevirtual 84, 3), (8, .ifCond .eq 7, 3), (11, .lconst 1, 1), (12, .goto 4, 3), (15, .lconst 0, 1), (16, .lastore, 1), (17, .goto 7, 3), (20, .astore 4, 2), (22, .iconst 1, 1), (23, .ireturn, 1), (24, .iconst 0, 1), (25, .ireturn, 1)]
theorem tk_L_close_0 : tb_L_close_0.all (dqb method_24_code) = true := by decide +kernel
def y_L_close : MethodName := ⟨"LabourExchangeLaw", "close", "(LLabourExchange;IZ[J)I"⟩
def hh_L_close : List (Nat × Nat × Nat × Nat) := [((0 : Nat), (17 : Nat), (20 : Nat), (13 : Nat))]
theorem yw_L_close : Yw y_L_close method_24_code 5 hh_L_close 4 := ⟨⟨(tb_c7 114 (by decide +kernel) (by decide +kernel)), (tb_c1 0 (by decide +kernel) (by decide +kernel)), (tb_c7 115 (by decide +kernel) (by decide +kernel))⟩, by decide, by decide, by decide +kernel⟩
def tb_L_caseOf_0 : List (Nat × Instr × Nat) := [(0, .aload_n 3, 1), (1, .iconst 0, 1), (2, .aload_n 0, 1), (3, .iload_n 1, 1), (4, .iload_n 2, 1), (5, .invokevirtual 88, 3), (8, .i2l, 1), (9, .lastore, 1), (10, .goto 7, 3), (13, .astore 4, 2), (15, .iconst 1, 1), (16, .ireturn, 1), (17, .iconst 0, 1), (18, .ireturn, 1)]
theorem tk_L_caseOf_0 : tb_L_caseOf_0.all (dqb method_25_code) = true := by decide +kernel
def y_L_caseOf : MethodName := ⟨"LabourExchangeLaw", "caseOf", "(LLabourExchange;II[J)I"⟩
def hh_L_caseOf : List (Nat × Nat × Nat × Nat) := [((0 : Nat), (10 : Nat), (13 : Nat), (13 : Nat))]
theorem yw_L_caseOf : Yw y_L_caseOf method_25_code 5 hh_L_caseOf 4 := ⟨⟨(tb_c7 121 (by decide +kernel) (by decide +kernel)), (tb_c1 0 (by decide +kernel) (by decide +kernel)), (tb_c7 122 (by decide +kernel) (by decide +kernel))⟩, by decide, by decide, by decide +kernel⟩
def tb_L_attempt_0 : List (Nat × Instr × Nat) := [(0, .aload 4, 2), (2, .iconst 0, 1), (3, .aload_n 0, 1), (4, .iload_n 1, 1), (5, .iload_n 2, 1), (6, .iload_n 3, 1), (7, .invokevirtual 91, 3), (10, .i2l, 1), (11, .lastore, 1), (12, .goto 7, 3), (15, .astore 5, 2), (17, .iconst 1, 1), (18, .ireturn, 1), (19, .iconst 0, 1), (20, .ireturn, 1)]
theorem tk_L_attempt_0 : tb_L_attempt_0.all (dqb method_26_code) = true := by decide +kernel
def y_L_attempt : MethodName := ⟨"LabourExchangeLaw", "attempt", "(LLabourExchange;III[J)I"⟩
def hh_L_attempt : List (Nat × Nat × Nat × Nat) := [((0 : Nat), (12 : Nat), (15 : Nat), (26 : Nat))]
theorem yw_L_attempt : Yw y_L_attempt method_26_code 6 hh_L_attempt 5 := ⟨⟨(tb_c7 132 (by decide +kernel) (by decide +kernel)), (tb_c1 0 (by decide +kernel) (by decide +kernel)), (tb_c7 133 (by decide +kernel) (by decide +kernel))⟩, by decide, by decide, by decide +kernel⟩
def tb_L_tried_0 : List (Nat × Instr × Nat) := [(0, .aload_n 3, 1), (1, .iconst 0, 1), (2, .aload_n 0, 1), (3, .iload_n 1, 1), (4, .iload_n 2, 1), (5, .invokevirtual 94, 3), (8, .i2l, 1), (9, .lastore, 1), (10, .goto 7, 3), (13, .astore 4, 2), (15, .iconst 1, 1), (16, .ireturn, 1), (17, .iconst 0, 1), (18, .ireturn, 1)]
theorem tk_L_tried_0 : tb_L_tried_0.all (dqb method_27_code) = true := by decide +kernel
def y_L_tried : MethodName := ⟨"LabourExchangeLaw", "tried", "(LLabourExchange;II[J)I"⟩
def hh_L_tried : List (Nat × Nat × Nat × Nat) := [((0 : Nat), (10 : Nat), (13 : Nat), (13 : Nat))]
theorem yw_L_tried : Yw y_L_tried method_27_code 5 hh_L_tried 4 := ⟨⟨(tb_c7 148 (by decide +kernel) (by decide +kernel)), (tb_c1 0 (by decide +kernel) (by decide +kernel)), (tb_c7 149 (by decide +kernel) (by decide +kernel))⟩, by decide, by decide, by decide +kernel⟩
def tb_L_count_0 : List (Nat × Instr × Nat) := [(0, .aload_n 2, 1), (1, .iconst 0, 1), (2, .aload_n 0, 1), (3, .iload_n 1, 1), (4, .invokevirtual 97, 3), (7, .i2l, 1), (8, .lastore, 1), (9, .goto 6, 3), (12, .astore_n 3, 1), (13, .iconst 1, 1), (14, .ireturn, 1), (15, .iconst 0, 1), (16, .ireturn, 1)]
theorem tk_L_count_0 : tb_L_count_0.all (dqb method_28_code) = true := by decide +kernel
def y_L_count : MethodName := ⟨"LabourExchangeLaw", "count", "(LLabourExchange;I[J)I"⟩
def hh_L_count : List (Nat × Nat × Nat × Nat) := [((0 : Nat), (9 : Nat), (12 : Nat), (13 : Nat))]
theorem yw_L_count : Yw y_L_count method_28_code 4 hh_L_count 3 := ⟨⟨(tb_c7 155 (by decide +kernel) (by decide +kernel)), (tb_c1 0 (by decide +kernel) (by decide +kernel)), (tb_c7 156 (by decide +kernel) (by decide +kernel))⟩, by decide, by decide, by decide +kernel⟩
theorem lk_697 : Jvm.Cond.methodLink "LabourExchangeLaw" (104 : Nat) ({ cls := "LabourExchange", name := "office", desc := "(II)I" } : Jvm.MethodName) ∈ TB := tb_c3 217 (by decide +kernel) (by decide +kernel)
theorem lk_708 : Jvm.Cond.methodLink "LabourExchangeLaw" (108 : Nat) ({ cls := "LabourExchange", name := "person", desc := "(IIIII)I" } : Jvm.MethodName) ∈ TB := tb_c3 228 (by decide +kernel) (by decide +kernel)
theorem lk_716 : Jvm.Cond.methodLink "LabourExchangeLaw" (113 : Nat) ({ cls := "LabourExchange", name := "feed", desc := "(IIIII)I" } : Jvm.MethodName) ∈ TB := tb_c3 236 (by decide +kernel) (by decide +kernel)
theorem lk_724 : Jvm.Cond.methodLink "LabourExchangeLaw" (137 : Nat) ({ cls := "LabourExchange", name := "fault", desc := "()I" } : Jvm.MethodName) ∈ TB := tb_c4 4 (by decide +kernel) (by decide +kernel)
theorem lk_728 : Jvm.Cond.methodLink "LabourExchangeLaw" (176 : Nat) ({ cls := "LabourExchange", name := "vacancy", desc := "(IIII)I" } : Jvm.MethodName) ∈ TB := tb_c4 8 (by decide +kernel) (by decide +kernel)
theorem lk_736 : Jvm.Cond.methodLink "LabourExchangeLaw" (193 : Nat) ({ cls := "LabourExchange", name := "send", desc := "()I" } : Jvm.MethodName) ∈ TB := tb_c4 16 (by decide +kernel) (by decide +kernel)
theorem lk_1004 : Jvm.Cond.methodLink "LabourExchangeLaw" (200 : Nat) ({ cls := "LabourExchange", name := "price", desc := "(III)Z" } : Jvm.MethodName) ∈ TB := tb_c5 44 (by decide +kernel) (by decide +kernel)
theorem lk_1008 : Jvm.Cond.methodLink "LabourExchangeLaw" (204 : Nat) ({ cls := "LabourExchange", name := "proves", desc := "()I" } : Jvm.MethodName) ∈ TB := tb_c5 48 (by decide +kernel) (by decide +kernel)
theorem lk_1012 : Jvm.Cond.methodLink "LabourExchangeLaw" (208 : Nat) ({ cls := "LabourExchange", name := "judge", desc := "(II)I" } : Jvm.MethodName) ∈ TB := tb_c5 52 (by decide +kernel) (by decide +kernel)
theorem lk_1020 : Jvm.Cond.methodLink "LabourExchangeLaw" (117 : Nat) ({ cls := "LabourExchangeLaw", name := "book", desc := "(LLabourExchange;III[J)I" } : Jvm.MethodName) ∈ TB := tb_c5 60 (by decide +kernel) (by decide +kernel)
theorem lk_1023 : Jvm.Cond.classLink "LabourExchangeLaw" (13 : Nat) "java/util/NoSuchElementException" ∈ TB := tb_c5 63 (by decide +kernel) (by decide +kernel)
theorem lk_1024 : Jvm.Cond.methodLink "LabourExchangeLaw" (7 : Nat) ({ cls := "LabourExchange", name := "book", desc := "(III)Z" } : Jvm.MethodName) ∈ TB := tb_c5 64 (by decide +kernel) (by decide +kernel)
theorem lk_1111 : Jvm.Cond.methodLink "LabourExchangeLaw" (127 : Nat) ({ cls := "LabourExchangeLaw", name := "returns", desc := "(LLabourExchange;III[J)I" } : Jvm.MethodName) ∈ TB := tb_c5 151 (by decide +kernel) (by decide +kernel)
theorem lk_1114 : Jvm.Cond.methodLink "LabourExchangeLaw" (15 : Nat) ({ cls := "LabourExchange", name := "returns", desc := "(III)Z" } : Jvm.MethodName) ∈ TB := tb_c5 154 (by decide +kernel) (by decide +kernel)
theorem lk_1122 : Jvm.Cond.methodLink "LabourExchangeLaw" (130 : Nat) ({ cls := "LabourExchangeLaw", name := "stamps", desc := "(LLabourExchange;II[J)I" } : Jvm.MethodName) ∈ TB := tb_c5 162 (by decide +kernel) (by decide +kernel)
theorem lk_1125 : Jvm.Cond.methodLink "LabourExchangeLaw" (18 : Nat) ({ cls := "LabourExchange", name := "stamps", desc := "(II)I" } : Jvm.MethodName) ∈ TB := tb_c5 165 (by decide +kernel) (by decide +kernel)
theorem lk_1141 : Jvm.Cond.methodLink "LabourExchangeLaw" (134 : Nat) ({ cls := "LabourExchangeLaw", name := "text", desc := "(LLabourExchange;III[J)I" } : Jvm.MethodName) ∈ TB := tb_c5 181 (by decide +kernel) (by decide +kernel)
theorem lk_1144 : Jvm.Cond.classLink "LabourExchangeLaw" (26 : Nat) "java/lang/IllegalArgumentException" ∈ TB := tb_c5 184 (by decide +kernel) (by decide +kernel)
theorem lk_1145 : Jvm.Cond.methodLink "LabourExchangeLaw" (22 : Nat) ({ cls := "LabourExchange", name := "text", desc := "(III)I" } : Jvm.MethodName) ∈ TB := tb_c5 185 (by decide +kernel) (by decide +kernel)
theorem lk_1344 : Jvm.Cond.methodLink "LabourExchangeLaw" (141 : Nat) ({ cls := "LabourExchangeLaw", name := "event", desc := "(LLabourExchange;IIII[J)I" } : Jvm.MethodName) ∈ TB := tb_c6 144 (by decide +kernel) (by decide +kernel)
theorem lk_1347 : Jvm.Cond.methodLink "LabourExchangeLaw" (28 : Nat) ({ cls := "LabourExchange", name := "event", desc := "(IIII)I" } : Jvm.MethodName) ∈ TB := tb_c6 147 (by decide +kernel) (by decide +kernel)
theorem lk_1365 : Jvm.Cond.methodLink "LabourExchangeLaw" (145 : Nat) ({ cls := "LabourExchangeLaw", name := "back", desc := "(LLabourExchange;I[J)I" } : Jvm.MethodName) ∈ TB := tb_c6 165 (by decide +kernel) (by decide +kernel)
theorem lk_1368 : Jvm.Cond.methodLink "LabourExchangeLaw" (32 : Nat) ({ cls := "LabourExchange", name := "back", desc := "(I)Z" } : Jvm.MethodName) ∈ TB := tb_c6 168 (by decide +kernel) (by decide +kernel)
theorem lk_1372 : Jvm.Cond.methodLink "LabourExchangeLaw" (149 : Nat) ({ cls := "LabourExchangeLaw", name := "told", desc := "(LLabourExchange;II[J)I" } : Jvm.MethodName) ∈ TB := tb_c6 172 (by decide +kernel) (by decide +kernel)
theorem lk_1375 : Jvm.Cond.methodLink "LabourExchangeLaw" (36 : Nat) ({ cls := "LabourExchange", name := "told", desc := "(II)I" } : Jvm.MethodName) ∈ TB := tb_c6 175 (by decide +kernel) (by decide +kernel)
theorem lk_1392 : Jvm.Cond.methodLink "LabourExchangeLaw" (152 : Nat) ({ cls := "LabourExchangeLaw", name := "days", desc := "(LLabourExchange;I[J)I" } : Jvm.MethodName) ∈ TB := tb_c6 192 (by decide +kernel) (by decide +kernel)
theorem lk_1395 : Jvm.Cond.methodLink "LabourExchangeLaw" (39 : Nat) ({ cls := "LabourExchange", name := "days", desc := "(I)I" } : Jvm.MethodName) ∈ TB := tb_c6 195 (by decide +kernel) (by decide +kernel)
theorem lk_1420 : Jvm.Cond.methodLink "LabourExchangeLaw" (155 : Nat) ({ cls := "LabourExchangeLaw", name := "look", desc := "(LLabourExchange;I[J)I" } : Jvm.MethodName) ∈ TB := tb_c6 220 (by decide +kernel) (by decide +kernel)
theorem lk_1423 : Jvm.Cond.methodLink "LabourExchangeLaw" (43 : Nat) ({ cls := "LabourExchange", name := "look", desc := "(I)I" } : Jvm.MethodName) ∈ TB := tb_c6 223 (by decide +kernel) (by decide +kernel)
theorem lk_1427 : Jvm.Cond.methodLink "LabourExchangeLaw" (158 : Nat) ({ cls := "LabourExchangeLaw", name := "day", desc := "(LLabourExchange;III[J)I" } : Jvm.MethodName) ∈ TB := tb_c6 227 (by decide +kernel) (by decide +kernel)
theorem lk_1430 : Jvm.Cond.methodLink "LabourExchangeLaw" (46 : Nat) ({ cls := "LabourExchange", name := "day", desc := "(III)I" } : Jvm.MethodName) ∈ TB := tb_c6 230 (by decide +kernel) (by decide +kernel)
theorem lk_1447 : Jvm.Cond.methodLink "LabourExchangeLaw" (161 : Nat) ({ cls := "LabourExchangeLaw", name := "claim", desc := "(LLabourExchange;III[J)I" } : Jvm.MethodName) ∈ TB := tb_c7 7 (by decide +kernel) (by decide +kernel)
theorem lk_1450 : Jvm.Cond.methodLink "LabourExchangeLaw" (49 : Nat) ({ cls := "LabourExchange", name := "claim", desc := "(III)I" } : Jvm.MethodName) ∈ TB := tb_c7 10 (by decide +kernel) (by decide +kernel)
theorem lk_1454 : Jvm.Cond.methodLink "LabourExchangeLaw" (164 : Nat) ({ cls := "LabourExchangeLaw", name := "value", desc := "(LLabourExchange;II[J)I" } : Jvm.MethodName) ∈ TB := tb_c7 14 (by decide +kernel) (by decide +kernel)
theorem lk_1457 : Jvm.Cond.methodLink "LabourExchangeLaw" (52 : Nat) ({ cls := "LabourExchange", name := "value", desc := "(II)J" } : Jvm.MethodName) ∈ TB := tb_c7 17 (by decide +kernel) (by decide +kernel)
theorem lk_1462 : Jvm.Cond.methodLink "LabourExchangeLaw" (167 : Nat) ({ cls := "LabourExchangeLaw", name := "law", desc := "(LLabourExchange;II[J)I" } : Jvm.MethodName) ∈ TB := tb_c7 22 (by decide +kernel) (by decide +kernel)
theorem lk_1465 : Jvm.Cond.methodLink "LabourExchangeLaw" (56 : Nat) ({ cls := "LabourExchange", name := "law", desc := "(II)I" } : Jvm.MethodName) ∈ TB := tb_c7 25 (by decide +kernel) (by decide +kernel)
theorem lk_1470 : Jvm.Cond.methodLink "LabourExchangeLaw" (170 : Nat) ({ cls := "LabourExchangeLaw", name := "paid", desc := "(LLabourExchange;II[J)I" } : Jvm.MethodName) ∈ TB := tb_c7 30 (by decide +kernel) (by decide +kernel)
theorem lk_1473 : Jvm.Cond.methodLink "LabourExchangeLaw" (59 : Nat) ({ cls := "LabourExchange", name := "paid", desc := "(II)I" } : Jvm.MethodName) ∈ TB := tb_c7 33 (by decide +kernel) (by decide +kernel)
theorem lk_1477 : Jvm.Cond.methodLink "LabourExchangeLaw" (173 : Nat) ({ cls := "LabourExchangeLaw", name := "fund", desc := "(LLabourExchange;I[J)I" } : Jvm.MethodName) ∈ TB := tb_c7 37 (by decide +kernel) (by decide +kernel)
theorem lk_1480 : Jvm.Cond.methodLink "LabourExchangeLaw" (62 : Nat) ({ cls := "LabourExchange", name := "fund", desc := "(I)I" } : Jvm.MethodName) ∈ TB := tb_c7 40 (by decide +kernel) (by decide +kernel)
theorem lk_1492 : Jvm.Cond.methodLink "LabourExchangeLaw" (180 : Nat) ({ cls := "LabourExchangeLaw", name := "known", desc := "(LLabourExchange;II[J)I" } : Jvm.MethodName) ∈ TB := tb_c7 52 (by decide +kernel) (by decide +kernel)
theorem lk_1495 : Jvm.Cond.methodLink "LabourExchangeLaw" (65 : Nat) ({ cls := "LabourExchange", name := "known", desc := "(II)I" } : Jvm.MethodName) ∈ TB := tb_c7 55 (by decide +kernel) (by decide +kernel)
theorem lk_1500 : Jvm.Cond.methodLink "LabourExchangeLaw" (183 : Nat) ({ cls := "LabourExchangeLaw", name := "offer", desc := "(LLabourExchange;II[J)I" } : Jvm.MethodName) ∈ TB := tb_c7 60 (by decide +kernel) (by decide +kernel)
theorem lk_1503 : Jvm.Cond.methodLink "LabourExchangeLaw" (68 : Nat) ({ cls := "LabourExchange", name := "offer", desc := "(II)I" } : Jvm.MethodName) ∈ TB := tb_c7 63 (by decide +kernel) (by decide +kernel)
theorem lk_1512 : Jvm.Cond.methodLink "LabourExchangeLaw" (186 : Nat) ({ cls := "LabourExchangeLaw", name := "offerOf", desc := "(LLabourExchange;II[J)I" } : Jvm.MethodName) ∈ TB := tb_c7 72 (by decide +kernel) (by decide +kernel)
theorem lk_1515 : Jvm.Cond.methodLink "LabourExchangeLaw" (71 : Nat) ({ cls := "LabourExchange", name := "offerOf", desc := "(II)I" } : Jvm.MethodName) ∈ TB := tb_c7 75 (by decide +kernel) (by decide +kernel)
theorem lk_1519 : Jvm.Cond.methodLink "LabourExchangeLaw" (189 : Nat) ({ cls := "LabourExchangeLaw", name := "answer", desc := "(LLabourExchange;IZ[J)I" } : Jvm.MethodName) ∈ TB := tb_c7 79 (by decide +kernel) (by decide +kernel)
theorem lk_1522 : Jvm.Cond.methodLink "LabourExchangeLaw" (74 : Nat) ({ cls := "LabourExchange", name := "answer", desc := "(IZ)I" } : Jvm.MethodName) ∈ TB := tb_c7 82 (by decide +kernel) (by decide +kernel)
theorem lk_1526 : Jvm.Cond.methodLink "LabourExchangeLaw" (197 : Nat) ({ cls := "LabourExchangeLaw", name := "sent", desc := "(LLabourExchange;I[J)I" } : Jvm.MethodName) ∈ TB := tb_c7 86 (by decide +kernel) (by decide +kernel)
theorem lk_1529 : Jvm.Cond.methodLink "LabourExchangeLaw" (78 : Nat) ({ cls := "LabourExchange", name := "sent", desc := "(I)I" } : Jvm.MethodName) ∈ TB := tb_c7 89 (by decide +kernel) (by decide +kernel)
theorem lk_1533 : Jvm.Cond.methodLink "LabourExchangeLaw" (212 : Nat) ({ cls := "LabourExchangeLaw", name := "appeal", desc := "(LLabourExchange;I[J)I" } : Jvm.MethodName) ∈ TB := tb_c7 93 (by decide +kernel) (by decide +kernel)
theorem lk_1536 : Jvm.Cond.methodLink "LabourExchangeLaw" (81 : Nat) ({ cls := "LabourExchange", name := "appeal", desc := "(I)I" } : Jvm.MethodName) ∈ TB := tb_c7 96 (by decide +kernel) (by decide +kernel)
theorem lk_1553 : Jvm.Cond.methodLink "LabourExchangeLaw" (215 : Nat) ({ cls := "LabourExchangeLaw", name := "close", desc := "(LLabourExchange;IZ[J)I" } : Jvm.MethodName) ∈ TB := tb_c7 113 (by decide +kernel) (by decide +kernel)
theorem lk_1556 : Jvm.Cond.methodLink "LabourExchangeLaw" (84 : Nat) ({ cls := "LabourExchange", name := "close", desc := "(IZ)Z" } : Jvm.MethodName) ∈ TB := tb_c7 116 (by decide +kernel) (by decide +kernel)
theorem lk_1560 : Jvm.Cond.methodLink "LabourExchangeLaw" (218 : Nat) ({ cls := "LabourExchangeLaw", name := "caseOf", desc := "(LLabourExchange;II[J)I" } : Jvm.MethodName) ∈ TB := tb_c7 120 (by decide +kernel) (by decide +kernel)
theorem lk_1563 : Jvm.Cond.methodLink "LabourExchangeLaw" (88 : Nat) ({ cls := "LabourExchange", name := "caseOf", desc := "(II)I" } : Jvm.MethodName) ∈ TB := tb_c7 123 (by decide +kernel) (by decide +kernel)
theorem lk_1571 : Jvm.Cond.methodLink "LabourExchangeLaw" (221 : Nat) ({ cls := "LabourExchangeLaw", name := "attempt", desc := "(LLabourExchange;III[J)I" } : Jvm.MethodName) ∈ TB := tb_c7 131 (by decide +kernel) (by decide +kernel)
theorem lk_1574 : Jvm.Cond.methodLink "LabourExchangeLaw" (91 : Nat) ({ cls := "LabourExchange", name := "attempt", desc := "(III)I" } : Jvm.MethodName) ∈ TB := tb_c7 134 (by decide +kernel) (by decide +kernel)
theorem lk_1587 : Jvm.Cond.methodLink "LabourExchangeLaw" (224 : Nat) ({ cls := "LabourExchangeLaw", name := "tried", desc := "(LLabourExchange;II[J)I" } : Jvm.MethodName) ∈ TB := tb_c7 147 (by decide +kernel) (by decide +kernel)
theorem lk_1590 : Jvm.Cond.methodLink "LabourExchangeLaw" (94 : Nat) ({ cls := "LabourExchange", name := "tried", desc := "(II)I" } : Jvm.MethodName) ∈ TB := tb_c7 150 (by decide +kernel) (by decide +kernel)
theorem lk_1594 : Jvm.Cond.methodLink "LabourExchangeLaw" (227 : Nat) ({ cls := "LabourExchangeLaw", name := "count", desc := "(LLabourExchange;I[J)I" } : Jvm.MethodName) ∈ TB := tb_c7 154 (by decide +kernel) (by decide +kernel)
theorem lk_1597 : Jvm.Cond.methodLink "LabourExchangeLaw" (97 : Nat) ({ cls := "LabourExchange", name := "count", desc := "(I)I" } : Jvm.MethodName) ∈ TB := tb_c7 157 (by decide +kernel) (by decide +kernel)
theorem lk_2085 : Jvm.Cond.methodLink "LabourExchangeLaw" (123 : Nat) ({ cls := "LabourExchangeModel", name := "thrown", desc := "()I" } : Jvm.MethodName) ∈ TB := tb_c9 165 (by decide +kernel) (by decide +kernel)
theorem lk_2089 : Jvm.Cond.methodLink "LabourExchangeLaw" (107 : Nat) ({ cls := "LabourExchangeModel", name := "office", desc := "(II)I" } : Jvm.MethodName) ∈ TB := tb_c9 169 (by decide +kernel) (by decide +kernel)
theorem lk_2093 : Jvm.Cond.methodLink "LabourExchangeLaw" (112 : Nat) ({ cls := "LabourExchangeModel", name := "person", desc := "(IIIII)I" } : Jvm.MethodName) ∈ TB := tb_c9 173 (by decide +kernel) (by decide +kernel)
theorem lk_2097 : Jvm.Cond.methodLink "LabourExchangeLaw" (116 : Nat) ({ cls := "LabourExchangeModel", name := "feed", desc := "(IIIII)I" } : Jvm.MethodName) ∈ TB := tb_c9 177 (by decide +kernel) (by decide +kernel)
theorem lk_2101 : Jvm.Cond.methodLink "LabourExchangeLaw" (122 : Nat) ({ cls := "LabourExchangeModel", name := "book", desc := "(III)Z" } : Jvm.MethodName) ∈ TB := tb_c9 181 (by decide +kernel) (by decide +kernel)
theorem lk_2114 : Jvm.Cond.methodLink "LabourExchangeLaw" (129 : Nat) ({ cls := "LabourExchangeModel", name := "returns", desc := "(III)Z" } : Jvm.MethodName) ∈ TB := tb_c9 194 (by decide +kernel) (by decide +kernel)
theorem lk_2118 : Jvm.Cond.methodLink "LabourExchangeLaw" (133 : Nat) ({ cls := "LabourExchangeModel", name := "stamps", desc := "(II)I" } : Jvm.MethodName) ∈ TB := tb_c9 198 (by decide +kernel) (by decide +kernel)
theorem lk_2134 : Jvm.Cond.methodLink "LabourExchangeLaw" (136 : Nat) ({ cls := "LabourExchangeModel", name := "text", desc := "(III)I" } : Jvm.MethodName) ∈ TB := tb_c9 214 (by decide +kernel) (by decide +kernel)
theorem lk_2241 : Jvm.Cond.methodLink "LabourExchangeLaw" (140 : Nat) ({ cls := "LabourExchangeModel", name := "fault", desc := "()I" } : Jvm.MethodName) ∈ TB := tb_c10 81 (by decide +kernel) (by decide +kernel)
theorem lk_2245 : Jvm.Cond.methodLink "LabourExchangeLaw" (144 : Nat) ({ cls := "LabourExchangeModel", name := "event", desc := "(IIII)I" } : Jvm.MethodName) ∈ TB := tb_c10 85 (by decide +kernel) (by decide +kernel)
theorem lk_2256 : Jvm.Cond.methodLink "LabourExchangeLaw" (148 : Nat) ({ cls := "LabourExchangeModel", name := "back", desc := "(I)Z" } : Jvm.MethodName) ∈ TB := tb_c10 96 (by decide +kernel) (by decide +kernel)
theorem lk_2260 : Jvm.Cond.methodLink "LabourExchangeLaw" (151 : Nat) ({ cls := "LabourExchangeModel", name := "told", desc := "(II)I" } : Jvm.MethodName) ∈ TB := tb_c10 100 (by decide +kernel) (by decide +kernel)
theorem lk_2384 : Jvm.Cond.methodLink "LabourExchangeLaw" (154 : Nat) ({ cls := "LabourExchangeModel", name := "days", desc := "(I)I" } : Jvm.MethodName) ∈ TB := tb_c10 224 (by decide +kernel) (by decide +kernel)
theorem lk_2396 : Jvm.Cond.methodLink "LabourExchangeLaw" (157 : Nat) ({ cls := "LabourExchangeModel", name := "look", desc := "(I)I" } : Jvm.MethodName) ∈ TB := tb_c10 236 (by decide +kernel) (by decide +kernel)
theorem lk_2400 : Jvm.Cond.methodLink "LabourExchangeLaw" (160 : Nat) ({ cls := "LabourExchangeModel", name := "day", desc := "(III)I" } : Jvm.MethodName) ∈ TB := tb_c11 0 (by decide +kernel) (by decide +kernel)
theorem lk_2407 : Jvm.Cond.methodLink "LabourExchangeLaw" (163 : Nat) ({ cls := "LabourExchangeModel", name := "claim", desc := "(III)I" } : Jvm.MethodName) ∈ TB := tb_c11 7 (by decide +kernel) (by decide +kernel)
theorem lk_2415 : Jvm.Cond.methodLink "LabourExchangeLaw" (166 : Nat) ({ cls := "LabourExchangeModel", name := "value", desc := "(II)J" } : Jvm.MethodName) ∈ TB := tb_c11 15 (by decide +kernel) (by decide +kernel)
theorem lk_2423 : Jvm.Cond.methodLink "LabourExchangeLaw" (169 : Nat) ({ cls := "LabourExchangeModel", name := "law", desc := "(II)I" } : Jvm.MethodName) ∈ TB := tb_c11 23 (by decide +kernel) (by decide +kernel)
theorem lk_2427 : Jvm.Cond.methodLink "LabourExchangeLaw" (172 : Nat) ({ cls := "LabourExchangeModel", name := "paid", desc := "(II)I" } : Jvm.MethodName) ∈ TB := tb_c11 27 (by decide +kernel) (by decide +kernel)
theorem lk_2431 : Jvm.Cond.methodLink "LabourExchangeLaw" (175 : Nat) ({ cls := "LabourExchangeModel", name := "fund", desc := "(I)I" } : Jvm.MethodName) ∈ TB := tb_c11 31 (by decide +kernel) (by decide +kernel)
theorem lk_2442 : Jvm.Cond.methodLink "LabourExchangeLaw" (179 : Nat) ({ cls := "LabourExchangeModel", name := "vacancy", desc := "(IIII)I" } : Jvm.MethodName) ∈ TB := tb_c11 42 (by decide +kernel) (by decide +kernel)
theorem lk_2446 : Jvm.Cond.methodLink "LabourExchangeLaw" (182 : Nat) ({ cls := "LabourExchangeModel", name := "known", desc := "(II)I" } : Jvm.MethodName) ∈ TB := tb_c11 46 (by decide +kernel) (by decide +kernel)
theorem lk_2458 : Jvm.Cond.methodLink "LabourExchangeLaw" (185 : Nat) ({ cls := "LabourExchangeModel", name := "offer", desc := "(II)I" } : Jvm.MethodName) ∈ TB := tb_c11 58 (by decide +kernel) (by decide +kernel)
theorem lk_2470 : Jvm.Cond.methodLink "LabourExchangeLaw" (188 : Nat) ({ cls := "LabourExchangeModel", name := "offerOf", desc := "(II)I" } : Jvm.MethodName) ∈ TB := tb_c11 70 (by decide +kernel) (by decide +kernel)
theorem lk_2474 : Jvm.Cond.methodLink "LabourExchangeLaw" (192 : Nat) ({ cls := "LabourExchangeModel", name := "answer", desc := "(IZ)I" } : Jvm.MethodName) ∈ TB := tb_c11 74 (by decide +kernel) (by decide +kernel)
theorem lk_2478 : Jvm.Cond.methodLink "LabourExchangeLaw" (196 : Nat) ({ cls := "LabourExchangeModel", name := "send", desc := "()I" } : Jvm.MethodName) ∈ TB := tb_c11 78 (by decide +kernel) (by decide +kernel)
theorem lk_2503 : Jvm.Cond.methodLink "LabourExchangeLaw" (199 : Nat) ({ cls := "LabourExchangeModel", name := "sent", desc := "(I)I" } : Jvm.MethodName) ∈ TB := tb_c11 103 (by decide +kernel) (by decide +kernel)
theorem lk_2507 : Jvm.Cond.methodLink "LabourExchangeLaw" (203 : Nat) ({ cls := "LabourExchangeModel", name := "price", desc := "(III)Z" } : Jvm.MethodName) ∈ TB := tb_c11 107 (by decide +kernel) (by decide +kernel)
theorem lk_2511 : Jvm.Cond.methodLink "LabourExchangeLaw" (207 : Nat) ({ cls := "LabourExchangeModel", name := "proves", desc := "()I" } : Jvm.MethodName) ∈ TB := tb_c11 111 (by decide +kernel) (by decide +kernel)
theorem lk_2515 : Jvm.Cond.methodLink "LabourExchangeLaw" (211 : Nat) ({ cls := "LabourExchangeModel", name := "judge", desc := "(II)I" } : Jvm.MethodName) ∈ TB := tb_c11 115 (by decide +kernel) (by decide +kernel)
theorem lk_2519 : Jvm.Cond.methodLink "LabourExchangeLaw" (214 : Nat) ({ cls := "LabourExchangeModel", name := "appeal", desc := "(I)I" } : Jvm.MethodName) ∈ TB := tb_c11 119 (by decide +kernel) (by decide +kernel)
theorem lk_2531 : Jvm.Cond.methodLink "LabourExchangeLaw" (217 : Nat) ({ cls := "LabourExchangeModel", name := "close", desc := "(IZ)Z" } : Jvm.MethodName) ∈ TB := tb_c11 131 (by decide +kernel) (by decide +kernel)
theorem lk_2535 : Jvm.Cond.methodLink "LabourExchangeLaw" (220 : Nat) ({ cls := "LabourExchangeModel", name := "caseOf", desc := "(II)I" } : Jvm.MethodName) ∈ TB := tb_c11 135 (by decide +kernel) (by decide +kernel)
theorem lk_2543 : Jvm.Cond.methodLink "LabourExchangeLaw" (223 : Nat) ({ cls := "LabourExchangeModel", name := "attempt", desc := "(III)I" } : Jvm.MethodName) ∈ TB := tb_c11 143 (by decide +kernel) (by decide +kernel)
theorem lk_2551 : Jvm.Cond.methodLink "LabourExchangeLaw" (226 : Nat) ({ cls := "LabourExchangeModel", name := "tried", desc := "(II)I" } : Jvm.MethodName) ∈ TB := tb_c11 151 (by decide +kernel) (by decide +kernel)
theorem lk_2555 : Jvm.Cond.methodLink "LabourExchangeLaw" (229 : Nat) ({ cls := "LabourExchangeModel", name := "count", desc := "(I)I" } : Jvm.MethodName) ∈ TB := tb_c11 155 (by decide +kernel) (by decide +kernel)
