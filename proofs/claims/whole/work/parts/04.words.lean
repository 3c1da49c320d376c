/-! the methods by their numbers; words of the tables -/
def qmt : Nat → MethodName × ByteArray × Nat × Option FieldType × Nat × Nat
  | 0 => (yX0_init, cX0_init, 1, none, 1, 22)
  | 1 => (yX0_describe, cX0_describe, 4, none, 1, 22)
  | 2 => (yX0_prepare, cX0_prepare, 5, (some .int), 1, 22)
  | 3 => (yX0_turnTo, cX0_turnTo, 5, none, 1, 22)
  | 4 => (yX0_weightOf, cX0_weightOf, 4, (some .int), 2, 46)
  | 5 => (yX1_init, cX1_init, 1, none, 1, 12)
  | 6 => (yX1_learn, cX1_learn, 3, none, 3, 73)
  | 7 => (yX1_learnPart, cX1_learnPart, 6, none, 2, 48)
  | 8 => (yX1_locksOf, cX1_locksOf, 3, (some .int), 1, 21)
  | 9 => (yX1_holdAround, cX1_holdAround, 7, none, 1, 22)
  | 10 => (yX1_findLedBack, cX1_findLedBack, 3, none, 1, 22)
  | 11 => (yX2_init, cX2_init, 1, none, 1, 12)
  | 12 => (yX2_brings, cX2_brings, 6, (some .long), 4, 106)
  | 13 => (yX2_findFigures, cX2_findFigures, 8, none, 3, 79)
  | 14 => (yX2_addUp, cX2_addUp, 15, none, 3, 70)
  | 15 => (yX2_isGoneInto, cX2_isGoneInto, 4, (some .boolean), 1, 21)
  | 16 => (yX2_joined, cX2_joined, 5, (some .long), 2, 46)
  | 17 => (yX2_timeOf, cX2_timeOf, 5, (some .long), 2, 46)
  | 18 => (yX2_roomOf, cX2_roomOf, 5, (some .long), 2, 46)
  | 19 => (yX2_goesTo, cX2_goesTo, 6, (some .long), 5, 131)
  | 20 => (yX2_countComings, cX2_countComings, 9, none, 3, 67)
  | 21 => (yX2_comingsWithin, cX2_comingsWithin, 4, (some .long), 2, 44)
  | 22 => (yX3_init, cX3_init, 3, none, 1, 12)
  | 23 => (yX3_addOrdinary, cX3_addOrdinary, 5, none, 2, 47)
  | 24 => (yX3_needOf, cX3_needOf, 7, (some .long), 3, 79)
  | 25 => (yX3_fewest, cX3_fewest, 8, (some .int), 6, 157)
  | 26 => (yX3_bitOf, cX3_bitOf, 2, (some .int), 0, 0)
  | 27 => (yX3_findNeeds, cX3_findNeeds, 6, (some .int), 4, 105)
  | 28 => (yX3_findRisky, cX3_findRisky, 6, none, 5, 131)
  | 29 => (yX3_keepsBelow, cX3_keepsBelow, 7, (some .boolean), 5, 131)
  | 30 => (yX3_capChosen, cX3_capChosen, 5, none, 1, 22)
  | 31 => (yX4_init, cX4_init, 3, none, 2, 33)
  | 32 => (yX4_read, cX4_read, 4, (some .int), 9, 200)
  | 33 => (yX4_isWhole, cX4_isWhole, 1, (some .boolean), 1, 20)
  | 34 => (yX4_beginDef, cX4_beginDef, 1, (some .boolean), 8, 171)
  | 35 => (yX4_openBlock, cX4_openBlock, 3, (some .boolean), 7, 149)
  | 36 => (yX4_closeBlock, cX4_closeBlock, 3, (some .boolean), 8, 171)
  | 37 => (yX4_beginStep, cX4_beginStep, 5, (some .boolean), 8, 176)
  | 38 => (yX4_kindHere, cX4_kindHere, 1, (some .int), 6, 128)
  | 39 => (yX4_readNumber, cX4_readNumber, 4, (some .boolean), 2, 44)
  | 40 => (yX4_readCalled, cX4_readCalled, 3, (some .boolean), 2, 45)
  | 41 => (yX4_readTest, cX4_readTest, 3, (some .boolean), 7, 149)
  | 42 => (yX4_readAmount, cX4_readAmount, 5, (some .boolean), 7, 152)
  | 43 => (yX4_readFactor, cX4_readFactor, 5, (some .boolean), 6, 128)
  | 44 => (yX5_init, cX5_init, 1, none, 1, 12)
  | 45 => (yX5_clear, cX5_clear, 1, none, 1, 22)
  | 46 => (yX5_addStep, cX5_addStep, 5, (some .int), 1, 22)
  | 47 => (yX5_setValue, cX5_setValue, 3, none, 1, 22)
  | 48 => (yX5_setIfName, cX5_setIfName, 3, none, 1, 22)
  | 49 => (yX5_addFactor, cX5_addFactor, 4, none, 1, 22)
  | 50 => (yX5_closeAmount, cX5_closeAmount, 2, none, 1, 22)
  | 51 => (yX5_closeDef, cX5_closeDef, 1, none, 1, 22)
  | 52 => (yX5_closeLastPart, cX5_closeLastPart, 1, none, 1, 22)
  | 53 => (yX5_holds, cX5_holds, 3, (some .boolean), 1, 21)
  | 54 => (yX5_amountOf, cX5_amountOf, 14, (some .long), 2, 46)
  | 55 => (yX6_init, cX6_init, 1, none, 1, 12)
  | 56 => (yX6_hasSpaceFor, cX6_hasSpaceFor, 2, (some .boolean), 0, 0)
  | 57 => (yX6_append, cX6_append, 3, none, 1, 22)
  | 58 => (yX7_init, cX7_init, 2, none, 1, 12)
  | 59 => (yX7_start, cX7_start, 1, none, 2, 43)
  | 60 => (yX7_advance, cX7_advance, 3, none, 1, 21)
  | 61 => (yX7_sortOf, cX7_sortOf, 1, (some .int), 0, 0)
  | 62 => (yX7_atEnd, cX7_atEnd, 1, (some .boolean), 0, 0)
  | 63 => (yX7_is, cX7_is, 3, (some .boolean), 5, 106)
  | 64 => (yX7_take, cX7_take, 2, (some .boolean), 6, 128)
  | 65 => (yX7_letterHere, cX7_letterHere, 5, (some .int), 1, 21)
  | 66 => (yX7_numberHere, cX7_numberHere, 4, (some .int), 1, 21)
  | 67 => (yX8_init, cX8_init, 1, none, 3, 55)
  | 68 => (yX8_name, cX8_name, 4, (some .int), 2, 45)
  | 69 => (yX8_feed, cX8_feed, 6, (some .int), 2, 44)
  | 70 => (yX8_end, cX8_end, 2, (some .int), 1, 21)
  | 71 => (yX8_program, cX8_program, 2, (some .int), 10, 223)
  | 72 => (yX8_fault, cX8_fault, 1, (some .int), 0, 0)
  | 73 => (yX8_cap, cX8_cap, 4, (some .int), 1, 22)
  | 74 => (yX8_capped, cX8_capped, 2, (some .int), 1, 21)
  | 75 => (yX8_spends, cX8_spends, 6, (some .long), 5, 131)
  | 76 => (yX8_worst, cX8_worst, 11, (some .long), 5, 131)
  | 77 => (yX8_cheapest, cX8_cheapest, 8, (some .int), 5, 131)
  | 78 => (yX8_ask, cX8_ask, 2, (some .int), 1, 21)
  | 79 => (yX8_where, cX8_where, 2, (some .long), 6, 156)
  | 80 => (yX8_ordinary, cX8_ordinary, 5, (some .int), 3, 71)
  | 81 => (yX8_need, cX8_need, 2, (some .long), 4, 105)
  | 82 => (yX8_budgets, cX8_budgets, 4, (some .int), 7, 184)
  | 83 => (yX8_ahead, cX8_ahead, 3, (some .int), 1, 21)
  | 84 => (yX8_tangled, cX8_tangled, 1, (some .int), 0, 0)
  | 85 => (yX8_count, cX8_count, 2, (some .int), 2, 43)
  | 86 => (yX8_status, cX8_status, 1, (some .int), 0, 0)
  | 87 => (yX8_refuse, cX8_refuse, 2, (some .int), 0, 0)
  | 88 => (yX8_accept, cX8_accept, 2, (some .int), 0, 0)
  | 89 => (yX8_isPlace, cX8_isPlace, 2, (some .boolean), 0, 0)
  | 90 => (yX8_isSort, cX8_isSort, 1, (some .boolean), 0, 0)
  | 91 => (yX8_areNumbers, cX8_areNumbers, 4, (some .boolean), 1, 21)
  | 92 => (yX8_keepAsLatest, cX8_keepAsLatest, 1, none, 2, 45)
  | 93 => (yX8_capCount, cX8_capCount, 3, (some .int), 1, 21)
  | 94 => (yX8_within, cX8_within, 2, (some .boolean), 0, 0)
  | 95 => (yX8_at, cX8_at, 2, (some .int), 0, 0)
  | 96 => (yX8_at_, cX8_at_, 2, (some .long), 0, 0)
  | 97 => (yX8_put, cX8_put, 3, none, 0, 0)
  | 98 => (yX8_put_, cX8_put_, 4, none, 0, 0)
  | 99 => (yX8_fillWith, cX8_fillWith, 3, none, 0, 0)
  | 100 => (yX8_fillWithNothing, cX8_fillWithNothing, 2, none, 0, 0)
  | 101 => (yX8_putRow, cX8_putRow, 6, none, 1, 22)
  | 102 => (yX8_copyRow, cX8_copyRow, 4, none, 1, 22)
  | 103 => (yX8_sum, cX8_sum, 4, (some .long), 1, 23)
  | 104 => (yX8_product, cX8_product, 4, (some .long), 0, 0)
  | 105 => (yX8_powerOfTwo, cX8_powerOfTwo, 1, (some .long), 0, 0)
  | 106 => (yX9_init, cX9_init, 1, none, 1, 12)
  | 107 => (yX9_in, cX9_in, 6, (some .boolean), 0, 0)
  | 108 => (yX9_told, cX9_told, 2, (some .int), 0, 0)
  | 109 => (yX9_name, cX9_name, 4, (some .int), 1, 25)
  | 110 => (yX9_least, cX9_least, 2, (some .long), 0, 0)
  | 111 => (yX9_add, cX9_add, 4, (some .long), 1, 21)
  | 112 => (yX9_multiply, cX9_multiply, 4, (some .long), 1, 21)
  | 113 => (yX9_factor, cX9_factor, 6, (some .long), 2, 44)
  | 114 => (yX9_amount, cX9_amount, 7, (some .long), 3, 69)
  | 115 => (yX9_timeOf, cX9_timeOf, 6, (some .long), 2, 44)
  | 116 => (yX9_roomOf, cX9_roomOf, 6, (some .long), 0, 0)
  | 117 => (yX9_reckon, cX9_reckon, 11, none, 4, 95)
  | 118 => (yX9_spendsBy, cX9_spendsBy, 3, (some .long), 5, 125)
  | 119 => (yX9_spends, cX9_spends, 6, (some .long), 6, 147)
  | 120 => (yX9_set, cX9_set, 5, none, 0, 0)
  | 121 => (yX9_weigh, cX9_weigh, 3, (some .int), 0, 0)
  | 122 => (yX9_nextAsk, cX9_nextAsk, 2, (some .boolean), 0, 0)
  | 123 => (yX9_keepAsk, cX9_keepAsk, 2, none, 0, 0)
  | 124 => (yX9_worst, cX9_worst, 10, (some .long), 6, 147)
  | 125 => (yX9_cheapest, cX9_cheapest, 7, (some .int), 6, 147)
  | 126 => (yX9_ask, cX9_ask, 2, (some .int), 1, 25)
  | 127 => (yX9_visit, cX9_visit, 12, none, 2, 44)
  | 128 => (yX9_where, cX9_where, 3, (some .long), 6, 147)
  | 129 => (yX9_ordinary, cX9_ordinary, 5, (some .int), 1, 25)
  | 130 => (yX9_needOf, cX9_needOf, 7, (some .long), 4, 95)
  | 131 => (yX9_need, cX9_need, 2, (some .long), 5, 121)
  | 132 => (yX9_isBelow, cX9_isBelow, 5, (some .boolean), 6, 147)
  | 133 => (yX9_bits, cX9_bits, 3, (some .int), 0, 0)
  | 134 => (yX9_isFirst, cX9_isFirst, 3, (some .boolean), 0, 0)
  | 135 => (yX9_put, cX9_put, 5, (some .boolean), 0, 0)
  | 136 => (yX9_budgets, cX9_budgets, 6, (some .int), 7, 171)
  | 137 => (yX9_cap, cX9_cap, 4, (some .int), 1, 25)
  | 138 => (yX9_capped, cX9_capped, 2, (some .int), 1, 25)
  | 139 => (yX9_locksIn, cX9_locksIn, 5, (some .int), 0, 0)
  | 140 => (yX9_findLocks, cX9_findLocks, 2, none, 1, 24)
  | 141 => (yX9_ahead, cX9_ahead, 3, (some .int), 2, 45)
  | 142 => (yX9_tangled, cX9_tangled, 3, (some .int), 2, 45)
  | 143 => (yX9_four, cX9_four, 3, none, 0, 0)
  | 144 => (yX9_feed, cX9_feed, 6, (some .int), 1, 22)
  | 145 => (yX9_end, cX9_end, 2, (some .int), 0, 0)
  | 146 => (yX9_isSmall, cX9_isSmall, 1, (some .boolean), 0, 0)
  | 147 => (yX9_isDigit, cX9_isDigit, 1, (some .boolean), 0, 0)
  | 148 => (yX9_next, cX9_next, 1, none, 1, 20)
  | 149 => (yX9_isWord, cX9_isWord, 9, (some .boolean), 0, 0)
  | 150 => (yX9_isSign, cX9_isSign, 2, (some .boolean), 0, 0)
  | 151 => (yX9_must, cX9_must, 2, none, 2, 40)
  | 152 => (yX9_number, cX9_number, 4, (some .int), 3, 61)
  | 153 => (yX9_oneOf, cX9_oneOf, 3, (some .int), 0, 0)
  | 154 => (yX9_readFactor, cX9_readFactor, 6, none, 3, 61)
  | 155 => (yX9_readAmount, cX9_readAmount, 2, none, 4, 86)
  | 156 => (yX9_openBlock, cX9_openBlock, 2, none, 3, 61)
  | 157 => (yX9_kindAt, cX9_kindAt, 1, (some .int), 1, 28)
  | 158 => (yX9_readStep, cX9_readStep, 4, none, 5, 107)
  | 159 => (yX9_closeBlock, cX9_closeBlock, 3, none, 4, 82)
  | 160 => (yX9_readDef, cX9_readDef, 2, none, 4, 82)
  | 161 => (yX9_program, cX9_program, 2, (some .int), 6, 130)
  | 162 => (yX9_adopt, cX9_adopt, 2, none, 0, 0)
  | 163 => (yX9_fault, cX9_fault, 1, (some .int), 0, 0)
  | 164 => (yX9_count, cX9_count, 4, (some .int), 0, 0)
  | 165 => (yX9_status, cX9_status, 1, (some .int), 0, 0)
  | 166 => (yJ6_bitCount_0f7a4, cJ6_bitCount_0f7a4, 1, (some .int), 0, 0)
  | 167 => (yJ9_max_7cf53, cJ9_max_7cf53, 2, (some .int), 0, 0)
  | 168 => (yJ9_max_f86c9, cJ9_max_f86c9, 4, (some .long), 0, 0)
  | 169 => (yJ9_min_7cf53, cJ9_min_7cf53, 2, (some .int), 0, 0)
  | 170 => (yJ9_min_f86c9, cJ9_min_f86c9, 4, (some .long), 0, 0)
  | 171 => (yJ0_length_8abf5, cJ0_length_8abf5, 1, (some .int), 1, 20)
  | 172 => (yJ0_charAt_5068e, cJ0_charAt_5068e, 2, (some .char), 4, 85)
  | 173 => (yJ0_coder_7d493, cJ0_coder_7d493, 1, (some .byte), 0, 0)
  | 174 => (yJ0_isLatin1_aae02, cJ0_isLatin1_aae02, 1, (some .boolean), 0, 0)
  | 175 => (yJ0_checkIndex_df160, cJ0_checkIndex_df160, 2, none, 1, 22)
  | 176 => (yJ1_charAt_3b067, cJ1_charAt_3b067, 2, (some .char), 2, 43)
  | 177 => (yJ2_getChar_3b067, cJ2_getChar_3b067, 2, (some .char), 1, 20)
  | 178 => (yJ2_length_9d52b, cJ2_length_9d52b, 1, (some .int), 0, 0)
  | 179 => (yJ2_charAt_3b067, cJ2_charAt_3b067, 2, (some .char), 3, 64)
  | 180 => (yJ2_checkIndex_2214a, cJ2_checkIndex_2214a, 2, none, 2, 43)
  | 181 => (yJ3_checkIndex_8e157, cJ3_checkIndex_8e157, 3, (some .int), 0, 0)
  | _ => (yX0_init, cX0_init, 1, none, 0, 0)
def qTB : List Jvm.Cond := lw_tbl.filter goodWord
def qisn : Jvm.Cond → Bool
  | .methodLinkNest _ _ _ _ => true
  | _ => false
def qnest : List Jvm.Cond := lw_tbl.filter qisn
theorem qt1 : ∀ w ∈ tables_1_1, w ∈ lw_tbl := fun w h => List.mem_append_right _ (show w ∈ tables_1_1 ++ (tables_1_2 ++ (tables_1_3 ++ (tables_1_4 ++ (tables_1_5 ++ tables_1_6)))) from List.mem_append_left _ h)
theorem qw1 {w : Jvm.Cond} (i : Nat) (h : tables_1_1[i]? = some w) (g : goodWord w = true) : w ∈ qTB := List.mem_filter.mpr ⟨qt1 _ (List.mem_of_getElem? h), g⟩
theorem qn1 {w : Jvm.Cond} (i : Nat) (h : tables_1_1[i]? = some w) (g : qisn w = true) : w ∈ qnest := List.mem_filter.mpr ⟨qt1 _ (List.mem_of_getElem? h), g⟩
theorem qt2 : ∀ w ∈ tables_1_2, w ∈ lw_tbl := fun w h => List.mem_append_right _ (show w ∈ tables_1_1 ++ (tables_1_2 ++ (tables_1_3 ++ (tables_1_4 ++ (tables_1_5 ++ tables_1_6)))) from List.mem_append_right _ (List.mem_append_left _ h))
theorem qw2 {w : Jvm.Cond} (i : Nat) (h : tables_1_2[i]? = some w) (g : goodWord w = true) : w ∈ qTB := List.mem_filter.mpr ⟨qt2 _ (List.mem_of_getElem? h), g⟩
theorem qn2 {w : Jvm.Cond} (i : Nat) (h : tables_1_2[i]? = some w) (g : qisn w = true) : w ∈ qnest := List.mem_filter.mpr ⟨qt2 _ (List.mem_of_getElem? h), g⟩
theorem qt3 : ∀ w ∈ tables_1_3, w ∈ lw_tbl := fun w h => List.mem_append_right _ (show w ∈ tables_1_1 ++ (tables_1_2 ++ (tables_1_3 ++ (tables_1_4 ++ (tables_1_5 ++ tables_1_6)))) from List.mem_append_right _ (List.mem_append_right _ (List.mem_append_left _ h)))
theorem qw3 {w : Jvm.Cond} (i : Nat) (h : tables_1_3[i]? = some w) (g : goodWord w = true) : w ∈ qTB := List.mem_filter.mpr ⟨qt3 _ (List.mem_of_getElem? h), g⟩
theorem qn3 {w : Jvm.Cond} (i : Nat) (h : tables_1_3[i]? = some w) (g : qisn w = true) : w ∈ qnest := List.mem_filter.mpr ⟨qt3 _ (List.mem_of_getElem? h), g⟩
theorem qt4 : ∀ w ∈ tables_1_4, w ∈ lw_tbl := fun w h => List.mem_append_right _ (show w ∈ tables_1_1 ++ (tables_1_2 ++ (tables_1_3 ++ (tables_1_4 ++ (tables_1_5 ++ tables_1_6)))) from List.mem_append_right _ (List.mem_append_right _ (List.mem_append_right _ (List.mem_append_left _ h))))
theorem qw4 {w : Jvm.Cond} (i : Nat) (h : tables_1_4[i]? = some w) (g : goodWord w = true) : w ∈ qTB := List.mem_filter.mpr ⟨qt4 _ (List.mem_of_getElem? h), g⟩
theorem qn4 {w : Jvm.Cond} (i : Nat) (h : tables_1_4[i]? = some w) (g : qisn w = true) : w ∈ qnest := List.mem_filter.mpr ⟨qt4 _ (List.mem_of_getElem? h), g⟩
theorem qt5 : ∀ w ∈ tables_1_5, w ∈ lw_tbl := fun w h => List.mem_append_right _ (show w ∈ tables_1_1 ++ (tables_1_2 ++ (tables_1_3 ++ (tables_1_4 ++ (tables_1_5 ++ tables_1_6)))) from List.mem_append_right _ (List.mem_append_right _ (List.mem_append_right _ (List.mem_append_right _ (List.mem_append_left _ h)))))
theorem qw5 {w : Jvm.Cond} (i : Nat) (h : tables_1_5[i]? = some w) (g : goodWord w = true) : w ∈ qTB := List.mem_filter.mpr ⟨qt5 _ (List.mem_of_getElem? h), g⟩
theorem qn5 {w : Jvm.Cond} (i : Nat) (h : tables_1_5[i]? = some w) (g : qisn w = true) : w ∈ qnest := List.mem_filter.mpr ⟨qt5 _ (List.mem_of_getElem? h), g⟩
theorem qt6 : ∀ w ∈ tables_1_6, w ∈ lw_tbl := fun w h => List.mem_append_right _ (show w ∈ tables_1_1 ++ (tables_1_2 ++ (tables_1_3 ++ (tables_1_4 ++ (tables_1_5 ++ tables_1_6)))) from List.mem_append_right _ (List.mem_append_right _ (List.mem_append_right _ (List.mem_append_right _ (List.mem_append_right _ (h))))))
theorem qw6 {w : Jvm.Cond} (i : Nat) (h : tables_1_6[i]? = some w) (g : goodWord w = true) : w ∈ qTB := List.mem_filter.mpr ⟨qt6 _ (List.mem_of_getElem? h), g⟩
theorem qn6 {w : Jvm.Cond} (i : Nat) (h : tables_1_6[i]? = some w) (g : qisn w = true) : w ∈ qnest := List.mem_filter.mpr ⟨qt6 _ (List.mem_of_getElem? h), g⟩
theorem qwv {w : Jvm.Cond} (i : Nat) (h : (k2_sels lw_privs)[i]? = some w) (g : goodWord w = true) : w ∈ qTB := List.mem_filter.mpr ⟨List.mem_append_left _ (List.mem_of_getElem? h), g⟩
theorem lkY_X0_0 : (Jvm.Cond.laysFinal "UsedUp$Asks" "UsedUp$Asks" "sizes" "[I") ∈ qTB := qw1 233 rfl rfl
theorem lkY_X0_1 : (Jvm.Cond.laysFinal "UsedUp$Asks" "UsedUp$Asks" "weights" "[I") ∈ qTB := qw1 235 rfl rfl
theorem lkY_X0_2 : (Jvm.Cond.laysFinal "UsedUp$Asks" "UsedUp$Asks" "reach" "[I") ∈ qTB := qw1 237 rfl rfl
theorem lkY_X0_3 : (Jvm.Cond.laysFinal "UsedUp$Asks" "UsedUp$Asks" "numbers" "[I") ∈ qTB := qw1 239 rfl rfl
theorem qlayX0 : ∀ w ∈ u_ws RX0 TX0 4, w ∈ qTB := by
  intro w hw
  obtain ⟨k, hk, rfl⟩ := List.mem_map.mp hw
  have hk := List.mem_range.mp hk
  match k, hk with
  | 0, _ => exact lkY_X0_0
  | 1, _ => exact lkY_X0_1
  | 2, _ => exact lkY_X0_2
  | 3, _ => exact lkY_X0_3
  | k + 4, hk => exact absurd hk (by omega)
theorem lkY_X1_0 : (Jvm.Cond.laysFinal "UsedUp$Locks" "UsedUp$Locks" "heldAhead" "[I") ∈ qTB := qw1 209 rfl rfl
theorem lkY_X1_1 : (Jvm.Cond.lays "UsedUp$Locks" "UsedUp$Locks" "ledBack" "I") ∈ qTB := qw1 211 rfl rfl
theorem lkY_X1_2 : (Jvm.Cond.laysFinal "UsedUp$Locks" "UsedUp$Locks" "partLocks" "[I") ∈ qTB := qw1 213 rfl rfl
theorem lkY_X1_3 : (Jvm.Cond.laysFinal "UsedUp$Locks" "UsedUp$Locks" "leadsTo" "[I") ∈ qTB := qw1 215 rfl rfl
theorem qlayX1 : ∀ w ∈ u_ws RX1 TX1 4, w ∈ qTB := by
  intro w hw
  obtain ⟨k, hk, rfl⟩ := List.mem_map.mp hw
  have hk := List.mem_range.mp hk
  match k, hk with
  | 0, _ => exact lkY_X1_0
  | 1, _ => exact lkY_X1_1
  | 2, _ => exact lkY_X1_2
  | 3, _ => exact lkY_X1_3
  | k + 4, hk => exact absurd hk (by omega)
theorem lkY_X2_0 : (Jvm.Cond.laysFinal "UsedUp$Meter" "UsedUp$Meter" "figures" "[J") ∈ qTB := qw1 183 rfl rfl
theorem lkY_X2_1 : (Jvm.Cond.laysFinal "UsedUp$Meter" "UsedUp$Meter" "inside" "[J") ∈ qTB := qw1 185 rfl rfl
theorem lkY_X2_2 : (Jvm.Cond.laysFinal "UsedUp$Meter" "UsedUp$Meter" "whole" "[J") ∈ qTB := qw1 187 rfl rfl
theorem lkY_X2_3 : (Jvm.Cond.laysFinal "UsedUp$Meter" "UsedUp$Meter" "partBrings" "[J") ∈ qTB := qw1 189 rfl rfl
theorem lkY_X2_4 : (Jvm.Cond.laysFinal "UsedUp$Meter" "UsedUp$Meter" "comings" "[J") ∈ qTB := qw1 191 rfl rfl
theorem lkY_X2_5 : (Jvm.Cond.laysFinal "UsedUp$Meter" "UsedUp$Meter" "partComings" "[J") ∈ qTB := qw1 193 rfl rfl
theorem qlayX2 : ∀ w ∈ u_ws RX2 TX2 6, w ∈ qTB := by
  intro w hw
  obtain ⟨k, hk, rfl⟩ := List.mem_map.mp hw
  have hk := List.mem_range.mp hk
  match k, hk with
  | 0, _ => exact lkY_X2_0
  | 1, _ => exact lkY_X2_1
  | 2, _ => exact lkY_X2_2
  | 3, _ => exact lkY_X2_3
  | 4, _ => exact lkY_X2_4
  | 5, _ => exact lkY_X2_5
  | k + 6, hk => exact absurd hk (by omega)
theorem lkY_X3_0 : (Jvm.Cond.laysFinal "UsedUp$Planner" "UsedUp$Planner" "meter" "LUsedUp$Meter;") ∈ qTB := qw2 18 rfl rfl
theorem lkY_X3_1 : (Jvm.Cond.laysFinal "UsedUp$Planner" "UsedUp$Planner" "asks" "LUsedUp$Asks;") ∈ qTB := qw2 20 rfl rfl
theorem lkY_X3_2 : (Jvm.Cond.laysFinal "UsedUp$Planner" "UsedUp$Planner" "ordinaries" "[I") ∈ qTB := qw2 22 rfl rfl
theorem lkY_X3_3 : (Jvm.Cond.lays "UsedUp$Planner" "UsedUp$Planner" "ordinaryCount" "I") ∈ qTB := qw2 24 rfl rfl
theorem lkY_X3_4 : (Jvm.Cond.laysFinal "UsedUp$Planner" "UsedUp$Planner" "ordinaryAsk" "[I") ∈ qTB := qw2 26 rfl rfl
theorem lkY_X3_5 : (Jvm.Cond.laysFinal "UsedUp$Planner" "UsedUp$Planner" "needs" "[J") ∈ qTB := qw2 28 rfl rfl
theorem lkY_X3_6 : (Jvm.Cond.laysFinal "UsedUp$Planner" "UsedUp$Planner" "trialCaps" "[I") ∈ qTB := qw2 30 rfl rfl
theorem lkY_X3_7 : (Jvm.Cond.laysFinal "UsedUp$Planner" "UsedUp$Planner" "risky" "[I") ∈ qTB := qw2 32 rfl rfl
theorem lkY_X3_8 : (Jvm.Cond.lays "UsedUp$Planner" "UsedUp$Planner" "riskyCount" "I") ∈ qTB := qw2 34 rfl rfl
theorem qlayX3 : ∀ w ∈ u_ws RX3 TX3 9, w ∈ qTB := by
  intro w hw
  obtain ⟨k, hk, rfl⟩ := List.mem_map.mp hw
  have hk := List.mem_range.mp hk
  match k, hk with
  | 0, _ => exact lkY_X3_0
  | 1, _ => exact lkY_X3_1
  | 2, _ => exact lkY_X3_2
  | 3, _ => exact lkY_X3_3
  | 4, _ => exact lkY_X3_4
  | 5, _ => exact lkY_X3_5
  | 6, _ => exact lkY_X3_6
  | 7, _ => exact lkY_X3_7
  | 8, _ => exact lkY_X3_8
  | k + 9, hk => exact absurd hk (by omega)
theorem lkY_X4_0 : (Jvm.Cond.laysFinal "UsedUp$Reader" "UsedUp$Reader" "tokens" "LUsedUp$Tokens;") ∈ qTB := qw1 154 rfl rfl
theorem lkY_X4_1 : (Jvm.Cond.lays "UsedUp$Reader" "UsedUp$Reader" "into" "LUsedUp$Script;") ∈ qTB := qw1 156 rfl rfl
theorem lkY_X4_2 : (Jvm.Cond.laysFinal "UsedUp$Reader" "UsedUp$Reader" "openSteps" "[I") ∈ qTB := qw1 158 rfl rfl
theorem lkY_X4_3 : (Jvm.Cond.laysFinal "UsedUp$Reader" "UsedUp$Reader" "openBlocks" "[I") ∈ qTB := qw1 160 rfl rfl
theorem lkY_X4_4 : (Jvm.Cond.lays "UsedUp$Reader" "UsedUp$Reader" "open" "I") ∈ qTB := qw1 162 rfl rfl
theorem lkY_X4_5 : (Jvm.Cond.lays "UsedUp$Reader" "UsedUp$Reader" "bare" "Z") ∈ qTB := qw1 164 rfl rfl
theorem lkY_X4_6 : (Jvm.Cond.laysFinal "UsedUp$Reader" "UsedUp$Reader" "defParts" "[I") ∈ qTB := qw1 166 rfl rfl
theorem lkY_X4_7 : (Jvm.Cond.lays "UsedUp$Reader" "UsedUp$Reader" "letter" "I") ∈ qTB := qw1 168 rfl rfl
theorem qlayX4 : ∀ w ∈ u_ws RX4 TX4 8, w ∈ qTB := by
  intro w hw
  obtain ⟨k, hk, rfl⟩ := List.mem_map.mp hw
  have hk := List.mem_range.mp hk
  match k, hk with
  | 0, _ => exact lkY_X4_0
  | 1, _ => exact lkY_X4_1
  | 2, _ => exact lkY_X4_2
  | 3, _ => exact lkY_X4_3
  | 4, _ => exact lkY_X4_4
  | 5, _ => exact lkY_X4_5
  | 6, _ => exact lkY_X4_6
  | 7, _ => exact lkY_X4_7
  | k + 8, hk => exact absurd hk (by omega)
theorem lkY_X5_0 : (Jvm.Cond.lays "UsedUp$Script" "UsedUp$Script" "steps" "I") ∈ qTB := qw1 71 rfl rfl
theorem lkY_X5_1 : (Jvm.Cond.lays "UsedUp$Script" "UsedUp$Script" "places" "I") ∈ qTB := qw1 73 rfl rfl
theorem lkY_X5_2 : (Jvm.Cond.lays "UsedUp$Script" "UsedUp$Script" "defs" "I") ∈ qTB := qw1 75 rfl rfl
theorem lkY_X5_3 : (Jvm.Cond.lays "UsedUp$Script" "UsedUp$Script" "factors" "I") ∈ qTB := qw1 77 rfl rfl
theorem lkY_X5_4 : (Jvm.Cond.laysFinal "UsedUp$Script" "UsedUp$Script" "partStarts" "[I") ∈ qTB := qw1 79 rfl rfl
theorem lkY_X5_5 : (Jvm.Cond.laysFinal "UsedUp$Script" "UsedUp$Script" "placeSteps" "[I") ∈ qTB := qw1 81 rfl rfl
theorem lkY_X5_6 : (Jvm.Cond.laysFinal "UsedUp$Script" "UsedUp$Script" "kinds" "[I") ∈ qTB := qw1 83 rfl rfl
theorem lkY_X5_7 : (Jvm.Cond.laysFinal "UsedUp$Script" "UsedUp$Script" "parents" "[I") ∈ qTB := qw1 85 rfl rfl
theorem lkY_X5_8 : (Jvm.Cond.laysFinal "UsedUp$Script" "UsedUp$Script" "blocks" "[I") ∈ qTB := qw1 87 rfl rfl
theorem lkY_X5_9 : (Jvm.Cond.laysFinal "UsedUp$Script" "UsedUp$Script" "values" "[I") ∈ qTB := qw1 89 rfl rfl
theorem lkY_X5_10 : (Jvm.Cond.laysFinal "UsedUp$Script" "UsedUp$Script" "ifNames" "[I") ∈ qTB := qw1 91 rfl rfl
theorem lkY_X5_11 : (Jvm.Cond.laysFinal "UsedUp$Script" "UsedUp$Script" "amountStarts" "[I") ∈ qTB := qw1 93 rfl rfl
theorem lkY_X5_12 : (Jvm.Cond.laysFinal "UsedUp$Script" "UsedUp$Script" "amountEnds" "[I") ∈ qTB := qw1 95 rfl rfl
theorem lkY_X5_13 : (Jvm.Cond.laysFinal "UsedUp$Script" "UsedUp$Script" "factorKinds" "[I") ∈ qTB := qw1 97 rfl rfl
theorem lkY_X5_14 : (Jvm.Cond.laysFinal "UsedUp$Script" "UsedUp$Script" "factorValues" "[I") ∈ qTB := qw1 99 rfl rfl
theorem lkY_X5_15 : (Jvm.Cond.laysFinal "UsedUp$Script" "UsedUp$Script" "factorOpens" "[I") ∈ qTB := qw1 101 rfl rfl
theorem lkY_X5_16 : (Jvm.Cond.lays "UsedUp$Script" "UsedUp$Script" "usedNames" "I") ∈ qTB := qw1 103 rfl rfl
theorem qlayX5 : ∀ w ∈ u_ws RX5 TX5 17, w ∈ qTB := by
  intro w hw
  obtain ⟨k, hk, rfl⟩ := List.mem_map.mp hw
  have hk := List.mem_range.mp hk
  match k, hk with
  | 0, _ => exact lkY_X5_0
  | 1, _ => exact lkY_X5_1
  | 2, _ => exact lkY_X5_2
  | 3, _ => exact lkY_X5_3
  | 4, _ => exact lkY_X5_4
  | 5, _ => exact lkY_X5_5
  | 6, _ => exact lkY_X5_6
  | 7, _ => exact lkY_X5_7
  | 8, _ => exact lkY_X5_8
  | 9, _ => exact lkY_X5_9
  | 10, _ => exact lkY_X5_10
  | 11, _ => exact lkY_X5_11
  | 12, _ => exact lkY_X5_12
  | 13, _ => exact lkY_X5_13
  | 14, _ => exact lkY_X5_14
  | 15, _ => exact lkY_X5_15
  | 16, _ => exact lkY_X5_16
  | k + 17, hk => exact absurd hk (by omega)
theorem lkY_X6_0 : (Jvm.Cond.laysFinal "UsedUp$Tape" "UsedUp$Tape" "bytes" "[I") ∈ qTB := qw1 118 rfl rfl
theorem lkY_X6_1 : (Jvm.Cond.lays "UsedUp$Tape" "UsedUp$Tape" "length" "I") ∈ qTB := qw1 120 rfl rfl
theorem qlayX6 : ∀ w ∈ u_ws RX6 TX6 2, w ∈ qTB := by
  intro w hw
  obtain ⟨k, hk, rfl⟩ := List.mem_map.mp hw
  have hk := List.mem_range.mp hk
  match k, hk with
  | 0, _ => exact lkY_X6_0
  | 1, _ => exact lkY_X6_1
  | k + 2, hk => exact absurd hk (by omega)
theorem lkY_X7_0 : (Jvm.Cond.laysFinal "UsedUp$Tokens" "UsedUp$Tokens" "tape" "LUsedUp$Tape;") ∈ qTB := qw1 139 rfl rfl
theorem lkY_X7_1 : (Jvm.Cond.lays "UsedUp$Tokens" "UsedUp$Tokens" "from" "I") ∈ qTB := qw1 141 rfl rfl
theorem lkY_X7_2 : (Jvm.Cond.lays "UsedUp$Tokens" "UsedUp$Tokens" "to" "I") ∈ qTB := qw1 143 rfl rfl
theorem qlayX7 : ∀ w ∈ u_ws RX7 TX7 3, w ∈ qTB := by
  intro w hw
  obtain ⟨k, hk, rfl⟩ := List.mem_map.mp hw
  have hk := List.mem_range.mp hk
  match k, hk with
  | 0, _ => exact lkY_X7_0
  | 1, _ => exact lkY_X7_1
  | 2, _ => exact lkY_X7_2
  | k + 3, hk => exact absurd hk (by omega)
theorem lkY_X8_0 : (Jvm.Cond.lays "UsedUp" "UsedUp" "script" "LUsedUp$Script;") ∈ qTB := qw2 53 rfl rfl
theorem lkY_X8_1 : (Jvm.Cond.lays "UsedUp" "UsedUp" "spare" "LUsedUp$Script;") ∈ qTB := qw2 55 rfl rfl
theorem lkY_X8_2 : (Jvm.Cond.laysFinal "UsedUp" "UsedUp" "tape" "LUsedUp$Tape;") ∈ qTB := qw2 57 rfl rfl
theorem lkY_X8_3 : (Jvm.Cond.laysFinal "UsedUp" "UsedUp" "reader" "LUsedUp$Reader;") ∈ qTB := qw2 59 rfl rfl
theorem lkY_X8_4 : (Jvm.Cond.laysFinal "UsedUp" "UsedUp" "meter" "LUsedUp$Meter;") ∈ qTB := qw2 61 rfl rfl
theorem lkY_X8_5 : (Jvm.Cond.laysFinal "UsedUp" "UsedUp" "locks" "LUsedUp$Locks;") ∈ qTB := qw2 63 rfl rfl
theorem lkY_X8_6 : (Jvm.Cond.laysFinal "UsedUp" "UsedUp" "asks" "LUsedUp$Asks;") ∈ qTB := qw2 65 rfl rfl
theorem lkY_X8_7 : (Jvm.Cond.laysFinal "UsedUp" "UsedUp" "planner" "LUsedUp$Planner;") ∈ qTB := qw2 67 rfl rfl
theorem lkY_X8_8 : (Jvm.Cond.lays "UsedUp" "UsedUp" "hasProgram" "Z") ∈ qTB := qw2 69 rfl rfl
theorem lkY_X8_9 : (Jvm.Cond.laysFinal "UsedUp" "UsedUp" "caps" "[I") ∈ qTB := qw2 71 rfl rfl
theorem lkY_X8_10 : (Jvm.Cond.laysFinal "UsedUp" "UsedUp" "latest" "[I") ∈ qTB := qw2 73 rfl rfl
theorem lkY_X8_11 : (Jvm.Cond.lays "UsedUp" "UsedUp" "hasLatest" "Z") ∈ qTB := qw2 75 rfl rfl
theorem lkY_X8_12 : (Jvm.Cond.laysFinal "UsedUp" "UsedUp" "given" "[I") ∈ qTB := qw2 77 rfl rfl
theorem lkY_X8_13 : (Jvm.Cond.lays "UsedUp" "UsedUp" "faultPlace" "I") ∈ qTB := qw2 79 rfl rfl
theorem lkY_X8_14 : (Jvm.Cond.lays "UsedUp" "UsedUp" "refusal" "I") ∈ qTB := qw2 81 rfl rfl
theorem qlayX8 : ∀ w ∈ u_ws RX8 TX8 15, w ∈ qTB := by
  intro w hw
  obtain ⟨k, hk, rfl⟩ := List.mem_map.mp hw
  have hk := List.mem_range.mp hk
  match k, hk with
  | 0, _ => exact lkY_X8_0
  | 1, _ => exact lkY_X8_1
  | 2, _ => exact lkY_X8_2
  | 3, _ => exact lkY_X8_3
  | 4, _ => exact lkY_X8_4
  | 5, _ => exact lkY_X8_5
  | 6, _ => exact lkY_X8_6
  | 7, _ => exact lkY_X8_7
  | 8, _ => exact lkY_X8_8
  | 9, _ => exact lkY_X8_9
  | 10, _ => exact lkY_X8_10
  | 11, _ => exact lkY_X8_11
  | 12, _ => exact lkY_X8_12
  | 13, _ => exact lkY_X8_13
  | 14, _ => exact lkY_X8_14
  | k + 15, hk => exact absurd hk (by omega)
theorem lkY_X9_0 : (Jvm.Cond.lays "UsedUpModel" "UsedUpModel" "thrown" "I") ∈ qTB := qw4 166 rfl rfl
theorem lkY_X9_1 : (Jvm.Cond.lays "UsedUpModel" "UsedUpModel" "status" "I") ∈ qTB := qw4 168 rfl rfl
theorem lkY_X9_2 : (Jvm.Cond.laysFinal "UsedUpModel" "UsedUpModel" "sizes" "[I") ∈ qTB := qw4 170 rfl rfl
theorem lkY_X9_3 : (Jvm.Cond.laysFinal "UsedUpModel" "UsedUpModel" "weights" "[I") ∈ qTB := qw4 172 rfl rfl
theorem lkY_X9_4 : (Jvm.Cond.lays "UsedUpModel" "UsedUpModel" "hasProgram" "Z") ∈ qTB := qw4 174 rfl rfl
theorem lkY_X9_5 : (Jvm.Cond.lays "UsedUpModel" "UsedUpModel" "steps" "I") ∈ qTB := qw4 176 rfl rfl
theorem lkY_X9_6 : (Jvm.Cond.laysFinal "UsedUpModel" "UsedUpModel" "sKind" "[I") ∈ qTB := qw4 178 rfl rfl
theorem lkY_X9_7 : (Jvm.Cond.laysFinal "UsedUpModel" "UsedUpModel" "sEnd" "[I") ∈ qTB := qw4 180 rfl rfl
theorem lkY_X9_8 : (Jvm.Cond.laysFinal "UsedUpModel" "UsedUpModel" "sElse" "[I") ∈ qTB := qw4 182 rfl rfl
theorem lkY_X9_9 : (Jvm.Cond.laysFinal "UsedUpModel" "UsedUpModel" "sA" "[I") ∈ qTB := qw4 184 rfl rfl
theorem lkY_X9_10 : (Jvm.Cond.laysFinal "UsedUpModel" "UsedUpModel" "sB" "[I") ∈ qTB := qw4 186 rfl rfl
theorem lkY_X9_11 : (Jvm.Cond.laysFinal "UsedUpModel" "UsedUpModel" "sFactors" "[I") ∈ qTB := qw4 188 rfl rfl
theorem lkY_X9_12 : (Jvm.Cond.laysFinal "UsedUpModel" "UsedUpModel" "fKind" "[I") ∈ qTB := qw4 190 rfl rfl
theorem lkY_X9_13 : (Jvm.Cond.laysFinal "UsedUpModel" "UsedUpModel" "fValue" "[I") ∈ qTB := qw4 192 rfl rfl
theorem lkY_X9_14 : (Jvm.Cond.laysFinal "UsedUpModel" "UsedUpModel" "fPlus" "[Z") ∈ qTB := qw4 194 rfl rfl
theorem lkY_X9_15 : (Jvm.Cond.lays "UsedUpModel" "UsedUpModel" "defs" "I") ∈ qTB := qw4 196 rfl rfl
theorem lkY_X9_16 : (Jvm.Cond.laysFinal "UsedUpModel" "UsedUpModel" "dFrom" "[I") ∈ qTB := qw4 198 rfl rfl
theorem lkY_X9_17 : (Jvm.Cond.laysFinal "UsedUpModel" "UsedUpModel" "dTo" "[I") ∈ qTB := qw4 200 rfl rfl
theorem lkY_X9_18 : (Jvm.Cond.lays "UsedUpModel" "UsedUpModel" "main" "I") ∈ qTB := qw4 202 rfl rfl
theorem lkY_X9_19 : (Jvm.Cond.lays "UsedUpModel" "UsedUpModel" "places" "I") ∈ qTB := qw4 204 rfl rfl
theorem lkY_X9_20 : (Jvm.Cond.laysFinal "UsedUpModel" "UsedUpModel" "pStep" "[I") ∈ qTB := qw4 206 rfl rfl
theorem lkY_X9_21 : (Jvm.Cond.laysFinal "UsedUpModel" "UsedUpModel" "caps" "[I") ∈ qTB := qw4 208 rfl rfl
theorem lkY_X9_22 : (Jvm.Cond.laysFinal "UsedUpModel" "UsedUpModel" "ask" "[I") ∈ qTB := qw4 210 rfl rfl
theorem lkY_X9_23 : (Jvm.Cond.laysFinal "UsedUpModel" "UsedUpModel" "time" "[J") ∈ qTB := qw4 212 rfl rfl
theorem lkY_X9_24 : (Jvm.Cond.laysFinal "UsedUpModel" "UsedUpModel" "room" "[J") ∈ qTB := qw4 214 rfl rfl
theorem lkY_X9_25 : (Jvm.Cond.laysFinal "UsedUpModel" "UsedUpModel" "turns" "[J") ∈ qTB := qw4 216 rfl rfl
theorem lkY_X9_26 : (Jvm.Cond.laysFinal "UsedUpModel" "UsedUpModel" "latest" "[I") ∈ qTB := qw4 218 rfl rfl
theorem lkY_X9_27 : (Jvm.Cond.lays "UsedUpModel" "UsedUpModel" "hasAsk" "Z") ∈ qTB := qw4 220 rfl rfl
theorem lkY_X9_28 : (Jvm.Cond.laysFinal "UsedUpModel" "UsedUpModel" "visits" "[J") ∈ qTB := qw4 222 rfl rfl
theorem lkY_X9_29 : (Jvm.Cond.laysFinal "UsedUpModel" "UsedUpModel" "called" "[J") ∈ qTB := qw4 224 rfl rfl
theorem lkY_X9_30 : (Jvm.Cond.lays "UsedUpModel" "UsedUpModel" "ordinaries" "I") ∈ qTB := qw4 226 rfl rfl
theorem lkY_X9_31 : (Jvm.Cond.laysFinal "UsedUpModel" "UsedUpModel" "oAsk" "[I") ∈ qTB := qw4 228 rfl rfl
theorem lkY_X9_32 : (Jvm.Cond.laysFinal "UsedUpModel" "UsedUpModel" "needs" "[J") ∈ qTB := qw4 230 rfl rfl
theorem lkY_X9_33 : (Jvm.Cond.laysFinal "UsedUpModel" "UsedUpModel" "wasCaps" "[I") ∈ qTB := qw4 232 rfl rfl
theorem lkY_X9_34 : (Jvm.Cond.laysFinal "UsedUpModel" "UsedUpModel" "within" "[I") ∈ qTB := qw4 234 rfl rfl
theorem lkY_X9_35 : (Jvm.Cond.laysFinal "UsedUpModel" "UsedUpModel" "heldAhead" "[I") ∈ qTB := qw4 236 rfl rfl
theorem lkY_X9_36 : (Jvm.Cond.lays "UsedUpModel" "UsedUpModel" "nSteps" "I") ∈ qTB := qw4 238 rfl rfl
theorem lkY_X9_37 : (Jvm.Cond.laysFinal "UsedUpModel" "UsedUpModel" "nKind" "[I") ∈ qTB := qw5 0 rfl rfl
theorem lkY_X9_38 : (Jvm.Cond.laysFinal "UsedUpModel" "UsedUpModel" "nEnd" "[I") ∈ qTB := qw5 2 rfl rfl
theorem lkY_X9_39 : (Jvm.Cond.laysFinal "UsedUpModel" "UsedUpModel" "nElse" "[I") ∈ qTB := qw5 4 rfl rfl
theorem lkY_X9_40 : (Jvm.Cond.laysFinal "UsedUpModel" "UsedUpModel" "nA" "[I") ∈ qTB := qw5 6 rfl rfl
theorem lkY_X9_41 : (Jvm.Cond.laysFinal "UsedUpModel" "UsedUpModel" "nB" "[I") ∈ qTB := qw5 8 rfl rfl
theorem lkY_X9_42 : (Jvm.Cond.laysFinal "UsedUpModel" "UsedUpModel" "nFactors" "[I") ∈ qTB := qw5 10 rfl rfl
theorem lkY_X9_43 : (Jvm.Cond.lays "UsedUpModel" "UsedUpModel" "nMany" "I") ∈ qTB := qw5 12 rfl rfl
theorem lkY_X9_44 : (Jvm.Cond.laysFinal "UsedUpModel" "UsedUpModel" "mKind" "[I") ∈ qTB := qw5 14 rfl rfl
theorem lkY_X9_45 : (Jvm.Cond.laysFinal "UsedUpModel" "UsedUpModel" "mValue" "[I") ∈ qTB := qw5 16 rfl rfl
theorem lkY_X9_46 : (Jvm.Cond.laysFinal "UsedUpModel" "UsedUpModel" "mPlus" "[Z") ∈ qTB := qw5 18 rfl rfl
theorem lkY_X9_47 : (Jvm.Cond.lays "UsedUpModel" "UsedUpModel" "nDefs" "I") ∈ qTB := qw5 20 rfl rfl
theorem lkY_X9_48 : (Jvm.Cond.laysFinal "UsedUpModel" "UsedUpModel" "nFrom" "[I") ∈ qTB := qw5 22 rfl rfl
theorem lkY_X9_49 : (Jvm.Cond.laysFinal "UsedUpModel" "UsedUpModel" "nTo" "[I") ∈ qTB := qw5 24 rfl rfl
theorem lkY_X9_50 : (Jvm.Cond.lays "UsedUpModel" "UsedUpModel" "nMain" "I") ∈ qTB := qw5 26 rfl rfl
theorem lkY_X9_51 : (Jvm.Cond.lays "UsedUpModel" "UsedUpModel" "nPlaces" "I") ∈ qTB := qw5 28 rfl rfl
theorem lkY_X9_52 : (Jvm.Cond.laysFinal "UsedUpModel" "UsedUpModel" "named" "[I") ∈ qTB := qw5 30 rfl rfl
theorem lkY_X9_53 : (Jvm.Cond.laysFinal "UsedUpModel" "UsedUpModel" "open" "[I") ∈ qTB := qw5 32 rfl rfl
theorem lkY_X9_54 : (Jvm.Cond.lays "UsedUpModel" "UsedUpModel" "depth" "I") ∈ qTB := qw5 34 rfl rfl
theorem lkY_X9_55 : (Jvm.Cond.lays "UsedUpModel" "UsedUpModel" "letter" "I") ∈ qTB := qw5 36 rfl rfl
theorem lkY_X9_56 : (Jvm.Cond.laysFinal "UsedUpModel" "UsedUpModel" "tape" "[I") ∈ qTB := qw5 38 rfl rfl
theorem lkY_X9_57 : (Jvm.Cond.lays "UsedUpModel" "UsedUpModel" "taped" "I") ∈ qTB := qw5 40 rfl rfl
theorem lkY_X9_58 : (Jvm.Cond.lays "UsedUpModel" "UsedUpModel" "from" "I") ∈ qTB := qw5 42 rfl rfl
theorem lkY_X9_59 : (Jvm.Cond.lays "UsedUpModel" "UsedUpModel" "to" "I") ∈ qTB := qw5 44 rfl rfl
theorem lkY_X9_60 : (Jvm.Cond.lays "UsedUpModel" "UsedUpModel" "sort" "I") ∈ qTB := qw5 46 rfl rfl
theorem lkY_X9_61 : (Jvm.Cond.lays "UsedUpModel" "UsedUpModel" "worth" "J") ∈ qTB := qw5 48 rfl rfl
theorem lkY_X9_62 : (Jvm.Cond.lays "UsedUpModel" "UsedUpModel" "fault" "I") ∈ qTB := qw5 50 rfl rfl
theorem lkY_X9_63 : (Jvm.Cond.lays "UsedUpModel" "UsedUpModel" "bad" "Z") ∈ qTB := qw5 52 rfl rfl
theorem qlayX9 : ∀ w ∈ u_ws RX9 TX9 64, w ∈ qTB := by
  intro w hw
  obtain ⟨k, hk, rfl⟩ := List.mem_map.mp hw
  have hk := List.mem_range.mp hk
  match k, hk with
  | 0, _ => exact lkY_X9_0
  | 1, _ => exact lkY_X9_1
  | 2, _ => exact lkY_X9_2
  | 3, _ => exact lkY_X9_3
  | 4, _ => exact lkY_X9_4
  | 5, _ => exact lkY_X9_5
  | 6, _ => exact lkY_X9_6
  | 7, _ => exact lkY_X9_7
  | 8, _ => exact lkY_X9_8
  | 9, _ => exact lkY_X9_9
  | 10, _ => exact lkY_X9_10
  | 11, _ => exact lkY_X9_11
  | 12, _ => exact lkY_X9_12
  | 13, _ => exact lkY_X9_13
  | 14, _ => exact lkY_X9_14
  | 15, _ => exact lkY_X9_15
  | 16, _ => exact lkY_X9_16
  | 17, _ => exact lkY_X9_17
  | 18, _ => exact lkY_X9_18
  | 19, _ => exact lkY_X9_19
  | 20, _ => exact lkY_X9_20
  | 21, _ => exact lkY_X9_21
  | 22, _ => exact lkY_X9_22
  | 23, _ => exact lkY_X9_23
  | 24, _ => exact lkY_X9_24
  | 25, _ => exact lkY_X9_25
  | 26, _ => exact lkY_X9_26
  | 27, _ => exact lkY_X9_27
  | 28, _ => exact lkY_X9_28
  | 29, _ => exact lkY_X9_29
  | 30, _ => exact lkY_X9_30
  | 31, _ => exact lkY_X9_31
  | 32, _ => exact lkY_X9_32
  | 33, _ => exact lkY_X9_33
  | 34, _ => exact lkY_X9_34
  | 35, _ => exact lkY_X9_35
  | 36, _ => exact lkY_X9_36
  | 37, _ => exact lkY_X9_37
  | 38, _ => exact lkY_X9_38
  | 39, _ => exact lkY_X9_39
  | 40, _ => exact lkY_X9_40
  | 41, _ => exact lkY_X9_41
  | 42, _ => exact lkY_X9_42
  | 43, _ => exact lkY_X9_43
  | 44, _ => exact lkY_X9_44
  | 45, _ => exact lkY_X9_45
  | 46, _ => exact lkY_X9_46
  | 47, _ => exact lkY_X9_47
  | 48, _ => exact lkY_X9_48
  | 49, _ => exact lkY_X9_49
  | 50, _ => exact lkY_X9_50
  | 51, _ => exact lkY_X9_51
  | 52, _ => exact lkY_X9_52
  | 53, _ => exact lkY_X9_53
  | 54, _ => exact lkY_X9_54
  | 55, _ => exact lkY_X9_55
  | 56, _ => exact lkY_X9_56
  | 57, _ => exact lkY_X9_57
  | 58, _ => exact lkY_X9_58
  | 59, _ => exact lkY_X9_59
  | 60, _ => exact lkY_X9_60
  | 61, _ => exact lkY_X9_61
  | 62, _ => exact lkY_X9_62
  | 63, _ => exact lkY_X9_63
  | k + 64, hk => exact absurd hk (by omega)
theorem lkC_0 : Jvm.Cond.code (qmt 0).1 (qmt 0).2.1 (qmt 0).2.2.1 (qmt 0).2.2.2.1 ∈ qTB := qw1 222 rfl rfl
theorem lkM_0 : (Jvm.Cond.instanceMethod ({ cls := "UsedUp$Asks", name := "<init>", desc := "()V" } : Jvm.MethodName)) ∈ qTB := qw1 221 rfl rfl
theorem lkC_1 : Jvm.Cond.code (qmt 1).1 (qmt 1).2.1 (qmt 1).2.2.1 (qmt 1).2.2.2.1 ∈ qTB := qw2 98 rfl rfl
theorem lkM_1 : (Jvm.Cond.instanceMethod ({ cls := "UsedUp$Asks", name := "describe", desc := "(III)V" } : Jvm.MethodName)) ∈ qTB := qw2 96 rfl rfl
theorem lkE_1 : (Jvm.Cond.selects "UsedUp$Asks" ({ cls := "UsedUp$Asks", name := "describe", desc := "(III)V" } : Jvm.MethodName) ({ cls := "UsedUp$Asks", name := "describe", desc := "(III)V" } : Jvm.MethodName)) ∈ qTB := qw2 97 rfl rfl
theorem lkC_2 : Jvm.Cond.code (qmt 2).1 (qmt 2).2.1 (qmt 2).2.2.1 (qmt 2).2.2.2.1 ∈ qTB := qw3 206 rfl rfl
theorem lkM_2 : (Jvm.Cond.instanceMethod ({ cls := "UsedUp$Asks", name := "prepare", desc := "(LUsedUp$Script;)I" } : Jvm.MethodName)) ∈ qTB := qw3 204 rfl rfl
theorem lkE_2 : (Jvm.Cond.selects "UsedUp$Asks" ({ cls := "UsedUp$Asks", name := "prepare", desc := "(LUsedUp$Script;)I" } : Jvm.MethodName) ({ cls := "UsedUp$Asks", name := "prepare", desc := "(LUsedUp$Script;)I" } : Jvm.MethodName)) ∈ qTB := qw3 205 rfl rfl
theorem lkC_3 : Jvm.Cond.code (qmt 3).1 (qmt 3).2.1 (qmt 3).2.2.1 (qmt 3).2.2.2.1 ∈ qTB := qw3 215 rfl rfl
theorem lkM_3 : (Jvm.Cond.instanceMethod ({ cls := "UsedUp$Asks", name := "turnTo", desc := "(I)V" } : Jvm.MethodName)) ∈ qTB := qw3 213 rfl rfl
theorem lkE_3 : (Jvm.Cond.selects "UsedUp$Asks" ({ cls := "UsedUp$Asks", name := "turnTo", desc := "(I)V" } : Jvm.MethodName) ({ cls := "UsedUp$Asks", name := "turnTo", desc := "(I)V" } : Jvm.MethodName)) ∈ qTB := qw3 214 rfl rfl
theorem lkC_4 : Jvm.Cond.code (qmt 4).1 (qmt 4).2.1 (qmt 4).2.2.1 (qmt 4).2.2.2.1 ∈ qTB := qw3 211 rfl rfl
theorem lkM_4 : (Jvm.Cond.instanceMethod ({ cls := "UsedUp$Asks", name := "weightOf", desc := "(I)I" } : Jvm.MethodName)) ∈ qTB := qw3 209 rfl rfl
theorem lkE_4 : (Jvm.Cond.selects "UsedUp$Asks" ({ cls := "UsedUp$Asks", name := "weightOf", desc := "(I)I" } : Jvm.MethodName) ({ cls := "UsedUp$Asks", name := "weightOf", desc := "(I)I" } : Jvm.MethodName)) ∈ qTB := qw3 210 rfl rfl
theorem lkC_5 : Jvm.Cond.code (qmt 5).1 (qmt 5).2.1 (qmt 5).2.2.1 (qmt 5).2.2.2.1 ∈ qTB := qw1 201 rfl rfl
theorem lkM_5 : (Jvm.Cond.instanceMethod ({ cls := "UsedUp$Locks", name := "<init>", desc := "()V" } : Jvm.MethodName)) ∈ qTB := qw1 200 rfl rfl
theorem lkC_6 : Jvm.Cond.code (qmt 6).1 (qmt 6).2.1 (qmt 6).2.2.1 (qmt 6).2.2.2.1 ∈ qTB := qw3 78 rfl rfl
theorem lkM_6 : (Jvm.Cond.instanceMethod ({ cls := "UsedUp$Locks", name := "learn", desc := "(LUsedUp$Script;)V" } : Jvm.MethodName)) ∈ qTB := qw3 76 rfl rfl
theorem lkE_6 : (Jvm.Cond.selects "UsedUp$Locks" ({ cls := "UsedUp$Locks", name := "learn", desc := "(LUsedUp$Script;)V" } : Jvm.MethodName) ({ cls := "UsedUp$Locks", name := "learn", desc := "(LUsedUp$Script;)V" } : Jvm.MethodName)) ∈ qTB := qw3 77 rfl rfl
theorem lkC_7 : Jvm.Cond.code (qmt 7).1 (qmt 7).2.1 (qmt 7).2.2.1 (qmt 7).2.2.2.1 ∈ qTB := qw3 83 rfl rfl
theorem lkM_7 : (Jvm.Cond.instanceMethod ({ cls := "UsedUp$Locks", name := "learnPart", desc := "(LUsedUp$Script;I)V" } : Jvm.MethodName)) ∈ qTB := qw3 82 rfl rfl
theorem lkE_7 : Jvm.Cond.selects "UsedUp$Locks" ⟨"UsedUp$Locks", "learnPart", "(LUsedUp$Script;I)V"⟩ ⟨"UsedUp$Locks", "learnPart", "(LUsedUp$Script;I)V"⟩ ∈ qTB := qwv 13 rfl rfl
theorem lkC_8 : Jvm.Cond.code (qmt 8).1 (qmt 8).2.1 (qmt 8).2.2.1 (qmt 8).2.2.2.1 ∈ qTB := qw3 91 rfl rfl
theorem lkM_8 : (Jvm.Cond.instanceMethod ({ cls := "UsedUp$Locks", name := "locksOf", desc := "(LUsedUp$Script;I)I" } : Jvm.MethodName)) ∈ qTB := qw3 90 rfl rfl
theorem lkE_8 : Jvm.Cond.selects "UsedUp$Locks" ⟨"UsedUp$Locks", "locksOf", "(LUsedUp$Script;I)I"⟩ ⟨"UsedUp$Locks", "locksOf", "(LUsedUp$Script;I)I"⟩ ∈ qTB := qwv 14 rfl rfl
theorem lkC_9 : Jvm.Cond.code (qmt 9).1 (qmt 9).2.1 (qmt 9).2.2.1 (qmt 9).2.2.2.1 ∈ qTB := qw3 96 rfl rfl
theorem lkM_9 : (Jvm.Cond.instanceMethod ({ cls := "UsedUp$Locks", name := "holdAround", desc := "(LUsedUp$Script;II)V" } : Jvm.MethodName)) ∈ qTB := qw3 95 rfl rfl
theorem lkE_9 : Jvm.Cond.selects "UsedUp$Locks" ⟨"UsedUp$Locks", "holdAround", "(LUsedUp$Script;II)V"⟩ ⟨"UsedUp$Locks", "holdAround", "(LUsedUp$Script;II)V"⟩ ∈ qTB := qwv 15 rfl rfl
theorem lkC_10 : Jvm.Cond.code (qmt 10).1 (qmt 10).2.1 (qmt 10).2.2.1 (qmt 10).2.2.2.1 ∈ qTB := qw3 100 rfl rfl
theorem lkM_10 : (Jvm.Cond.instanceMethod ({ cls := "UsedUp$Locks", name := "findLedBack", desc := "()V" } : Jvm.MethodName)) ∈ qTB := qw3 99 rfl rfl
theorem lkE_10 : Jvm.Cond.selects "UsedUp$Locks" ⟨"UsedUp$Locks", "findLedBack", "()V"⟩ ⟨"UsedUp$Locks", "findLedBack", "()V"⟩ ∈ qTB := qwv 16 rfl rfl
theorem lkC_11 : Jvm.Cond.code (qmt 11).1 (qmt 11).2.1 (qmt 11).2.2.1 (qmt 11).2.2.2.1 ∈ qTB := qw1 175 rfl rfl
theorem lkM_11 : (Jvm.Cond.instanceMethod ({ cls := "UsedUp$Meter", name := "<init>", desc := "()V" } : Jvm.MethodName)) ∈ qTB := qw1 174 rfl rfl
theorem lkC_12 : Jvm.Cond.code (qmt 12).1 (qmt 12).2.1 (qmt 12).2.2.1 (qmt 12).2.2.2.1 ∈ qTB := qw3 138 rfl rfl
theorem lkM_12 : (Jvm.Cond.instanceMethod ({ cls := "UsedUp$Meter", name := "brings", desc := "(ILUsedUp$Script;[I[I)J" } : Jvm.MethodName)) ∈ qTB := qw3 136 rfl rfl
theorem lkE_12 : (Jvm.Cond.selects "UsedUp$Meter" ({ cls := "UsedUp$Meter", name := "brings", desc := "(ILUsedUp$Script;[I[I)J" } : Jvm.MethodName) ({ cls := "UsedUp$Meter", name := "brings", desc := "(ILUsedUp$Script;[I[I)J" } : Jvm.MethodName)) ∈ qTB := qw3 137 rfl rfl
theorem lkC_13 : Jvm.Cond.code (qmt 13).1 (qmt 13).2.1 (qmt 13).2.2.1 (qmt 13).2.2.2.1 ∈ qTB := qw3 142 rfl rfl
theorem lkM_13 : (Jvm.Cond.instanceMethod ({ cls := "UsedUp$Meter", name := "findFigures", desc := "(LUsedUp$Script;[I[I)V" } : Jvm.MethodName)) ∈ qTB := qw3 141 rfl rfl
theorem lkE_13 : Jvm.Cond.selects "UsedUp$Meter" ⟨"UsedUp$Meter", "findFigures", "(LUsedUp$Script;[I[I)V"⟩ ⟨"UsedUp$Meter", "findFigures", "(LUsedUp$Script;[I[I)V"⟩ ∈ qTB := qwv 18 rfl rfl
theorem lkC_14 : Jvm.Cond.code (qmt 14).1 (qmt 14).2.1 (qmt 14).2.2.1 (qmt 14).2.2.2.1 ∈ qTB := qw3 172 rfl rfl
theorem lkM_14 : (Jvm.Cond.instanceMethod ({ cls := "UsedUp$Meter", name := "addUp", desc := "(ILUsedUp$Script;I)V" } : Jvm.MethodName)) ∈ qTB := qw3 171 rfl rfl
theorem lkE_14 : Jvm.Cond.selects "UsedUp$Meter" ⟨"UsedUp$Meter", "addUp", "(ILUsedUp$Script;I)V"⟩ ⟨"UsedUp$Meter", "addUp", "(ILUsedUp$Script;I)V"⟩ ∈ qTB := qwv 19 rfl rfl
theorem lkC_15 : Jvm.Cond.code (qmt 15).1 (qmt 15).2.1 (qmt 15).2.2.1 (qmt 15).2.2.2.1 ∈ qTB := qw3 195 rfl rfl
theorem lkM_15 : (Jvm.Cond.instanceMethod ({ cls := "UsedUp$Meter", name := "isGoneInto", desc := "(LUsedUp$Script;II)Z" } : Jvm.MethodName)) ∈ qTB := qw3 194 rfl rfl
theorem lkE_15 : Jvm.Cond.selects "UsedUp$Meter" ⟨"UsedUp$Meter", "isGoneInto", "(LUsedUp$Script;II)Z"⟩ ⟨"UsedUp$Meter", "isGoneInto", "(LUsedUp$Script;II)Z"⟩ ∈ qTB := qwv 20 rfl rfl
theorem lkC_16 : Jvm.Cond.code (qmt 16).1 (qmt 16).2.1 (qmt 16).2.2.1 (qmt 16).2.2.2.1 ∈ qTB := qw3 188 rfl rfl
theorem lkS_16 : (Jvm.Cond.static ({ cls := "UsedUp$Meter", name := "joined", desc := "(IJJ)J" } : Jvm.MethodName)) ∈ qTB := qw3 187 rfl rfl
theorem lkC_17 : Jvm.Cond.code (qmt 17).1 (qmt 17).2.1 (qmt 17).2.2.1 (qmt 17).2.2.2.1 ∈ qTB := qw3 180 rfl rfl
theorem lkS_17 : (Jvm.Cond.static ({ cls := "UsedUp$Meter", name := "timeOf", desc := "(IJJ)J" } : Jvm.MethodName)) ∈ qTB := qw3 179 rfl rfl
theorem lkC_18 : Jvm.Cond.code (qmt 18).1 (qmt 18).2.1 (qmt 18).2.2.1 (qmt 18).2.2.2.1 ∈ qTB := qw3 185 rfl rfl
theorem lkS_18 : (Jvm.Cond.static ({ cls := "UsedUp$Meter", name := "roomOf", desc := "(IJJ)J" } : Jvm.MethodName)) ∈ qTB := qw3 184 rfl rfl
theorem lkC_19 : Jvm.Cond.code (qmt 19).1 (qmt 19).2.1 (qmt 19).2.2.1 (qmt 19).2.2.2.1 ∈ qTB := qw3 238 rfl rfl
theorem lkM_19 : (Jvm.Cond.instanceMethod ({ cls := "UsedUp$Meter", name := "goesTo", desc := "(ILUsedUp$Script;[I[I)J" } : Jvm.MethodName)) ∈ qTB := qw3 236 rfl rfl
theorem lkE_19 : (Jvm.Cond.selects "UsedUp$Meter" ({ cls := "UsedUp$Meter", name := "goesTo", desc := "(ILUsedUp$Script;[I[I)J" } : Jvm.MethodName) ({ cls := "UsedUp$Meter", name := "goesTo", desc := "(ILUsedUp$Script;[I[I)J" } : Jvm.MethodName)) ∈ qTB := qw3 237 rfl rfl
theorem lkC_20 : Jvm.Cond.code (qmt 20).1 (qmt 20).2.1 (qmt 20).2.2.1 (qmt 20).2.2.2.1 ∈ qTB := qw4 6 rfl rfl
theorem lkM_20 : (Jvm.Cond.instanceMethod ({ cls := "UsedUp$Meter", name := "countComings", desc := "(LUsedUp$Script;I)V" } : Jvm.MethodName)) ∈ qTB := qw4 5 rfl rfl
theorem lkE_20 : Jvm.Cond.selects "UsedUp$Meter" ⟨"UsedUp$Meter", "countComings", "(LUsedUp$Script;I)V"⟩ ⟨"UsedUp$Meter", "countComings", "(LUsedUp$Script;I)V"⟩ ∈ qTB := qwv 22 rfl rfl
theorem lkC_21 : Jvm.Cond.code (qmt 21).1 (qmt 21).2.1 (qmt 21).2.2.1 (qmt 21).2.2.2.1 ∈ qTB := qw4 10 rfl rfl
theorem lkM_21 : (Jvm.Cond.instanceMethod ({ cls := "UsedUp$Meter", name := "comingsWithin", desc := "(LUsedUp$Script;II)J" } : Jvm.MethodName)) ∈ qTB := qw4 9 rfl rfl
theorem lkE_21 : Jvm.Cond.selects "UsedUp$Meter" ⟨"UsedUp$Meter", "comingsWithin", "(LUsedUp$Script;II)J"⟩ ⟨"UsedUp$Meter", "comingsWithin", "(LUsedUp$Script;II)J"⟩ ∈ qTB := qwv 23 rfl rfl
theorem lkC_22 : Jvm.Cond.code (qmt 22).1 (qmt 22).2.1 (qmt 22).2.2.1 (qmt 22).2.2.2.1 ∈ qTB := qw2 6 rfl rfl
theorem lkM_22 : (Jvm.Cond.instanceMethod ({ cls := "UsedUp$Planner", name := "<init>", desc := "(LUsedUp$Meter;LUsedUp$Asks;)V" } : Jvm.MethodName)) ∈ qTB := qw2 5 rfl rfl
theorem lkC_23 : Jvm.Cond.code (qmt 23).1 (qmt 23).2.1 (qmt 23).2.2.1 (qmt 23).2.2.2.1 ∈ qTB := qw4 18 rfl rfl
theorem lkM_23 : (Jvm.Cond.instanceMethod ({ cls := "UsedUp$Planner", name := "addOrdinary", desc := "(IIII)V" } : Jvm.MethodName)) ∈ qTB := qw4 16 rfl rfl
theorem lkE_23 : (Jvm.Cond.selects "UsedUp$Planner" ({ cls := "UsedUp$Planner", name := "addOrdinary", desc := "(IIII)V" } : Jvm.MethodName) ({ cls := "UsedUp$Planner", name := "addOrdinary", desc := "(IIII)V" } : Jvm.MethodName)) ∈ qTB := qw4 17 rfl rfl
theorem lkC_24 : Jvm.Cond.code (qmt 24).1 (qmt 24).2.1 (qmt 24).2.2.1 (qmt 24).2.2.2.1 ∈ qTB := qw4 27 rfl rfl
theorem lkM_24 : (Jvm.Cond.instanceMethod ({ cls := "UsedUp$Planner", name := "needOf", desc := "(LUsedUp$Script;I)J" } : Jvm.MethodName)) ∈ qTB := qw4 25 rfl rfl
theorem lkE_24 : (Jvm.Cond.selects "UsedUp$Planner" ({ cls := "UsedUp$Planner", name := "needOf", desc := "(LUsedUp$Script;I)J" } : Jvm.MethodName) ({ cls := "UsedUp$Planner", name := "needOf", desc := "(LUsedUp$Script;I)J" } : Jvm.MethodName)) ∈ qTB := qw4 26 rfl rfl
theorem lkC_25 : Jvm.Cond.code (qmt 25).1 (qmt 25).2.1 (qmt 25).2.2.1 (qmt 25).2.2.2.1 ∈ qTB := qw4 39 rfl rfl
theorem lkM_25 : (Jvm.Cond.instanceMethod ({ cls := "UsedUp$Planner", name := "fewest", desc := "(LUsedUp$Script;J)I" } : Jvm.MethodName)) ∈ qTB := qw4 37 rfl rfl
theorem lkE_25 : (Jvm.Cond.selects "UsedUp$Planner" ({ cls := "UsedUp$Planner", name := "fewest", desc := "(LUsedUp$Script;J)I" } : Jvm.MethodName) ({ cls := "UsedUp$Planner", name := "fewest", desc := "(LUsedUp$Script;J)I" } : Jvm.MethodName)) ∈ qTB := qw4 38 rfl rfl
theorem lkC_26 : Jvm.Cond.code (qmt 26).1 (qmt 26).2.1 (qmt 26).2.2.1 (qmt 26).2.2.2.1 ∈ qTB := qw4 49 rfl rfl
theorem lkS_26 : (Jvm.Cond.static ({ cls := "UsedUp$Planner", name := "bitOf", desc := "(LUsedUp$Script;I)I" } : Jvm.MethodName)) ∈ qTB := qw4 48 rfl rfl
theorem lkC_27 : Jvm.Cond.code (qmt 27).1 (qmt 27).2.1 (qmt 27).2.2.1 (qmt 27).2.2.2.1 ∈ qTB := qw4 43 rfl rfl
theorem lkM_27 : (Jvm.Cond.instanceMethod ({ cls := "UsedUp$Planner", name := "findNeeds", desc := "(LUsedUp$Script;)I" } : Jvm.MethodName)) ∈ qTB := qw4 42 rfl rfl
theorem lkE_27 : Jvm.Cond.selects "UsedUp$Planner" ⟨"UsedUp$Planner", "findNeeds", "(LUsedUp$Script;)I"⟩ ⟨"UsedUp$Planner", "findNeeds", "(LUsedUp$Script;)I"⟩ ∈ qTB := qwv 24 rfl rfl
theorem lkC_28 : Jvm.Cond.code (qmt 28).1 (qmt 28).2.1 (qmt 28).2.2.1 (qmt 28).2.2.2.1 ∈ qTB := qw4 53 rfl rfl
theorem lkM_28 : (Jvm.Cond.instanceMethod ({ cls := "UsedUp$Planner", name := "findRisky", desc := "(LUsedUp$Script;J)V" } : Jvm.MethodName)) ∈ qTB := qw4 52 rfl rfl
theorem lkE_28 : Jvm.Cond.selects "UsedUp$Planner" ⟨"UsedUp$Planner", "findRisky", "(LUsedUp$Script;J)V"⟩ ⟨"UsedUp$Planner", "findRisky", "(LUsedUp$Script;J)V"⟩ ∈ qTB := qwv 25 rfl rfl
theorem lkC_29 : Jvm.Cond.code (qmt 29).1 (qmt 29).2.1 (qmt 29).2.2.1 (qmt 29).2.2.2.1 ∈ qTB := qw4 62 rfl rfl
theorem lkM_29 : (Jvm.Cond.instanceMethod ({ cls := "UsedUp$Planner", name := "keepsBelow", desc := "(LUsedUp$Script;JI)Z" } : Jvm.MethodName)) ∈ qTB := qw4 61 rfl rfl
theorem lkE_29 : Jvm.Cond.selects "UsedUp$Planner" ⟨"UsedUp$Planner", "keepsBelow", "(LUsedUp$Script;JI)Z"⟩ ⟨"UsedUp$Planner", "keepsBelow", "(LUsedUp$Script;JI)Z"⟩ ∈ qTB := qwv 26 rfl rfl
theorem lkC_30 : Jvm.Cond.code (qmt 30).1 (qmt 30).2.1 (qmt 30).2.2.1 (qmt 30).2.2.2.1 ∈ qTB := qw4 66 rfl rfl
theorem lkM_30 : (Jvm.Cond.instanceMethod ({ cls := "UsedUp$Planner", name := "capChosen", desc := "(LUsedUp$Script;I[I)V" } : Jvm.MethodName)) ∈ qTB := qw4 64 rfl rfl
theorem lkE_30 : (Jvm.Cond.selects "UsedUp$Planner" ({ cls := "UsedUp$Planner", name := "capChosen", desc := "(LUsedUp$Script;I[I)V" } : Jvm.MethodName) ({ cls := "UsedUp$Planner", name := "capChosen", desc := "(LUsedUp$Script;I[I)V" } : Jvm.MethodName)) ∈ qTB := qw4 65 rfl rfl
theorem lkC_31 : Jvm.Cond.code (qmt 31).1 (qmt 31).2.1 (qmt 31).2.2.1 (qmt 31).2.2.2.1 ∈ qTB := qw1 127 rfl rfl
theorem lkM_31 : (Jvm.Cond.instanceMethod ({ cls := "UsedUp$Reader", name := "<init>", desc := "(LUsedUp$Tape;LUsedUp$Script;)V" } : Jvm.MethodName)) ∈ qTB := qw1 126 rfl rfl
theorem lkC_32 : Jvm.Cond.code (qmt 32).1 (qmt 32).2.1 (qmt 32).2.2.1 (qmt 32).2.2.2.1 ∈ qTB := qw2 130 rfl rfl
theorem lkM_32 : (Jvm.Cond.instanceMethod ({ cls := "UsedUp$Reader", name := "read", desc := "(LUsedUp$Script;)I" } : Jvm.MethodName)) ∈ qTB := qw2 128 rfl rfl
theorem lkE_32 : (Jvm.Cond.selects "UsedUp$Reader" ({ cls := "UsedUp$Reader", name := "read", desc := "(LUsedUp$Script;)I" } : Jvm.MethodName) ({ cls := "UsedUp$Reader", name := "read", desc := "(LUsedUp$Script;)I" } : Jvm.MethodName)) ∈ qTB := qw2 129 rfl rfl
theorem lkC_33 : Jvm.Cond.code (qmt 33).1 (qmt 33).2.1 (qmt 33).2.2.1 (qmt 33).2.2.2.1 ∈ qTB := qw2 157 rfl rfl
theorem lkM_33 : (Jvm.Cond.instanceMethod ({ cls := "UsedUp$Reader", name := "isWhole", desc := "()Z" } : Jvm.MethodName)) ∈ qTB := qw2 156 rfl rfl
theorem lkE_33 : Jvm.Cond.selects "UsedUp$Reader" ⟨"UsedUp$Reader", "isWhole", "()Z"⟩ ⟨"UsedUp$Reader", "isWhole", "()Z"⟩ ∈ qTB := qwv 2 rfl rfl
theorem lkC_34 : Jvm.Cond.code (qmt 34).1 (qmt 34).2.1 (qmt 34).2.2.1 (qmt 34).2.2.2.1 ∈ qTB := qw2 223 rfl rfl
theorem lkM_34 : (Jvm.Cond.instanceMethod ({ cls := "UsedUp$Reader", name := "beginDef", desc := "()Z" } : Jvm.MethodName)) ∈ qTB := qw2 222 rfl rfl
theorem lkE_34 : Jvm.Cond.selects "UsedUp$Reader" ⟨"UsedUp$Reader", "beginDef", "()Z"⟩ ⟨"UsedUp$Reader", "beginDef", "()Z"⟩ ∈ qTB := qwv 3 rfl rfl
theorem lkC_35 : Jvm.Cond.code (qmt 35).1 (qmt 35).2.1 (qmt 35).2.2.1 (qmt 35).2.2.2.1 ∈ qTB := qw2 233 rfl rfl
theorem lkM_35 : (Jvm.Cond.instanceMethod ({ cls := "UsedUp$Reader", name := "openBlock", desc := "(II)Z" } : Jvm.MethodName)) ∈ qTB := qw2 232 rfl rfl
theorem lkE_35 : Jvm.Cond.selects "UsedUp$Reader" ⟨"UsedUp$Reader", "openBlock", "(II)Z"⟩ ⟨"UsedUp$Reader", "openBlock", "(II)Z"⟩ ∈ qTB := qwv 4 rfl rfl
theorem lkC_36 : Jvm.Cond.code (qmt 36).1 (qmt 36).2.1 (qmt 36).2.2.1 (qmt 36).2.2.2.1 ∈ qTB := qw3 5 rfl rfl
theorem lkM_36 : (Jvm.Cond.instanceMethod ({ cls := "UsedUp$Reader", name := "closeBlock", desc := "()Z" } : Jvm.MethodName)) ∈ qTB := qw3 4 rfl rfl
theorem lkE_36 : Jvm.Cond.selects "UsedUp$Reader" ⟨"UsedUp$Reader", "closeBlock", "()Z"⟩ ⟨"UsedUp$Reader", "closeBlock", "()Z"⟩ ∈ qTB := qwv 5 rfl rfl
theorem lkC_37 : Jvm.Cond.code (qmt 37).1 (qmt 37).2.1 (qmt 37).2.2.1 (qmt 37).2.2.2.1 ∈ qTB := qw3 14 rfl rfl
theorem lkM_37 : (Jvm.Cond.instanceMethod ({ cls := "UsedUp$Reader", name := "beginStep", desc := "()Z" } : Jvm.MethodName)) ∈ qTB := qw3 13 rfl rfl
theorem lkE_37 : Jvm.Cond.selects "UsedUp$Reader" ⟨"UsedUp$Reader", "beginStep", "()Z"⟩ ⟨"UsedUp$Reader", "beginStep", "()Z"⟩ ∈ qTB := qwv 6 rfl rfl
theorem lkC_38 : Jvm.Cond.code (qmt 38).1 (qmt 38).2.1 (qmt 38).2.2.1 (qmt 38).2.2.2.1 ∈ qTB := qw3 18 rfl rfl
theorem lkM_38 : (Jvm.Cond.instanceMethod ({ cls := "UsedUp$Reader", name := "kindHere", desc := "()I" } : Jvm.MethodName)) ∈ qTB := qw3 17 rfl rfl
theorem lkE_38 : Jvm.Cond.selects "UsedUp$Reader" ⟨"UsedUp$Reader", "kindHere", "()I"⟩ ⟨"UsedUp$Reader", "kindHere", "()I"⟩ ∈ qTB := qwv 7 rfl rfl
theorem lkC_39 : Jvm.Cond.code (qmt 39).1 (qmt 39).2.1 (qmt 39).2.2.1 (qmt 39).2.2.2.1 ∈ qTB := qw3 65 rfl rfl
theorem lkM_39 : (Jvm.Cond.instanceMethod ({ cls := "UsedUp$Reader", name := "readNumber", desc := "(II)Z" } : Jvm.MethodName)) ∈ qTB := qw3 64 rfl rfl
theorem lkE_39 : Jvm.Cond.selects "UsedUp$Reader" ⟨"UsedUp$Reader", "readNumber", "(II)Z"⟩ ⟨"UsedUp$Reader", "readNumber", "(II)Z"⟩ ∈ qTB := qwv 11 rfl rfl
theorem lkC_40 : Jvm.Cond.code (qmt 40).1 (qmt 40).2.1 (qmt 40).2.2.1 (qmt 40).2.2.2.1 ∈ qTB := qw3 57 rfl rfl
theorem lkM_40 : (Jvm.Cond.instanceMethod ({ cls := "UsedUp$Reader", name := "readCalled", desc := "(I)Z" } : Jvm.MethodName)) ∈ qTB := qw3 56 rfl rfl
theorem lkE_40 : Jvm.Cond.selects "UsedUp$Reader" ⟨"UsedUp$Reader", "readCalled", "(I)Z"⟩ ⟨"UsedUp$Reader", "readCalled", "(I)Z"⟩ ∈ qTB := qwv 10 rfl rfl
theorem lkC_41 : Jvm.Cond.code (qmt 41).1 (qmt 41).2.1 (qmt 41).2.2.1 (qmt 41).2.2.2.1 ∈ qTB := qw3 69 rfl rfl
theorem lkM_41 : (Jvm.Cond.instanceMethod ({ cls := "UsedUp$Reader", name := "readTest", desc := "(I)Z" } : Jvm.MethodName)) ∈ qTB := qw3 68 rfl rfl
theorem lkE_41 : Jvm.Cond.selects "UsedUp$Reader" ⟨"UsedUp$Reader", "readTest", "(I)Z"⟩ ⟨"UsedUp$Reader", "readTest", "(I)Z"⟩ ∈ qTB := qwv 12 rfl rfl
theorem lkC_42 : Jvm.Cond.code (qmt 42).1 (qmt 42).2.1 (qmt 42).2.2.1 (qmt 42).2.2.2.1 ∈ qTB := qw3 32 rfl rfl
theorem lkM_42 : (Jvm.Cond.instanceMethod ({ cls := "UsedUp$Reader", name := "readAmount", desc := "(I)Z" } : Jvm.MethodName)) ∈ qTB := qw3 31 rfl rfl
theorem lkE_42 : Jvm.Cond.selects "UsedUp$Reader" ⟨"UsedUp$Reader", "readAmount", "(I)Z"⟩ ⟨"UsedUp$Reader", "readAmount", "(I)Z"⟩ ∈ qTB := qwv 8 rfl rfl
theorem lkC_43 : Jvm.Cond.code (qmt 43).1 (qmt 43).2.1 (qmt 43).2.2.1 (qmt 43).2.2.2.1 ∈ qTB := qw3 36 rfl rfl
theorem lkM_43 : (Jvm.Cond.instanceMethod ({ cls := "UsedUp$Reader", name := "readFactor", desc := "(I)Z" } : Jvm.MethodName)) ∈ qTB := qw3 35 rfl rfl
theorem lkE_43 : Jvm.Cond.selects "UsedUp$Reader" ⟨"UsedUp$Reader", "readFactor", "(I)Z"⟩ ⟨"UsedUp$Reader", "readFactor", "(I)Z"⟩ ∈ qTB := qwv 9 rfl rfl
theorem lkC_44 : Jvm.Cond.code (qmt 44).1 (qmt 44).2.1 (qmt 44).2.2.1 (qmt 44).2.2.2.1 ∈ qTB := qw1 29 rfl rfl
theorem lkM_44 : (Jvm.Cond.instanceMethod ({ cls := "UsedUp$Script", name := "<init>", desc := "()V" } : Jvm.MethodName)) ∈ qTB := qw1 28 rfl rfl
theorem lkC_45 : Jvm.Cond.code (qmt 45).1 (qmt 45).2.1 (qmt 45).2.2.1 (qmt 45).2.2.2.1 ∈ qTB := qw2 134 rfl rfl
theorem lkM_45 : (Jvm.Cond.instanceMethod ({ cls := "UsedUp$Script", name := "clear", desc := "()V" } : Jvm.MethodName)) ∈ qTB := qw2 132 rfl rfl
theorem lkE_45 : (Jvm.Cond.selects "UsedUp$Script" ({ cls := "UsedUp$Script", name := "clear", desc := "()V" } : Jvm.MethodName) ({ cls := "UsedUp$Script", name := "clear", desc := "()V" } : Jvm.MethodName)) ∈ qTB := qw2 133 rfl rfl
theorem lkC_46 : Jvm.Cond.code (qmt 46).1 (qmt 46).2.1 (qmt 46).2.2.1 (qmt 46).2.2.2.1 ∈ qTB := qw3 28 rfl rfl
theorem lkM_46 : (Jvm.Cond.instanceMethod ({ cls := "UsedUp$Script", name := "addStep", desc := "(III)I" } : Jvm.MethodName)) ∈ qTB := qw3 26 rfl rfl
theorem lkE_46 : (Jvm.Cond.selects "UsedUp$Script" ({ cls := "UsedUp$Script", name := "addStep", desc := "(III)I" } : Jvm.MethodName) ({ cls := "UsedUp$Script", name := "addStep", desc := "(III)I" } : Jvm.MethodName)) ∈ qTB := qw3 27 rfl rfl
theorem lkC_47 : Jvm.Cond.code (qmt 47).1 (qmt 47).2.1 (qmt 47).2.2.1 (qmt 47).2.2.2.1 ∈ qTB := qw3 61 rfl rfl
theorem lkM_47 : (Jvm.Cond.instanceMethod ({ cls := "UsedUp$Script", name := "setValue", desc := "(II)V" } : Jvm.MethodName)) ∈ qTB := qw3 59 rfl rfl
theorem lkE_47 : (Jvm.Cond.selects "UsedUp$Script" ({ cls := "UsedUp$Script", name := "setValue", desc := "(II)V" } : Jvm.MethodName) ({ cls := "UsedUp$Script", name := "setValue", desc := "(II)V" } : Jvm.MethodName)) ∈ qTB := qw3 60 rfl rfl
theorem lkC_48 : Jvm.Cond.code (qmt 48).1 (qmt 48).2.1 (qmt 48).2.2.1 (qmt 48).2.2.2.1 ∈ qTB := qw3 73 rfl rfl
theorem lkM_48 : (Jvm.Cond.instanceMethod ({ cls := "UsedUp$Script", name := "setIfName", desc := "(II)V" } : Jvm.MethodName)) ∈ qTB := qw3 71 rfl rfl
theorem lkE_48 : (Jvm.Cond.selects "UsedUp$Script" ({ cls := "UsedUp$Script", name := "setIfName", desc := "(II)V" } : Jvm.MethodName) ({ cls := "UsedUp$Script", name := "setIfName", desc := "(II)V" } : Jvm.MethodName)) ∈ qTB := qw3 72 rfl rfl
theorem lkC_49 : Jvm.Cond.code (qmt 49).1 (qmt 49).2.1 (qmt 49).2.2.1 (qmt 49).2.2.2.1 ∈ qTB := qw3 45 rfl rfl
theorem lkM_49 : (Jvm.Cond.instanceMethod ({ cls := "UsedUp$Script", name := "addFactor", desc := "(III)V" } : Jvm.MethodName)) ∈ qTB := qw3 43 rfl rfl
theorem lkE_49 : (Jvm.Cond.selects "UsedUp$Script" ({ cls := "UsedUp$Script", name := "addFactor", desc := "(III)V" } : Jvm.MethodName) ({ cls := "UsedUp$Script", name := "addFactor", desc := "(III)V" } : Jvm.MethodName)) ∈ qTB := qw3 44 rfl rfl
theorem lkC_50 : Jvm.Cond.code (qmt 50).1 (qmt 50).2.1 (qmt 50).2.2.1 (qmt 50).2.2.2.1 ∈ qTB := qw3 52 rfl rfl
theorem lkM_50 : (Jvm.Cond.instanceMethod ({ cls := "UsedUp$Script", name := "closeAmount", desc := "(I)V" } : Jvm.MethodName)) ∈ qTB := qw3 50 rfl rfl
theorem lkE_50 : (Jvm.Cond.selects "UsedUp$Script" ({ cls := "UsedUp$Script", name := "closeAmount", desc := "(I)V" } : Jvm.MethodName) ({ cls := "UsedUp$Script", name := "closeAmount", desc := "(I)V" } : Jvm.MethodName)) ∈ qTB := qw3 51 rfl rfl
theorem lkC_51 : Jvm.Cond.code (qmt 51).1 (qmt 51).2.1 (qmt 51).2.2.1 (qmt 51).2.2.2.1 ∈ qTB := qw3 9 rfl rfl
theorem lkM_51 : (Jvm.Cond.instanceMethod ({ cls := "UsedUp$Script", name := "closeDef", desc := "()V" } : Jvm.MethodName)) ∈ qTB := qw3 7 rfl rfl
theorem lkE_51 : (Jvm.Cond.selects "UsedUp$Script" ({ cls := "UsedUp$Script", name := "closeDef", desc := "()V" } : Jvm.MethodName) ({ cls := "UsedUp$Script", name := "closeDef", desc := "()V" } : Jvm.MethodName)) ∈ qTB := qw3 8 rfl rfl
theorem lkC_52 : Jvm.Cond.code (qmt 52).1 (qmt 52).2.1 (qmt 52).2.2.1 (qmt 52).2.2.2.1 ∈ qTB := qw2 165 rfl rfl
theorem lkM_52 : (Jvm.Cond.instanceMethod ({ cls := "UsedUp$Script", name := "closeLastPart", desc := "()V" } : Jvm.MethodName)) ∈ qTB := qw2 163 rfl rfl
theorem lkE_52 : (Jvm.Cond.selects "UsedUp$Script" ({ cls := "UsedUp$Script", name := "closeLastPart", desc := "()V" } : Jvm.MethodName) ({ cls := "UsedUp$Script", name := "closeLastPart", desc := "()V" } : Jvm.MethodName)) ∈ qTB := qw2 164 rfl rfl
theorem lkC_53 : Jvm.Cond.code (qmt 53).1 (qmt 53).2.1 (qmt 53).2.2.1 (qmt 53).2.2.2.1 ∈ qTB := qw3 146 rfl rfl
theorem lkM_53 : (Jvm.Cond.instanceMethod ({ cls := "UsedUp$Script", name := "holds", desc := "(I[I)Z" } : Jvm.MethodName)) ∈ qTB := qw3 144 rfl rfl
theorem lkE_53 : (Jvm.Cond.selects "UsedUp$Script" ({ cls := "UsedUp$Script", name := "holds", desc := "(I[I)Z" } : Jvm.MethodName) ({ cls := "UsedUp$Script", name := "holds", desc := "(I[I)Z" } : Jvm.MethodName)) ∈ qTB := qw3 145 rfl rfl
theorem lkC_54 : Jvm.Cond.code (qmt 54).1 (qmt 54).2.1 (qmt 54).2.2.1 (qmt 54).2.2.2.1 ∈ qTB := qw3 152 rfl rfl
theorem lkM_54 : (Jvm.Cond.instanceMethod ({ cls := "UsedUp$Script", name := "amountOf", desc := "(I[I)J" } : Jvm.MethodName)) ∈ qTB := qw3 150 rfl rfl
theorem lkE_54 : (Jvm.Cond.selects "UsedUp$Script" ({ cls := "UsedUp$Script", name := "amountOf", desc := "(I[I)J" } : Jvm.MethodName) ({ cls := "UsedUp$Script", name := "amountOf", desc := "(I[I)J" } : Jvm.MethodName)) ∈ qTB := qw3 151 rfl rfl
theorem lkC_55 : Jvm.Cond.code (qmt 55).1 (qmt 55).2.1 (qmt 55).2.2.1 (qmt 55).2.2.2.1 ∈ qTB := qw1 111 rfl rfl
theorem lkM_55 : (Jvm.Cond.instanceMethod ({ cls := "UsedUp$Tape", name := "<init>", desc := "()V" } : Jvm.MethodName)) ∈ qTB := qw1 110 rfl rfl
theorem lkC_56 : Jvm.Cond.code (qmt 56).1 (qmt 56).2.1 (qmt 56).2.2.1 (qmt 56).2.2.2.1 ∈ qTB := qw2 113 rfl rfl
theorem lkM_56 : (Jvm.Cond.instanceMethod ({ cls := "UsedUp$Tape", name := "hasSpaceFor", desc := "(I)Z" } : Jvm.MethodName)) ∈ qTB := qw2 111 rfl rfl
theorem lkE_56 : (Jvm.Cond.selects "UsedUp$Tape" ({ cls := "UsedUp$Tape", name := "hasSpaceFor", desc := "(I)Z" } : Jvm.MethodName) ({ cls := "UsedUp$Tape", name := "hasSpaceFor", desc := "(I)Z" } : Jvm.MethodName)) ∈ qTB := qw2 112 rfl rfl
theorem lkC_57 : Jvm.Cond.code (qmt 57).1 (qmt 57).2.1 (qmt 57).2.2.1 (qmt 57).2.2.2.1 ∈ qTB := qw2 117 rfl rfl
theorem lkM_57 : (Jvm.Cond.instanceMethod ({ cls := "UsedUp$Tape", name := "append", desc := "(I)V" } : Jvm.MethodName)) ∈ qTB := qw2 115 rfl rfl
theorem lkE_57 : (Jvm.Cond.selects "UsedUp$Tape" ({ cls := "UsedUp$Tape", name := "append", desc := "(I)V" } : Jvm.MethodName) ({ cls := "UsedUp$Tape", name := "append", desc := "(I)V" } : Jvm.MethodName)) ∈ qTB := qw2 116 rfl rfl
theorem lkC_58 : Jvm.Cond.code (qmt 58).1 (qmt 58).2.1 (qmt 58).2.2.1 (qmt 58).2.2.2.1 ∈ qTB := qw1 133 rfl rfl
theorem lkM_58 : (Jvm.Cond.instanceMethod ({ cls := "UsedUp$Tokens", name := "<init>", desc := "(LUsedUp$Tape;)V" } : Jvm.MethodName)) ∈ qTB := qw1 132 rfl rfl
theorem lkC_59 : Jvm.Cond.code (qmt 59).1 (qmt 59).2.1 (qmt 59).2.2.1 (qmt 59).2.2.2.1 ∈ qTB := qw2 140 rfl rfl
theorem lkM_59 : (Jvm.Cond.instanceMethod ({ cls := "UsedUp$Tokens", name := "start", desc := "()V" } : Jvm.MethodName)) ∈ qTB := qw2 138 rfl rfl
theorem lkE_59 : (Jvm.Cond.selects "UsedUp$Tokens" ({ cls := "UsedUp$Tokens", name := "start", desc := "()V" } : Jvm.MethodName) ({ cls := "UsedUp$Tokens", name := "start", desc := "()V" } : Jvm.MethodName)) ∈ qTB := qw2 139 rfl rfl
theorem lkC_60 : Jvm.Cond.code (qmt 60).1 (qmt 60).2.1 (qmt 60).2.2.1 (qmt 60).2.2.2.1 ∈ qTB := qw2 144 rfl rfl
theorem lkM_60 : (Jvm.Cond.instanceMethod ({ cls := "UsedUp$Tokens", name := "advance", desc := "()V" } : Jvm.MethodName)) ∈ qTB := qw2 142 rfl rfl
theorem lkE_60 : (Jvm.Cond.selects "UsedUp$Tokens" ({ cls := "UsedUp$Tokens", name := "advance", desc := "()V" } : Jvm.MethodName) ({ cls := "UsedUp$Tokens", name := "advance", desc := "()V" } : Jvm.MethodName)) ∈ qTB := qw2 143 rfl rfl
theorem lkC_61 : Jvm.Cond.code (qmt 61).1 (qmt 61).2.1 (qmt 61).2.2.1 (qmt 61).2.2.2.1 ∈ qTB := qw2 150 rfl rfl
theorem lkS_61 : (Jvm.Cond.static ({ cls := "UsedUp$Tokens", name := "sortOf", desc := "(I)I" } : Jvm.MethodName)) ∈ qTB := qw2 149 rfl rfl
theorem lkC_62 : Jvm.Cond.code (qmt 62).1 (qmt 62).2.1 (qmt 62).2.2.1 (qmt 62).2.2.2.1 ∈ qTB := qw2 161 rfl rfl
theorem lkM_62 : (Jvm.Cond.instanceMethod ({ cls := "UsedUp$Tokens", name := "atEnd", desc := "()Z" } : Jvm.MethodName)) ∈ qTB := qw2 159 rfl rfl
theorem lkE_62 : (Jvm.Cond.selects "UsedUp$Tokens" ({ cls := "UsedUp$Tokens", name := "atEnd", desc := "()Z" } : Jvm.MethodName) ({ cls := "UsedUp$Tokens", name := "atEnd", desc := "()Z" } : Jvm.MethodName)) ∈ qTB := qw2 160 rfl rfl
theorem lkC_63 : Jvm.Cond.code (qmt 63).1 (qmt 63).2.1 (qmt 63).2.2.1 (qmt 63).2.2.2.1 ∈ qTB := qw2 171 rfl rfl
theorem lkM_63 : (Jvm.Cond.instanceMethod ({ cls := "UsedUp$Tokens", name := "is", desc := "(Ljava/lang/String;)Z" } : Jvm.MethodName)) ∈ qTB := qw2 169 rfl rfl
theorem lkE_63 : (Jvm.Cond.selects "UsedUp$Tokens" ({ cls := "UsedUp$Tokens", name := "is", desc := "(Ljava/lang/String;)Z" } : Jvm.MethodName) ({ cls := "UsedUp$Tokens", name := "is", desc := "(Ljava/lang/String;)Z" } : Jvm.MethodName)) ∈ qTB := qw2 170 rfl rfl
theorem lkC_64 : Jvm.Cond.code (qmt 64).1 (qmt 64).2.1 (qmt 64).2.2.1 (qmt 64).2.2.2.1 ∈ qTB := qw2 238 rfl rfl
theorem lkM_64 : (Jvm.Cond.instanceMethod ({ cls := "UsedUp$Tokens", name := "take", desc := "(Ljava/lang/String;)Z" } : Jvm.MethodName)) ∈ qTB := qw2 236 rfl rfl
theorem lkE_64 : (Jvm.Cond.selects "UsedUp$Tokens" ({ cls := "UsedUp$Tokens", name := "take", desc := "(Ljava/lang/String;)Z" } : Jvm.MethodName) ({ cls := "UsedUp$Tokens", name := "take", desc := "(Ljava/lang/String;)Z" } : Jvm.MethodName)) ∈ qTB := qw2 237 rfl rfl
theorem lkC_65 : Jvm.Cond.code (qmt 65).1 (qmt 65).2.1 (qmt 65).2.2.1 (qmt 65).2.2.2.1 ∈ qTB := qw2 228 rfl rfl
theorem lkM_65 : (Jvm.Cond.instanceMethod ({ cls := "UsedUp$Tokens", name := "letterHere", desc := "(CC)I" } : Jvm.MethodName)) ∈ qTB := qw2 226 rfl rfl
theorem lkE_65 : (Jvm.Cond.selects "UsedUp$Tokens" ({ cls := "UsedUp$Tokens", name := "letterHere", desc := "(CC)I" } : Jvm.MethodName) ({ cls := "UsedUp$Tokens", name := "letterHere", desc := "(CC)I" } : Jvm.MethodName)) ∈ qTB := qw2 227 rfl rfl
theorem lkC_66 : Jvm.Cond.code (qmt 66).1 (qmt 66).2.1 (qmt 66).2.2.1 (qmt 66).2.2.2.1 ∈ qTB := qw3 40 rfl rfl
theorem lkM_66 : (Jvm.Cond.instanceMethod ({ cls := "UsedUp$Tokens", name := "numberHere", desc := "(I)I" } : Jvm.MethodName)) ∈ qTB := qw3 38 rfl rfl
theorem lkE_66 : (Jvm.Cond.selects "UsedUp$Tokens" ({ cls := "UsedUp$Tokens", name := "numberHere", desc := "(I)I" } : Jvm.MethodName) ({ cls := "UsedUp$Tokens", name := "numberHere", desc := "(I)I" } : Jvm.MethodName)) ∈ qTB := qw3 39 rfl rfl
theorem lkC_67 : Jvm.Cond.code (qmt 67).1 (qmt 67).2.1 (qmt 67).2.2.1 (qmt 67).2.2.2.1 ∈ qTB := qw1 21 rfl rfl
theorem lkM_67 : (Jvm.Cond.instanceMethod ({ cls := "UsedUp", name := "<init>", desc := "()V" } : Jvm.MethodName)) ∈ qTB := qw1 20 rfl rfl
theorem lkC_68 : Jvm.Cond.code (qmt 68).1 (qmt 68).2.1 (qmt 68).2.2.1 (qmt 68).2.2.2.1 ∈ qTB := qw2 87 rfl rfl
theorem lkM_68 : (Jvm.Cond.instanceMethod ({ cls := "UsedUp", name := "name", desc := "(III)I" } : Jvm.MethodName)) ∈ qTB := qw2 85 rfl rfl
theorem lkE_68 : (Jvm.Cond.selects "UsedUp" ({ cls := "UsedUp", name := "name", desc := "(III)I" } : Jvm.MethodName) ({ cls := "UsedUp", name := "name", desc := "(III)I" } : Jvm.MethodName)) ∈ qTB := qw2 86 rfl rfl
theorem lkC_69 : Jvm.Cond.code (qmt 69).1 (qmt 69).2.1 (qmt 69).2.2.1 (qmt 69).2.2.2.1 ∈ qTB := qw2 109 rfl rfl
theorem lkM_69 : (Jvm.Cond.instanceMethod ({ cls := "UsedUp", name := "feed", desc := "(IIIII)I" } : Jvm.MethodName)) ∈ qTB := qw2 107 rfl rfl
theorem lkE_69 : (Jvm.Cond.selects "UsedUp" ({ cls := "UsedUp", name := "feed", desc := "(IIIII)I" } : Jvm.MethodName) ({ cls := "UsedUp", name := "feed", desc := "(IIIII)I" } : Jvm.MethodName)) ∈ qTB := qw2 108 rfl rfl
theorem lkC_70 : Jvm.Cond.code (qmt 70).1 (qmt 70).2.1 (qmt 70).2.2.1 (qmt 70).2.2.2.1 ∈ qTB := qw2 122 rfl rfl
theorem lkM_70 : (Jvm.Cond.instanceMethod ({ cls := "UsedUp", name := "end", desc := "(I)I" } : Jvm.MethodName)) ∈ qTB := qw2 120 rfl rfl
theorem lkE_70 : (Jvm.Cond.selects "UsedUp" ({ cls := "UsedUp", name := "end", desc := "(I)I" } : Jvm.MethodName) ({ cls := "UsedUp", name := "end", desc := "(I)I" } : Jvm.MethodName)) ∈ qTB := qw2 121 rfl rfl
theorem lkC_71 : Jvm.Cond.code (qmt 71).1 (qmt 71).2.1 (qmt 71).2.2.1 (qmt 71).2.2.2.1 ∈ qTB := qw2 126 rfl rfl
theorem lkM_71 : (Jvm.Cond.instanceMethod ({ cls := "UsedUp", name := "program", desc := "()I" } : Jvm.MethodName)) ∈ qTB := qw2 124 rfl rfl
theorem lkE_71 : (Jvm.Cond.selects "UsedUp" ({ cls := "UsedUp", name := "program", desc := "()I" } : Jvm.MethodName) ({ cls := "UsedUp", name := "program", desc := "()I" } : Jvm.MethodName)) ∈ qTB := qw2 125 rfl rfl
theorem lkC_72 : Jvm.Cond.code (qmt 72).1 (qmt 72).2.1 (qmt 72).2.2.1 (qmt 72).2.2.2.1 ∈ qTB := qw3 105 rfl rfl
theorem lkM_72 : (Jvm.Cond.instanceMethod ({ cls := "UsedUp", name := "fault", desc := "()I" } : Jvm.MethodName)) ∈ qTB := qw3 103 rfl rfl
theorem lkE_72 : (Jvm.Cond.selects "UsedUp" ({ cls := "UsedUp", name := "fault", desc := "()I" } : Jvm.MethodName) ({ cls := "UsedUp", name := "fault", desc := "()I" } : Jvm.MethodName)) ∈ qTB := qw3 104 rfl rfl
theorem lkC_73 : Jvm.Cond.code (qmt 73).1 (qmt 73).2.1 (qmt 73).2.2.1 (qmt 73).2.2.2.1 ∈ qTB := qw3 109 rfl rfl
theorem lkM_73 : (Jvm.Cond.instanceMethod ({ cls := "UsedUp", name := "cap", desc := "(II)I" } : Jvm.MethodName)) ∈ qTB := qw3 107 rfl rfl
theorem lkE_73 : (Jvm.Cond.selects "UsedUp" ({ cls := "UsedUp", name := "cap", desc := "(II)I" } : Jvm.MethodName) ({ cls := "UsedUp", name := "cap", desc := "(II)I" } : Jvm.MethodName)) ∈ qTB := qw3 108 rfl rfl
theorem lkC_74 : Jvm.Cond.code (qmt 74).1 (qmt 74).2.1 (qmt 74).2.2.1 (qmt 74).2.2.2.1 ∈ qTB := qw3 120 rfl rfl
theorem lkM_74 : (Jvm.Cond.instanceMethod ({ cls := "UsedUp", name := "capped", desc := "(I)I" } : Jvm.MethodName)) ∈ qTB := qw3 118 rfl rfl
theorem lkE_74 : (Jvm.Cond.selects "UsedUp" ({ cls := "UsedUp", name := "capped", desc := "(I)I" } : Jvm.MethodName) ({ cls := "UsedUp", name := "capped", desc := "(I)I" } : Jvm.MethodName)) ∈ qTB := qw3 119 rfl rfl
theorem lkC_75 : Jvm.Cond.code (qmt 75).1 (qmt 75).2.1 (qmt 75).2.2.1 (qmt 75).2.2.2.1 ∈ qTB := qw3 124 rfl rfl
theorem lkM_75 : (Jvm.Cond.instanceMethod ({ cls := "UsedUp", name := "spends", desc := "(IIIII)J" } : Jvm.MethodName)) ∈ qTB := qw3 122 rfl rfl
theorem lkE_75 : (Jvm.Cond.selects "UsedUp" ({ cls := "UsedUp", name := "spends", desc := "(IIIII)J" } : Jvm.MethodName) ({ cls := "UsedUp", name := "spends", desc := "(IIIII)J" } : Jvm.MethodName)) ∈ qTB := qw3 123 rfl rfl
theorem lkC_76 : Jvm.Cond.code (qmt 76).1 (qmt 76).2.1 (qmt 76).2.2.1 (qmt 76).2.2.2.1 ∈ qTB := qw3 202 rfl rfl
theorem lkM_76 : (Jvm.Cond.instanceMethod ({ cls := "UsedUp", name := "worst", desc := "(II)J" } : Jvm.MethodName)) ∈ qTB := qw3 200 rfl rfl
theorem lkE_76 : (Jvm.Cond.selects "UsedUp" ({ cls := "UsedUp", name := "worst", desc := "(II)J" } : Jvm.MethodName) ({ cls := "UsedUp", name := "worst", desc := "(II)J" } : Jvm.MethodName)) ∈ qTB := qw3 201 rfl rfl
theorem lkC_77 : Jvm.Cond.code (qmt 77).1 (qmt 77).2.1 (qmt 77).2.2.1 (qmt 77).2.2.2.1 ∈ qTB := qw3 226 rfl rfl
theorem lkM_77 : (Jvm.Cond.instanceMethod ({ cls := "UsedUp", name := "cheapest", desc := "(IJ)I" } : Jvm.MethodName)) ∈ qTB := qw3 224 rfl rfl
theorem lkE_77 : (Jvm.Cond.selects "UsedUp" ({ cls := "UsedUp", name := "cheapest", desc := "(IJ)I" } : Jvm.MethodName) ({ cls := "UsedUp", name := "cheapest", desc := "(IJ)I" } : Jvm.MethodName)) ∈ qTB := qw3 225 rfl rfl
theorem lkC_78 : Jvm.Cond.code (qmt 78).1 (qmt 78).2.1 (qmt 78).2.2.1 (qmt 78).2.2.2.1 ∈ qTB := qw3 230 rfl rfl
theorem lkM_78 : (Jvm.Cond.instanceMethod ({ cls := "UsedUp", name := "ask", desc := "(I)I" } : Jvm.MethodName)) ∈ qTB := qw3 228 rfl rfl
theorem lkE_78 : (Jvm.Cond.selects "UsedUp" ({ cls := "UsedUp", name := "ask", desc := "(I)I" } : Jvm.MethodName) ({ cls := "UsedUp", name := "ask", desc := "(I)I" } : Jvm.MethodName)) ∈ qTB := qw3 229 rfl rfl
theorem lkC_79 : Jvm.Cond.code (qmt 79).1 (qmt 79).2.1 (qmt 79).2.2.1 (qmt 79).2.2.2.1 ∈ qTB := qw3 234 rfl rfl
theorem lkM_79 : (Jvm.Cond.instanceMethod ({ cls := "UsedUp", name := "where", desc := "(I)J" } : Jvm.MethodName)) ∈ qTB := qw3 232 rfl rfl
theorem lkE_79 : (Jvm.Cond.selects "UsedUp" ({ cls := "UsedUp", name := "where", desc := "(I)J" } : Jvm.MethodName) ({ cls := "UsedUp", name := "where", desc := "(I)J" } : Jvm.MethodName)) ∈ qTB := qw3 233 rfl rfl
theorem lkC_80 : Jvm.Cond.code (qmt 80).1 (qmt 80).2.1 (qmt 80).2.2.1 (qmt 80).2.2.2.1 ∈ qTB := qw4 14 rfl rfl
theorem lkM_80 : (Jvm.Cond.instanceMethod ({ cls := "UsedUp", name := "ordinary", desc := "(IIII)I" } : Jvm.MethodName)) ∈ qTB := qw4 12 rfl rfl
theorem lkE_80 : (Jvm.Cond.selects "UsedUp" ({ cls := "UsedUp", name := "ordinary", desc := "(IIII)I" } : Jvm.MethodName) ({ cls := "UsedUp", name := "ordinary", desc := "(IIII)I" } : Jvm.MethodName)) ∈ qTB := qw4 13 rfl rfl
theorem lkC_81 : Jvm.Cond.code (qmt 81).1 (qmt 81).2.1 (qmt 81).2.2.1 (qmt 81).2.2.2.1 ∈ qTB := qw4 23 rfl rfl
theorem lkM_81 : (Jvm.Cond.instanceMethod ({ cls := "UsedUp", name := "need", desc := "(I)J" } : Jvm.MethodName)) ∈ qTB := qw4 21 rfl rfl
theorem lkE_81 : (Jvm.Cond.selects "UsedUp" ({ cls := "UsedUp", name := "need", desc := "(I)J" } : Jvm.MethodName) ({ cls := "UsedUp", name := "need", desc := "(I)J" } : Jvm.MethodName)) ∈ qTB := qw4 22 rfl rfl
theorem lkC_82 : Jvm.Cond.code (qmt 82).1 (qmt 82).2.1 (qmt 82).2.2.1 (qmt 82).2.2.2.1 ∈ qTB := qw4 35 rfl rfl
theorem lkM_82 : (Jvm.Cond.instanceMethod ({ cls := "UsedUp", name := "budgets", desc := "(J)I" } : Jvm.MethodName)) ∈ qTB := qw4 33 rfl rfl
theorem lkE_82 : (Jvm.Cond.selects "UsedUp" ({ cls := "UsedUp", name := "budgets", desc := "(J)I" } : Jvm.MethodName) ({ cls := "UsedUp", name := "budgets", desc := "(J)I" } : Jvm.MethodName)) ∈ qTB := qw4 34 rfl rfl
theorem lkC_83 : Jvm.Cond.code (qmt 83).1 (qmt 83).2.1 (qmt 83).2.2.1 (qmt 83).2.2.2.1 ∈ qTB := qw4 79 rfl rfl
theorem lkM_83 : (Jvm.Cond.instanceMethod ({ cls := "UsedUp", name := "ahead", desc := "(II)I" } : Jvm.MethodName)) ∈ qTB := qw4 77 rfl rfl
theorem lkE_83 : (Jvm.Cond.selects "UsedUp" ({ cls := "UsedUp", name := "ahead", desc := "(II)I" } : Jvm.MethodName) ({ cls := "UsedUp", name := "ahead", desc := "(II)I" } : Jvm.MethodName)) ∈ qTB := qw4 78 rfl rfl
theorem lkC_84 : Jvm.Cond.code (qmt 84).1 (qmt 84).2.1 (qmt 84).2.2.1 (qmt 84).2.2.2.1 ∈ qTB := qw4 83 rfl rfl
theorem lkM_84 : (Jvm.Cond.instanceMethod ({ cls := "UsedUp", name := "tangled", desc := "()I" } : Jvm.MethodName)) ∈ qTB := qw4 81 rfl rfl
theorem lkE_84 : (Jvm.Cond.selects "UsedUp" ({ cls := "UsedUp", name := "tangled", desc := "()I" } : Jvm.MethodName) ({ cls := "UsedUp", name := "tangled", desc := "()I" } : Jvm.MethodName)) ∈ qTB := qw4 82 rfl rfl
theorem lkC_85 : Jvm.Cond.code (qmt 85).1 (qmt 85).2.1 (qmt 85).2.2.1 (qmt 85).2.2.2.1 ∈ qTB := qw4 87 rfl rfl
theorem lkM_85 : (Jvm.Cond.instanceMethod ({ cls := "UsedUp", name := "count", desc := "(I)I" } : Jvm.MethodName)) ∈ qTB := qw4 85 rfl rfl
theorem lkE_85 : (Jvm.Cond.selects "UsedUp" ({ cls := "UsedUp", name := "count", desc := "(I)I" } : Jvm.MethodName) ({ cls := "UsedUp", name := "count", desc := "(I)I" } : Jvm.MethodName)) ∈ qTB := qw4 86 rfl rfl
theorem lkC_86 : Jvm.Cond.code (qmt 86).1 (qmt 86).2.1 (qmt 86).2.2.1 (qmt 86).2.2.2.1 ∈ qTB := qw4 95 rfl rfl
theorem lkM_86 : (Jvm.Cond.instanceMethod ({ cls := "UsedUp", name := "status", desc := "()I" } : Jvm.MethodName)) ∈ qTB := qw4 93 rfl rfl
theorem lkE_86 : (Jvm.Cond.selects "UsedUp" ({ cls := "UsedUp", name := "status", desc := "()I" } : Jvm.MethodName) ({ cls := "UsedUp", name := "status", desc := "()I" } : Jvm.MethodName)) ∈ qTB := qw4 94 rfl rfl
theorem lkC_87 : Jvm.Cond.code (qmt 87).1 (qmt 87).2.1 (qmt 87).2.2.1 (qmt 87).2.2.2.1 ∈ qTB := qw2 94 rfl rfl
theorem lkM_87 : (Jvm.Cond.instanceMethod ({ cls := "UsedUp", name := "refuse", desc := "(I)I" } : Jvm.MethodName)) ∈ qTB := qw2 93 rfl rfl
theorem lkE_87 : Jvm.Cond.selects "UsedUp" ⟨"UsedUp", "refuse", "(I)I"⟩ ⟨"UsedUp", "refuse", "(I)I"⟩ ∈ qTB := qwv 0 rfl rfl
theorem lkC_88 : Jvm.Cond.code (qmt 88).1 (qmt 88).2.1 (qmt 88).2.2.1 (qmt 88).2.2.2.1 ∈ qTB := qw2 105 rfl rfl
theorem lkM_88 : (Jvm.Cond.instanceMethod ({ cls := "UsedUp", name := "accept", desc := "(I)I" } : Jvm.MethodName)) ∈ qTB := qw2 104 rfl rfl
theorem lkE_88 : Jvm.Cond.selects "UsedUp" ⟨"UsedUp", "accept", "(I)I"⟩ ⟨"UsedUp", "accept", "(I)I"⟩ ∈ qTB := qwv 1 rfl rfl
theorem lkC_89 : Jvm.Cond.code (qmt 89).1 (qmt 89).2.1 (qmt 89).2.2.1 (qmt 89).2.2.2.1 ∈ qTB := qw3 114 rfl rfl
theorem lkM_89 : (Jvm.Cond.instanceMethod ({ cls := "UsedUp", name := "isPlace", desc := "(I)Z" } : Jvm.MethodName)) ∈ qTB := qw3 113 rfl rfl
theorem lkE_89 : Jvm.Cond.selects "UsedUp" ⟨"UsedUp", "isPlace", "(I)Z"⟩ ⟨"UsedUp", "isPlace", "(I)Z"⟩ ∈ qTB := qwv 17 rfl rfl
theorem lkC_90 : Jvm.Cond.code (qmt 90).1 (qmt 90).2.1 (qmt 90).2.2.1 (qmt 90).2.2.2.1 ∈ qTB := qw3 127 rfl rfl
theorem lkS_90 : (Jvm.Cond.static ({ cls := "UsedUp", name := "isSort", desc := "(I)Z" } : Jvm.MethodName)) ∈ qTB := qw3 126 rfl rfl
theorem lkC_91 : Jvm.Cond.code (qmt 91).1 (qmt 91).2.1 (qmt 91).2.2.1 (qmt 91).2.2.2.1 ∈ qTB := qw3 130 rfl rfl
theorem lkS_91 : (Jvm.Cond.static ({ cls := "UsedUp", name := "areNumbers", desc := "(IIII)Z" } : Jvm.MethodName)) ∈ qTB := qw3 129 rfl rfl
theorem lkC_92 : Jvm.Cond.code (qmt 92).1 (qmt 92).2.1 (qmt 92).2.2.1 (qmt 92).2.2.2.1 ∈ qTB := qw3 219 rfl rfl
theorem lkM_92 : (Jvm.Cond.instanceMethod ({ cls := "UsedUp", name := "keepAsLatest", desc := "()V" } : Jvm.MethodName)) ∈ qTB := qw3 218 rfl rfl
theorem lkE_92 : Jvm.Cond.selects "UsedUp" ⟨"UsedUp", "keepAsLatest", "()V"⟩ ⟨"UsedUp", "keepAsLatest", "()V"⟩ ∈ qTB := qwv 21 rfl rfl
theorem lkC_93 : Jvm.Cond.code (qmt 93).1 (qmt 93).2.1 (qmt 93).2.2.1 (qmt 93).2.2.2.1 ∈ qTB := qw4 91 rfl rfl
theorem lkM_93 : (Jvm.Cond.instanceMethod ({ cls := "UsedUp", name := "capCount", desc := "()I" } : Jvm.MethodName)) ∈ qTB := qw4 90 rfl rfl
theorem lkE_93 : Jvm.Cond.selects "UsedUp" ⟨"UsedUp", "capCount", "()I"⟩ ⟨"UsedUp", "capCount", "()I"⟩ ∈ qTB := qwv 27 rfl rfl
theorem lkC_94 : Jvm.Cond.code (qmt 94).1 (qmt 94).2.1 (qmt 94).2.2.1 (qmt 94).2.2.2.1 ∈ qTB := qw2 90 rfl rfl
theorem lkS_94 : (Jvm.Cond.static ({ cls := "UsedUp", name := "within", desc := "(II)Z" } : Jvm.MethodName)) ∈ qTB := qw2 89 rfl rfl
theorem lkC_95 : Jvm.Cond.code (qmt 95).1 (qmt 95).2.1 (qmt 95).2.2.1 (qmt 95).2.2.2.1 ∈ qTB := qw2 147 rfl rfl
theorem lkS_95 : (Jvm.Cond.static ({ cls := "UsedUp", name := "at", desc := "([II)I" } : Jvm.MethodName)) ∈ qTB := qw2 146 rfl rfl
theorem lkC_96 : Jvm.Cond.code (qmt 96).1 (qmt 96).2.1 (qmt 96).2.2.1 (qmt 96).2.2.2.1 ∈ qTB := qw3 177 rfl rfl
theorem lkS_96 : (Jvm.Cond.static ({ cls := "UsedUp", name := "at", desc := "([JI)J" } : Jvm.MethodName)) ∈ qTB := qw3 176 rfl rfl
theorem lkC_97 : Jvm.Cond.code (qmt 97).1 (qmt 97).2.1 (qmt 97).2.2.1 (qmt 97).2.2.2.1 ∈ qTB := qw2 101 rfl rfl
theorem lkS_97 : (Jvm.Cond.static ({ cls := "UsedUp", name := "put", desc := "([III)V" } : Jvm.MethodName)) ∈ qTB := qw2 100 rfl rfl
theorem lkC_98 : Jvm.Cond.code (qmt 98).1 (qmt 98).2.1 (qmt 98).2.2.1 (qmt 98).2.2.2.1 ∈ qTB := qw3 198 rfl rfl
theorem lkS_98 : (Jvm.Cond.static ({ cls := "UsedUp", name := "put", desc := "([JIJ)V" } : Jvm.MethodName)) ∈ qTB := qw3 197 rfl rfl
theorem lkC_99 : Jvm.Cond.code (qmt 99).1 (qmt 99).2.1 (qmt 99).2.2.1 (qmt 99).2.2.2.1 ∈ qTB := qw1 226 rfl rfl
theorem lkS_99 : (Jvm.Cond.static ({ cls := "UsedUp", name := "fillWith", desc := "([II)V" } : Jvm.MethodName)) ∈ qTB := qw1 225 rfl rfl
theorem lkC_100 : Jvm.Cond.code (qmt 100).1 (qmt 100).2.1 (qmt 100).2.2.1 (qmt 100).2.2.2.1 ∈ qTB := qw4 2 rfl rfl
theorem lkS_100 : (Jvm.Cond.static ({ cls := "UsedUp", name := "fillWithNothing", desc := "([J)V" } : Jvm.MethodName)) ∈ qTB := qw4 1 rfl rfl
theorem lkC_101 : Jvm.Cond.code (qmt 101).1 (qmt 101).2.1 (qmt 101).2.2.1 (qmt 101).2.2.2.1 ∈ qTB := qw3 134 rfl rfl
theorem lkS_101 : (Jvm.Cond.static ({ cls := "UsedUp", name := "putRow", desc := "([IIIIII)V" } : Jvm.MethodName)) ∈ qTB := qw3 133 rfl rfl
theorem lkC_102 : Jvm.Cond.code (qmt 102).1 (qmt 102).2.1 (qmt 102).2.2.1 (qmt 102).2.2.2.1 ∈ qTB := qw3 222 rfl rfl
theorem lkS_102 : (Jvm.Cond.static ({ cls := "UsedUp", name := "copyRow", desc := "([II[I)V" } : Jvm.MethodName)) ∈ qTB := qw3 221 rfl rfl
theorem lkC_103 : Jvm.Cond.code (qmt 103).1 (qmt 103).2.1 (qmt 103).2.2.1 (qmt 103).2.2.2.1 ∈ qTB := qw3 161 rfl rfl
theorem lkS_103 : (Jvm.Cond.static ({ cls := "UsedUp", name := "sum", desc := "(JJ)J" } : Jvm.MethodName)) ∈ qTB := qw3 160 rfl rfl
theorem lkC_104 : Jvm.Cond.code (qmt 104).1 (qmt 104).2.1 (qmt 104).2.2.1 (qmt 104).2.2.2.1 ∈ qTB := qw3 167 rfl rfl
theorem lkS_104 : (Jvm.Cond.static ({ cls := "UsedUp", name := "product", desc := "(JJ)J" } : Jvm.MethodName)) ∈ qTB := qw3 166 rfl rfl
theorem lkC_105 : Jvm.Cond.code (qmt 105).1 (qmt 105).2.1 (qmt 105).2.2.1 (qmt 105).2.2.2.1 ∈ qTB := qw3 157 rfl rfl
theorem lkS_105 : (Jvm.Cond.static ({ cls := "UsedUp", name := "powerOfTwo", desc := "(I)J" } : Jvm.MethodName)) ∈ qTB := qw3 156 rfl rfl
theorem lkC_106 : Jvm.Cond.code (qmt 106).1 (qmt 106).2.1 (qmt 106).2.2.1 (qmt 106).2.2.2.1 ∈ qTB := qw4 100 rfl rfl
theorem lkM_106 : (Jvm.Cond.instanceMethod ({ cls := "UsedUpModel", name := "<init>", desc := "()V" } : Jvm.MethodName)) ∈ qTB := qw4 99 rfl rfl
theorem lkC_107 : Jvm.Cond.code (qmt 107).1 (qmt 107).2.1 (qmt 107).2.2.1 (qmt 107).2.2.2.1 ∈ qTB := qw5 63 rfl rfl
theorem lkS_107 : (Jvm.Cond.static ({ cls := "UsedUpModel", name := "in", desc := "(JJJ)Z" } : Jvm.MethodName)) ∈ qTB := qw5 62 rfl rfl
theorem lkC_108 : Jvm.Cond.code (qmt 108).1 (qmt 108).2.1 (qmt 108).2.2.1 (qmt 108).2.2.2.1 ∈ qTB := qw5 69 rfl rfl
theorem lkM_108 : (Jvm.Cond.instanceMethod ({ cls := "UsedUpModel", name := "told", desc := "(I)I" } : Jvm.MethodName)) ∈ qTB := qw5 68 rfl rfl
theorem lkE_108 : Jvm.Cond.selects "UsedUpModel" ⟨"UsedUpModel", "told", "(I)I"⟩ ⟨"UsedUpModel", "told", "(I)I"⟩ ∈ qTB := qwv 28 rfl rfl
theorem lkC_109 : Jvm.Cond.code (qmt 109).1 (qmt 109).2.1 (qmt 109).2.2.1 (qmt 109).2.2.2.1 ∈ qTB := qw5 59 rfl rfl
theorem lkM_109 : (Jvm.Cond.instanceMethod ({ cls := "UsedUpModel", name := "name", desc := "(III)I" } : Jvm.MethodName)) ∈ qTB := qw5 57 rfl rfl
theorem lkE_109 : (Jvm.Cond.selects "UsedUpModel" ({ cls := "UsedUpModel", name := "name", desc := "(III)I" } : Jvm.MethodName) ({ cls := "UsedUpModel", name := "name", desc := "(III)I" } : Jvm.MethodName)) ∈ qTB := qw5 58 rfl rfl
theorem lkC_110 : Jvm.Cond.code (qmt 110).1 (qmt 110).2.1 (qmt 110).2.2.1 (qmt 110).2.2.2.1 ∈ qTB := qw5 97 rfl rfl
theorem lkS_110 : (Jvm.Cond.static ({ cls := "UsedUpModel", name := "least", desc := "(J)J" } : Jvm.MethodName)) ∈ qTB := qw5 96 rfl rfl
theorem lkC_111 : Jvm.Cond.code (qmt 111).1 (qmt 111).2.1 (qmt 111).2.2.1 (qmt 111).2.2.2.1 ∈ qTB := qw5 94 rfl rfl
theorem lkS_111 : (Jvm.Cond.static ({ cls := "UsedUpModel", name := "add", desc := "(JJ)J" } : Jvm.MethodName)) ∈ qTB := qw5 93 rfl rfl
theorem lkC_112 : Jvm.Cond.code (qmt 112).1 (qmt 112).2.1 (qmt 112).2.2.1 (qmt 112).2.2.2.1 ∈ qTB := qw5 114 rfl rfl
theorem lkS_112 : (Jvm.Cond.static ({ cls := "UsedUpModel", name := "multiply", desc := "(JJ)J" } : Jvm.MethodName)) ∈ qTB := qw5 113 rfl rfl
theorem lkC_113 : Jvm.Cond.code (qmt 113).1 (qmt 113).2.1 (qmt 113).2.2.1 (qmt 113).2.2.2.1 ∈ qTB := qw5 110 rfl rfl
theorem lkM_113 : (Jvm.Cond.instanceMethod ({ cls := "UsedUpModel", name := "factor", desc := "(I)J" } : Jvm.MethodName)) ∈ qTB := qw5 109 rfl rfl
theorem lkE_113 : Jvm.Cond.selects "UsedUpModel" ⟨"UsedUpModel", "factor", "(I)J"⟩ ⟨"UsedUpModel", "factor", "(I)J"⟩ ∈ qTB := qwv 35 rfl rfl
theorem lkC_114 : Jvm.Cond.code (qmt 114).1 (qmt 114).2.1 (qmt 114).2.2.1 (qmt 114).2.2.2.1 ∈ qTB := qw5 106 rfl rfl
theorem lkM_114 : (Jvm.Cond.instanceMethod ({ cls := "UsedUpModel", name := "amount", desc := "(I)J" } : Jvm.MethodName)) ∈ qTB := qw5 105 rfl rfl
theorem lkE_114 : Jvm.Cond.selects "UsedUpModel" ⟨"UsedUpModel", "amount", "(I)J"⟩ ⟨"UsedUpModel", "amount", "(I)J"⟩ ∈ qTB := qwv 34 rfl rfl
theorem lkC_115 : Jvm.Cond.code (qmt 115).1 (qmt 115).2.1 (qmt 115).2.2.1 (qmt 115).2.2.2.1 ∈ qTB := qw5 91 rfl rfl
theorem lkM_115 : (Jvm.Cond.instanceMethod ({ cls := "UsedUpModel", name := "timeOf", desc := "(II)J" } : Jvm.MethodName)) ∈ qTB := qw5 90 rfl rfl
theorem lkE_115 : Jvm.Cond.selects "UsedUpModel" ⟨"UsedUpModel", "timeOf", "(II)J"⟩ ⟨"UsedUpModel", "timeOf", "(II)J"⟩ ∈ qTB := qwv 32 rfl rfl
theorem lkC_116 : Jvm.Cond.code (qmt 116).1 (qmt 116).2.1 (qmt 116).2.2.1 (qmt 116).2.2.2.1 ∈ qTB := qw5 102 rfl rfl
theorem lkM_116 : (Jvm.Cond.instanceMethod ({ cls := "UsedUpModel", name := "roomOf", desc := "(II)J" } : Jvm.MethodName)) ∈ qTB := qw5 101 rfl rfl
theorem lkE_116 : Jvm.Cond.selects "UsedUpModel" ⟨"UsedUpModel", "roomOf", "(II)J"⟩ ⟨"UsedUpModel", "roomOf", "(II)J"⟩ ∈ qTB := qwv 33 rfl rfl
theorem lkC_117 : Jvm.Cond.code (qmt 117).1 (qmt 117).2.1 (qmt 117).2.2.1 (qmt 117).2.2.2.1 ∈ qTB := qw5 87 rfl rfl
theorem lkM_117 : (Jvm.Cond.instanceMethod ({ cls := "UsedUpModel", name := "reckon", desc := "(II)V" } : Jvm.MethodName)) ∈ qTB := qw5 86 rfl rfl
theorem lkE_117 : Jvm.Cond.selects "UsedUpModel" ⟨"UsedUpModel", "reckon", "(II)V"⟩ ⟨"UsedUpModel", "reckon", "(II)V"⟩ ∈ qTB := qwv 31 rfl rfl
theorem lkC_118 : Jvm.Cond.code (qmt 118).1 (qmt 118).2.1 (qmt 118).2.2.1 (qmt 118).2.2.2.1 ∈ qTB := qw5 83 rfl rfl
theorem lkM_118 : (Jvm.Cond.instanceMethod ({ cls := "UsedUpModel", name := "spendsBy", desc := "(I)J" } : Jvm.MethodName)) ∈ qTB := qw5 82 rfl rfl
theorem lkE_118 : Jvm.Cond.selects "UsedUpModel" ⟨"UsedUpModel", "spendsBy", "(I)J"⟩ ⟨"UsedUpModel", "spendsBy", "(I)J"⟩ ∈ qTB := qwv 30 rfl rfl
theorem lkC_119 : Jvm.Cond.code (qmt 119).1 (qmt 119).2.1 (qmt 119).2.2.1 (qmt 119).2.2.2.1 ∈ qTB := qw5 73 rfl rfl
theorem lkM_119 : (Jvm.Cond.instanceMethod ({ cls := "UsedUpModel", name := "spends", desc := "(IIIII)J" } : Jvm.MethodName)) ∈ qTB := qw5 71 rfl rfl
theorem lkE_119 : (Jvm.Cond.selects "UsedUpModel" ({ cls := "UsedUpModel", name := "spends", desc := "(IIIII)J" } : Jvm.MethodName) ({ cls := "UsedUpModel", name := "spends", desc := "(IIIII)J" } : Jvm.MethodName)) ∈ qTB := qw5 72 rfl rfl
theorem lkC_120 : Jvm.Cond.code (qmt 120).1 (qmt 120).2.1 (qmt 120).2.2.1 (qmt 120).2.2.2.1 ∈ qTB := qw5 79 rfl rfl
theorem lkM_120 : (Jvm.Cond.instanceMethod ({ cls := "UsedUpModel", name := "set", desc := "(IIII)V" } : Jvm.MethodName)) ∈ qTB := qw5 78 rfl rfl
theorem lkE_120 : Jvm.Cond.selects "UsedUpModel" ⟨"UsedUpModel", "set", "(IIII)V"⟩ ⟨"UsedUpModel", "set", "(IIII)V"⟩ ∈ qTB := qwv 29 rfl rfl
theorem lkC_121 : Jvm.Cond.code (qmt 121).1 (qmt 121).2.1 (qmt 121).2.2.1 (qmt 121).2.2.2.1 ∈ qTB := qw5 122 rfl rfl
theorem lkM_121 : (Jvm.Cond.instanceMethod ({ cls := "UsedUpModel", name := "weigh", desc := "()I" } : Jvm.MethodName)) ∈ qTB := qw5 121 rfl rfl
theorem lkE_121 : Jvm.Cond.selects "UsedUpModel" ⟨"UsedUpModel", "weigh", "()I"⟩ ⟨"UsedUpModel", "weigh", "()I"⟩ ∈ qTB := qwv 36 rfl rfl
theorem lkC_122 : Jvm.Cond.code (qmt 122).1 (qmt 122).2.1 (qmt 122).2.2.1 (qmt 122).2.2.2.1 ∈ qTB := qw5 130 rfl rfl
theorem lkM_122 : (Jvm.Cond.instanceMethod ({ cls := "UsedUpModel", name := "nextAsk", desc := "()Z" } : Jvm.MethodName)) ∈ qTB := qw5 129 rfl rfl
theorem lkE_122 : Jvm.Cond.selects "UsedUpModel" ⟨"UsedUpModel", "nextAsk", "()Z"⟩ ⟨"UsedUpModel", "nextAsk", "()Z"⟩ ∈ qTB := qwv 38 rfl rfl
theorem lkC_123 : Jvm.Cond.code (qmt 123).1 (qmt 123).2.1 (qmt 123).2.2.1 (qmt 123).2.2.2.1 ∈ qTB := qw5 126 rfl rfl
theorem lkM_123 : (Jvm.Cond.instanceMethod ({ cls := "UsedUpModel", name := "keepAsk", desc := "()V" } : Jvm.MethodName)) ∈ qTB := qw5 125 rfl rfl
theorem lkE_123 : Jvm.Cond.selects "UsedUpModel" ⟨"UsedUpModel", "keepAsk", "()V"⟩ ⟨"UsedUpModel", "keepAsk", "()V"⟩ ∈ qTB := qwv 37 rfl rfl
theorem lkC_124 : Jvm.Cond.code (qmt 124).1 (qmt 124).2.1 (qmt 124).2.2.1 (qmt 124).2.2.2.1 ∈ qTB := qw5 118 rfl rfl
theorem lkM_124 : (Jvm.Cond.instanceMethod ({ cls := "UsedUpModel", name := "worst", desc := "(II)J" } : Jvm.MethodName)) ∈ qTB := qw5 116 rfl rfl
theorem lkE_124 : (Jvm.Cond.selects "UsedUpModel" ({ cls := "UsedUpModel", name := "worst", desc := "(II)J" } : Jvm.MethodName) ({ cls := "UsedUpModel", name := "worst", desc := "(II)J" } : Jvm.MethodName)) ∈ qTB := qw5 117 rfl rfl
theorem lkC_125 : Jvm.Cond.code (qmt 125).1 (qmt 125).2.1 (qmt 125).2.2.1 (qmt 125).2.2.2.1 ∈ qTB := qw5 134 rfl rfl
theorem lkM_125 : (Jvm.Cond.instanceMethod ({ cls := "UsedUpModel", name := "cheapest", desc := "(IJ)I" } : Jvm.MethodName)) ∈ qTB := qw5 132 rfl rfl
theorem lkE_125 : (Jvm.Cond.selects "UsedUpModel" ({ cls := "UsedUpModel", name := "cheapest", desc := "(IJ)I" } : Jvm.MethodName) ({ cls := "UsedUpModel", name := "cheapest", desc := "(IJ)I" } : Jvm.MethodName)) ∈ qTB := qw5 133 rfl rfl
theorem lkC_126 : Jvm.Cond.code (qmt 126).1 (qmt 126).2.1 (qmt 126).2.2.1 (qmt 126).2.2.2.1 ∈ qTB := qw5 138 rfl rfl
theorem lkM_126 : (Jvm.Cond.instanceMethod ({ cls := "UsedUpModel", name := "ask", desc := "(I)I" } : Jvm.MethodName)) ∈ qTB := qw5 136 rfl rfl
theorem lkE_126 : (Jvm.Cond.selects "UsedUpModel" ({ cls := "UsedUpModel", name := "ask", desc := "(I)I" } : Jvm.MethodName) ({ cls := "UsedUpModel", name := "ask", desc := "(I)I" } : Jvm.MethodName)) ∈ qTB := qw5 137 rfl rfl
theorem lkC_127 : Jvm.Cond.code (qmt 127).1 (qmt 127).2.1 (qmt 127).2.2.1 (qmt 127).2.2.2.1 ∈ qTB := qw5 146 rfl rfl
theorem lkM_127 : (Jvm.Cond.instanceMethod ({ cls := "UsedUpModel", name := "visit", desc := "(IIJ)V" } : Jvm.MethodName)) ∈ qTB := qw5 145 rfl rfl
theorem lkE_127 : Jvm.Cond.selects "UsedUpModel" ⟨"UsedUpModel", "visit", "(IIJ)V"⟩ ⟨"UsedUpModel", "visit", "(IIJ)V"⟩ ∈ qTB := qwv 39 rfl rfl
theorem lkC_128 : Jvm.Cond.code (qmt 128).1 (qmt 128).2.1 (qmt 128).2.2.1 (qmt 128).2.2.2.1 ∈ qTB := qw5 142 rfl rfl
theorem lkM_128 : (Jvm.Cond.instanceMethod ({ cls := "UsedUpModel", name := "where", desc := "(I)J" } : Jvm.MethodName)) ∈ qTB := qw5 140 rfl rfl
theorem lkE_128 : (Jvm.Cond.selects "UsedUpModel" ({ cls := "UsedUpModel", name := "where", desc := "(I)J" } : Jvm.MethodName) ({ cls := "UsedUpModel", name := "where", desc := "(I)J" } : Jvm.MethodName)) ∈ qTB := qw5 141 rfl rfl
theorem lkC_129 : Jvm.Cond.code (qmt 129).1 (qmt 129).2.1 (qmt 129).2.2.1 (qmt 129).2.2.2.1 ∈ qTB := qw5 150 rfl rfl
theorem lkM_129 : (Jvm.Cond.instanceMethod ({ cls := "UsedUpModel", name := "ordinary", desc := "(IIII)I" } : Jvm.MethodName)) ∈ qTB := qw5 148 rfl rfl
theorem lkE_129 : (Jvm.Cond.selects "UsedUpModel" ({ cls := "UsedUpModel", name := "ordinary", desc := "(IIII)I" } : Jvm.MethodName) ({ cls := "UsedUpModel", name := "ordinary", desc := "(IIII)I" } : Jvm.MethodName)) ∈ qTB := qw5 149 rfl rfl
theorem lkC_130 : Jvm.Cond.code (qmt 130).1 (qmt 130).2.1 (qmt 130).2.2.1 (qmt 130).2.2.2.1 ∈ qTB := qw5 158 rfl rfl
theorem lkM_130 : (Jvm.Cond.instanceMethod ({ cls := "UsedUpModel", name := "needOf", desc := "(I)J" } : Jvm.MethodName)) ∈ qTB := qw5 157 rfl rfl
theorem lkE_130 : Jvm.Cond.selects "UsedUpModel" ⟨"UsedUpModel", "needOf", "(I)J"⟩ ⟨"UsedUpModel", "needOf", "(I)J"⟩ ∈ qTB := qwv 40 rfl rfl
theorem lkC_131 : Jvm.Cond.code (qmt 131).1 (qmt 131).2.1 (qmt 131).2.2.1 (qmt 131).2.2.2.1 ∈ qTB := qw5 154 rfl rfl
theorem lkM_131 : (Jvm.Cond.instanceMethod ({ cls := "UsedUpModel", name := "need", desc := "(I)J" } : Jvm.MethodName)) ∈ qTB := qw5 152 rfl rfl
theorem lkE_131 : (Jvm.Cond.selects "UsedUpModel" ({ cls := "UsedUpModel", name := "need", desc := "(I)J" } : Jvm.MethodName) ({ cls := "UsedUpModel", name := "need", desc := "(I)J" } : Jvm.MethodName)) ∈ qTB := qw5 153 rfl rfl
theorem lkC_132 : Jvm.Cond.code (qmt 132).1 (qmt 132).2.1 (qmt 132).2.2.1 (qmt 132).2.2.2.1 ∈ qTB := qw5 177 rfl rfl
theorem lkM_132 : (Jvm.Cond.instanceMethod ({ cls := "UsedUpModel", name := "isBelow", desc := "(J)Z" } : Jvm.MethodName)) ∈ qTB := qw5 176 rfl rfl
theorem lkE_132 : Jvm.Cond.selects "UsedUpModel" ⟨"UsedUpModel", "isBelow", "(J)Z"⟩ ⟨"UsedUpModel", "isBelow", "(J)Z"⟩ ∈ qTB := qwv 42 rfl rfl
theorem lkC_133 : Jvm.Cond.code (qmt 133).1 (qmt 133).2.1 (qmt 133).2.2.1 (qmt 133).2.2.2.1 ∈ qTB := qw5 165 rfl rfl
theorem lkS_133 : (Jvm.Cond.static ({ cls := "UsedUpModel", name := "bits", desc := "(I)I" } : Jvm.MethodName)) ∈ qTB := qw5 164 rfl rfl
theorem lkC_134 : Jvm.Cond.code (qmt 134).1 (qmt 134).2.1 (qmt 134).2.2.1 (qmt 134).2.2.2.1 ∈ qTB := qw5 168 rfl rfl
theorem lkS_134 : (Jvm.Cond.static ({ cls := "UsedUpModel", name := "isFirst", desc := "(II)Z" } : Jvm.MethodName)) ∈ qTB := qw5 167 rfl rfl
theorem lkC_135 : Jvm.Cond.code (qmt 135).1 (qmt 135).2.1 (qmt 135).2.2.1 (qmt 135).2.2.2.1 ∈ qTB := qw5 172 rfl rfl
theorem lkM_135 : (Jvm.Cond.instanceMethod ({ cls := "UsedUpModel", name := "put", desc := "(I)Z" } : Jvm.MethodName)) ∈ qTB := qw5 171 rfl rfl
theorem lkE_135 : Jvm.Cond.selects "UsedUpModel" ⟨"UsedUpModel", "put", "(I)Z"⟩ ⟨"UsedUpModel", "put", "(I)Z"⟩ ∈ qTB := qwv 41 rfl rfl
theorem lkC_136 : Jvm.Cond.code (qmt 136).1 (qmt 136).2.1 (qmt 136).2.2.1 (qmt 136).2.2.2.1 ∈ qTB := qw5 162 rfl rfl
theorem lkM_136 : (Jvm.Cond.instanceMethod ({ cls := "UsedUpModel", name := "budgets", desc := "(J)I" } : Jvm.MethodName)) ∈ qTB := qw5 160 rfl rfl
theorem lkE_136 : (Jvm.Cond.selects "UsedUpModel" ({ cls := "UsedUpModel", name := "budgets", desc := "(J)I" } : Jvm.MethodName) ({ cls := "UsedUpModel", name := "budgets", desc := "(J)I" } : Jvm.MethodName)) ∈ qTB := qw5 161 rfl rfl
theorem lkC_137 : Jvm.Cond.code (qmt 137).1 (qmt 137).2.1 (qmt 137).2.2.1 (qmt 137).2.2.2.1 ∈ qTB := qw5 181 rfl rfl
theorem lkM_137 : (Jvm.Cond.instanceMethod ({ cls := "UsedUpModel", name := "cap", desc := "(II)I" } : Jvm.MethodName)) ∈ qTB := qw5 179 rfl rfl
theorem lkE_137 : (Jvm.Cond.selects "UsedUpModel" ({ cls := "UsedUpModel", name := "cap", desc := "(II)I" } : Jvm.MethodName) ({ cls := "UsedUpModel", name := "cap", desc := "(II)I" } : Jvm.MethodName)) ∈ qTB := qw5 180 rfl rfl
theorem lkC_138 : Jvm.Cond.code (qmt 138).1 (qmt 138).2.1 (qmt 138).2.2.1 (qmt 138).2.2.2.1 ∈ qTB := qw5 185 rfl rfl
theorem lkM_138 : (Jvm.Cond.instanceMethod ({ cls := "UsedUpModel", name := "capped", desc := "(I)I" } : Jvm.MethodName)) ∈ qTB := qw5 183 rfl rfl
theorem lkE_138 : (Jvm.Cond.selects "UsedUpModel" ({ cls := "UsedUpModel", name := "capped", desc := "(I)I" } : Jvm.MethodName) ({ cls := "UsedUpModel", name := "capped", desc := "(I)I" } : Jvm.MethodName)) ∈ qTB := qw5 184 rfl rfl
theorem lkC_139 : Jvm.Cond.code (qmt 139).1 (qmt 139).2.1 (qmt 139).2.2.1 (qmt 139).2.2.2.1 ∈ qTB := qw5 198 rfl rfl
theorem lkM_139 : (Jvm.Cond.instanceMethod ({ cls := "UsedUpModel", name := "locksIn", desc := "(II)I" } : Jvm.MethodName)) ∈ qTB := qw5 197 rfl rfl
theorem lkE_139 : Jvm.Cond.selects "UsedUpModel" ⟨"UsedUpModel", "locksIn", "(II)I"⟩ ⟨"UsedUpModel", "locksIn", "(II)I"⟩ ∈ qTB := qwv 44 rfl rfl
theorem lkC_140 : Jvm.Cond.code (qmt 140).1 (qmt 140).2.1 (qmt 140).2.2.1 (qmt 140).2.2.2.1 ∈ qTB := qw5 194 rfl rfl
theorem lkM_140 : (Jvm.Cond.instanceMethod ({ cls := "UsedUpModel", name := "findLocks", desc := "()V" } : Jvm.MethodName)) ∈ qTB := qw5 193 rfl rfl
theorem lkE_140 : Jvm.Cond.selects "UsedUpModel" ⟨"UsedUpModel", "findLocks", "()V"⟩ ⟨"UsedUpModel", "findLocks", "()V"⟩ ∈ qTB := qwv 43 rfl rfl
theorem lkC_141 : Jvm.Cond.code (qmt 141).1 (qmt 141).2.1 (qmt 141).2.2.1 (qmt 141).2.2.2.1 ∈ qTB := qw5 189 rfl rfl
theorem lkM_141 : (Jvm.Cond.instanceMethod ({ cls := "UsedUpModel", name := "ahead", desc := "(II)I" } : Jvm.MethodName)) ∈ qTB := qw5 187 rfl rfl
theorem lkE_141 : (Jvm.Cond.selects "UsedUpModel" ({ cls := "UsedUpModel", name := "ahead", desc := "(II)I" } : Jvm.MethodName) ({ cls := "UsedUpModel", name := "ahead", desc := "(II)I" } : Jvm.MethodName)) ∈ qTB := qw5 188 rfl rfl
theorem lkC_142 : Jvm.Cond.code (qmt 142).1 (qmt 142).2.1 (qmt 142).2.2.1 (qmt 142).2.2.2.1 ∈ qTB := qw5 202 rfl rfl
theorem lkM_142 : (Jvm.Cond.instanceMethod ({ cls := "UsedUpModel", name := "tangled", desc := "()I" } : Jvm.MethodName)) ∈ qTB := qw5 200 rfl rfl
theorem lkE_142 : (Jvm.Cond.selects "UsedUpModel" ({ cls := "UsedUpModel", name := "tangled", desc := "()I" } : Jvm.MethodName) ({ cls := "UsedUpModel", name := "tangled", desc := "()I" } : Jvm.MethodName)) ∈ qTB := qw5 201 rfl rfl
theorem lkC_143 : Jvm.Cond.code (qmt 143).1 (qmt 143).2.1 (qmt 143).2.2.1 (qmt 143).2.2.2.1 ∈ qTB := qw5 210 rfl rfl
theorem lkM_143 : (Jvm.Cond.instanceMethod ({ cls := "UsedUpModel", name := "four", desc := "(I)V" } : Jvm.MethodName)) ∈ qTB := qw5 209 rfl rfl
theorem lkE_143 : Jvm.Cond.selects "UsedUpModel" ⟨"UsedUpModel", "four", "(I)V"⟩ ⟨"UsedUpModel", "four", "(I)V"⟩ ∈ qTB := qwv 45 rfl rfl
theorem lkC_144 : Jvm.Cond.code (qmt 144).1 (qmt 144).2.1 (qmt 144).2.2.1 (qmt 144).2.2.2.1 ∈ qTB := qw5 206 rfl rfl
theorem lkM_144 : (Jvm.Cond.instanceMethod ({ cls := "UsedUpModel", name := "feed", desc := "(IIIII)I" } : Jvm.MethodName)) ∈ qTB := qw5 204 rfl rfl
theorem lkE_144 : (Jvm.Cond.selects "UsedUpModel" ({ cls := "UsedUpModel", name := "feed", desc := "(IIIII)I" } : Jvm.MethodName) ({ cls := "UsedUpModel", name := "feed", desc := "(IIIII)I" } : Jvm.MethodName)) ∈ qTB := qw5 205 rfl rfl
theorem lkC_145 : Jvm.Cond.code (qmt 145).1 (qmt 145).2.1 (qmt 145).2.2.1 (qmt 145).2.2.2.1 ∈ qTB := qw5 214 rfl rfl
theorem lkM_145 : (Jvm.Cond.instanceMethod ({ cls := "UsedUpModel", name := "end", desc := "(I)I" } : Jvm.MethodName)) ∈ qTB := qw5 212 rfl rfl
theorem lkE_145 : (Jvm.Cond.selects "UsedUpModel" ({ cls := "UsedUpModel", name := "end", desc := "(I)I" } : Jvm.MethodName) ({ cls := "UsedUpModel", name := "end", desc := "(I)I" } : Jvm.MethodName)) ∈ qTB := qw5 213 rfl rfl
theorem lkC_146 : Jvm.Cond.code (qmt 146).1 (qmt 146).2.1 (qmt 146).2.2.1 (qmt 146).2.2.2.1 ∈ qTB := qw5 225 rfl rfl
theorem lkS_146 : (Jvm.Cond.static ({ cls := "UsedUpModel", name := "isSmall", desc := "(I)Z" } : Jvm.MethodName)) ∈ qTB := qw5 224 rfl rfl
theorem lkC_147 : Jvm.Cond.code (qmt 147).1 (qmt 147).2.1 (qmt 147).2.2.1 (qmt 147).2.2.2.1 ∈ qTB := qw5 228 rfl rfl
theorem lkS_147 : (Jvm.Cond.static ({ cls := "UsedUpModel", name := "isDigit", desc := "(I)Z" } : Jvm.MethodName)) ∈ qTB := qw5 227 rfl rfl
theorem lkC_148 : Jvm.Cond.code (qmt 148).1 (qmt 148).2.1 (qmt 148).2.2.1 (qmt 148).2.2.2.1 ∈ qTB := qw5 222 rfl rfl
theorem lkM_148 : (Jvm.Cond.instanceMethod ({ cls := "UsedUpModel", name := "next", desc := "()V" } : Jvm.MethodName)) ∈ qTB := qw5 221 rfl rfl
theorem lkE_148 : Jvm.Cond.selects "UsedUpModel" ⟨"UsedUpModel", "next", "()V"⟩ ⟨"UsedUpModel", "next", "()V"⟩ ∈ qTB := qwv 46 rfl rfl
theorem lkC_149 : Jvm.Cond.code (qmt 149).1 (qmt 149).2.1 (qmt 149).2.2.1 (qmt 149).2.2.2.1 ∈ qTB := qw6 8 rfl rfl
theorem lkM_149 : (Jvm.Cond.instanceMethod ({ cls := "UsedUpModel", name := "isWord", desc := "(IIIIII)Z" } : Jvm.MethodName)) ∈ qTB := qw6 7 rfl rfl
theorem lkE_149 : Jvm.Cond.selects "UsedUpModel" ⟨"UsedUpModel", "isWord", "(IIIIII)Z"⟩ ⟨"UsedUpModel", "isWord", "(IIIIII)Z"⟩ ∈ qTB := qwv 50 rfl rfl
theorem lkC_150 : Jvm.Cond.code (qmt 150).1 (qmt 150).2.1 (qmt 150).2.2.1 (qmt 150).2.2.2.1 ∈ qTB := qw5 236 rfl rfl
theorem lkM_150 : (Jvm.Cond.instanceMethod ({ cls := "UsedUpModel", name := "isSign", desc := "(I)Z" } : Jvm.MethodName)) ∈ qTB := qw5 235 rfl rfl
theorem lkE_150 : Jvm.Cond.selects "UsedUpModel" ⟨"UsedUpModel", "isSign", "(I)Z"⟩ ⟨"UsedUpModel", "isSign", "(I)Z"⟩ ∈ qTB := qwv 47 rfl rfl
theorem lkC_151 : Jvm.Cond.code (qmt 151).1 (qmt 151).2.1 (qmt 151).2.2.1 (qmt 151).2.2.2.1 ∈ qTB := qw6 4 rfl rfl
theorem lkM_151 : (Jvm.Cond.instanceMethod ({ cls := "UsedUpModel", name := "must", desc := "(Z)V" } : Jvm.MethodName)) ∈ qTB := qw6 3 rfl rfl
theorem lkE_151 : Jvm.Cond.selects "UsedUpModel" ⟨"UsedUpModel", "must", "(Z)V"⟩ ⟨"UsedUpModel", "must", "(Z)V"⟩ ∈ qTB := qwv 49 rfl rfl
theorem lkC_152 : Jvm.Cond.code (qmt 152).1 (qmt 152).2.1 (qmt 152).2.2.1 (qmt 152).2.2.2.1 ∈ qTB := qw6 40 rfl rfl
theorem lkM_152 : (Jvm.Cond.instanceMethod ({ cls := "UsedUpModel", name := "number", desc := "(J)I" } : Jvm.MethodName)) ∈ qTB := qw6 39 rfl rfl
theorem lkE_152 : Jvm.Cond.selects "UsedUpModel" ⟨"UsedUpModel", "number", "(J)I"⟩ ⟨"UsedUpModel", "number", "(J)I"⟩ ∈ qTB := qwv 58 rfl rfl
theorem lkC_153 : Jvm.Cond.code (qmt 153).1 (qmt 153).2.1 (qmt 153).2.2.1 (qmt 153).2.2.2.1 ∈ qTB := qw6 20 rfl rfl
theorem lkM_153 : (Jvm.Cond.instanceMethod ({ cls := "UsedUpModel", name := "oneOf", desc := "(II)I" } : Jvm.MethodName)) ∈ qTB := qw6 19 rfl rfl
theorem lkE_153 : Jvm.Cond.selects "UsedUpModel" ⟨"UsedUpModel", "oneOf", "(II)I"⟩ ⟨"UsedUpModel", "oneOf", "(II)I"⟩ ∈ qTB := qwv 53 rfl rfl
theorem lkC_154 : Jvm.Cond.code (qmt 154).1 (qmt 154).2.1 (qmt 154).2.2.1 (qmt 154).2.2.2.1 ∈ qTB := qw6 36 rfl rfl
theorem lkM_154 : (Jvm.Cond.instanceMethod ({ cls := "UsedUpModel", name := "readFactor", desc := "(Z)V" } : Jvm.MethodName)) ∈ qTB := qw6 35 rfl rfl
theorem lkE_154 : Jvm.Cond.selects "UsedUpModel" ⟨"UsedUpModel", "readFactor", "(Z)V"⟩ ⟨"UsedUpModel", "readFactor", "(Z)V"⟩ ∈ qTB := qwv 57 rfl rfl
theorem lkC_155 : Jvm.Cond.code (qmt 155).1 (qmt 155).2.1 (qmt 155).2.2.1 (qmt 155).2.2.2.1 ∈ qTB := qw6 32 rfl rfl
theorem lkM_155 : (Jvm.Cond.instanceMethod ({ cls := "UsedUpModel", name := "readAmount", desc := "()V" } : Jvm.MethodName)) ∈ qTB := qw6 31 rfl rfl
theorem lkE_155 : Jvm.Cond.selects "UsedUpModel" ⟨"UsedUpModel", "readAmount", "()V"⟩ ⟨"UsedUpModel", "readAmount", "()V"⟩ ∈ qTB := qwv 56 rfl rfl
theorem lkC_156 : Jvm.Cond.code (qmt 156).1 (qmt 156).2.1 (qmt 156).2.2.1 (qmt 156).2.2.2.1 ∈ qTB := qw6 12 rfl rfl
theorem lkM_156 : (Jvm.Cond.instanceMethod ({ cls := "UsedUpModel", name := "openBlock", desc := "(I)V" } : Jvm.MethodName)) ∈ qTB := qw6 11 rfl rfl
theorem lkE_156 : Jvm.Cond.selects "UsedUpModel" ⟨"UsedUpModel", "openBlock", "(I)V"⟩ ⟨"UsedUpModel", "openBlock", "(I)V"⟩ ∈ qTB := qwv 51 rfl rfl
theorem lkC_157 : Jvm.Cond.code (qmt 157).1 (qmt 157).2.1 (qmt 157).2.2.1 (qmt 157).2.2.2.1 ∈ qTB := qw6 28 rfl rfl
theorem lkM_157 : (Jvm.Cond.instanceMethod ({ cls := "UsedUpModel", name := "kindAt", desc := "()I" } : Jvm.MethodName)) ∈ qTB := qw6 27 rfl rfl
theorem lkE_157 : Jvm.Cond.selects "UsedUpModel" ⟨"UsedUpModel", "kindAt", "()I"⟩ ⟨"UsedUpModel", "kindAt", "()I"⟩ ∈ qTB := qwv 55 rfl rfl
theorem lkC_158 : Jvm.Cond.code (qmt 158).1 (qmt 158).2.1 (qmt 158).2.2.1 (qmt 158).2.2.2.1 ∈ qTB := qw6 24 rfl rfl
theorem lkM_158 : (Jvm.Cond.instanceMethod ({ cls := "UsedUpModel", name := "readStep", desc := "()V" } : Jvm.MethodName)) ∈ qTB := qw6 23 rfl rfl
theorem lkE_158 : Jvm.Cond.selects "UsedUpModel" ⟨"UsedUpModel", "readStep", "()V"⟩ ⟨"UsedUpModel", "readStep", "()V"⟩ ∈ qTB := qwv 54 rfl rfl
theorem lkC_159 : Jvm.Cond.code (qmt 159).1 (qmt 159).2.1 (qmt 159).2.2.1 (qmt 159).2.2.2.1 ∈ qTB := qw6 0 rfl rfl
theorem lkM_159 : (Jvm.Cond.instanceMethod ({ cls := "UsedUpModel", name := "closeBlock", desc := "()V" } : Jvm.MethodName)) ∈ qTB := qw5 239 rfl rfl
theorem lkE_159 : Jvm.Cond.selects "UsedUpModel" ⟨"UsedUpModel", "closeBlock", "()V"⟩ ⟨"UsedUpModel", "closeBlock", "()V"⟩ ∈ qTB := qwv 48 rfl rfl
theorem lkC_160 : Jvm.Cond.code (qmt 160).1 (qmt 160).2.1 (qmt 160).2.2.1 (qmt 160).2.2.2.1 ∈ qTB := qw6 16 rfl rfl
theorem lkM_160 : (Jvm.Cond.instanceMethod ({ cls := "UsedUpModel", name := "readDef", desc := "()V" } : Jvm.MethodName)) ∈ qTB := qw6 15 rfl rfl
theorem lkE_160 : Jvm.Cond.selects "UsedUpModel" ⟨"UsedUpModel", "readDef", "()V"⟩ ⟨"UsedUpModel", "readDef", "()V"⟩ ∈ qTB := qwv 52 rfl rfl
theorem lkC_161 : Jvm.Cond.code (qmt 161).1 (qmt 161).2.1 (qmt 161).2.2.1 (qmt 161).2.2.2.1 ∈ qTB := qw5 218 rfl rfl
theorem lkM_161 : (Jvm.Cond.instanceMethod ({ cls := "UsedUpModel", name := "program", desc := "()I" } : Jvm.MethodName)) ∈ qTB := qw5 216 rfl rfl
theorem lkE_161 : (Jvm.Cond.selects "UsedUpModel" ({ cls := "UsedUpModel", name := "program", desc := "()I" } : Jvm.MethodName) ({ cls := "UsedUpModel", name := "program", desc := "()I" } : Jvm.MethodName)) ∈ qTB := qw5 217 rfl rfl
theorem lkC_162 : Jvm.Cond.code (qmt 162).1 (qmt 162).2.1 (qmt 162).2.2.1 (qmt 162).2.2.2.1 ∈ qTB := qw6 44 rfl rfl
theorem lkM_162 : (Jvm.Cond.instanceMethod ({ cls := "UsedUpModel", name := "adopt", desc := "()V" } : Jvm.MethodName)) ∈ qTB := qw6 43 rfl rfl
theorem lkE_162 : Jvm.Cond.selects "UsedUpModel" ⟨"UsedUpModel", "adopt", "()V"⟩ ⟨"UsedUpModel", "adopt", "()V"⟩ ∈ qTB := qwv 59 rfl rfl
theorem lkC_163 : Jvm.Cond.code (qmt 163).1 (qmt 163).2.1 (qmt 163).2.2.1 (qmt 163).2.2.2.1 ∈ qTB := qw6 48 rfl rfl
theorem lkM_163 : (Jvm.Cond.instanceMethod ({ cls := "UsedUpModel", name := "fault", desc := "()I" } : Jvm.MethodName)) ∈ qTB := qw6 46 rfl rfl
theorem lkE_163 : (Jvm.Cond.selects "UsedUpModel" ({ cls := "UsedUpModel", name := "fault", desc := "()I" } : Jvm.MethodName) ({ cls := "UsedUpModel", name := "fault", desc := "()I" } : Jvm.MethodName)) ∈ qTB := qw6 47 rfl rfl
theorem lkC_164 : Jvm.Cond.code (qmt 164).1 (qmt 164).2.1 (qmt 164).2.2.1 (qmt 164).2.2.2.1 ∈ qTB := qw6 52 rfl rfl
theorem lkM_164 : (Jvm.Cond.instanceMethod ({ cls := "UsedUpModel", name := "count", desc := "(I)I" } : Jvm.MethodName)) ∈ qTB := qw6 50 rfl rfl
theorem lkE_164 : (Jvm.Cond.selects "UsedUpModel" ({ cls := "UsedUpModel", name := "count", desc := "(I)I" } : Jvm.MethodName) ({ cls := "UsedUpModel", name := "count", desc := "(I)I" } : Jvm.MethodName)) ∈ qTB := qw6 51 rfl rfl
theorem lkC_165 : Jvm.Cond.code (qmt 165).1 (qmt 165).2.1 (qmt 165).2.2.1 (qmt 165).2.2.2.1 ∈ qTB := qw6 56 rfl rfl
theorem lkM_165 : (Jvm.Cond.instanceMethod ({ cls := "UsedUpModel", name := "status", desc := "()I" } : Jvm.MethodName)) ∈ qTB := qw6 54 rfl rfl
theorem lkE_165 : (Jvm.Cond.selects "UsedUpModel" ({ cls := "UsedUpModel", name := "status", desc := "()I" } : Jvm.MethodName) ({ cls := "UsedUpModel", name := "status", desc := "()I" } : Jvm.MethodName)) ∈ qTB := qw6 55 rfl rfl
theorem lkC_166 : Jvm.Cond.code (qmt 166).1 (qmt 166).2.1 (qmt 166).2.2.1 (qmt 166).2.2.2.1 ∈ qTB := qw4 70 rfl rfl
theorem lkS_166 : (Jvm.Cond.static ({ cls := "java/lang/Integer", name := "bitCount", desc := "(I)I" } : Jvm.MethodName)) ∈ qTB := qw4 69 rfl rfl
theorem lkC_171 : Jvm.Cond.code (qmt 171).1 (qmt 171).2.1 (qmt 171).2.2.1 (qmt 171).2.2.2.1 ∈ qTB := qw2 175 rfl rfl
theorem lkM_171 : (Jvm.Cond.instanceMethod ({ cls := "java/lang/String", name := "length", desc := "()I" } : Jvm.MethodName)) ∈ qTB := qw2 173 rfl rfl
theorem lkE_171 : (Jvm.Cond.selects "java/lang/String" ({ cls := "java/lang/String", name := "length", desc := "()I" } : Jvm.MethodName) ({ cls := "java/lang/String", name := "length", desc := "()I" } : Jvm.MethodName)) ∈ qTB := qw2 174 rfl rfl
theorem lkC_172 : Jvm.Cond.code (qmt 172).1 (qmt 172).2.1 (qmt 172).2.2.1 (qmt 172).2.2.2.1 ∈ qTB := qw2 185 rfl rfl
theorem lkM_172 : (Jvm.Cond.instanceMethod ({ cls := "java/lang/String", name := "charAt", desc := "(I)C" } : Jvm.MethodName)) ∈ qTB := qw2 183 rfl rfl
theorem lkE_172 : (Jvm.Cond.selects "java/lang/String" ({ cls := "java/lang/String", name := "charAt", desc := "(I)C" } : Jvm.MethodName) ({ cls := "java/lang/String", name := "charAt", desc := "(I)C" } : Jvm.MethodName)) ∈ qTB := qw2 184 rfl rfl
theorem lkI_UsedUp : (Jvm.Cond.initialized "UsedUp") ∈ qTB := qw1 1 rfl rfl
theorem lkI_UsedUp_Asks : (Jvm.Cond.initialized "UsedUp$Asks") ∈ qTB := qw1 8 rfl rfl
theorem lkI_UsedUp_Locks : (Jvm.Cond.initialized "UsedUp$Locks") ∈ qTB := qw1 7 rfl rfl
theorem lkI_UsedUp_Meter : (Jvm.Cond.initialized "UsedUp$Meter") ∈ qTB := qw1 6 rfl rfl
theorem lkI_UsedUp_Planner : (Jvm.Cond.initialized "UsedUp$Planner") ∈ qTB := qw1 9 rfl rfl
theorem lkI_UsedUp_Reader : (Jvm.Cond.initialized "UsedUp$Reader") ∈ qTB := qw1 4 rfl rfl
theorem lkI_UsedUp_Script : (Jvm.Cond.initialized "UsedUp$Script") ∈ qTB := qw1 2 rfl rfl
theorem lkI_UsedUp_Tape : (Jvm.Cond.initialized "UsedUp$Tape") ∈ qTB := qw1 3 rfl rfl
theorem lkI_UsedUp_Tokens : (Jvm.Cond.initialized "UsedUp$Tokens") ∈ qTB := qw1 5 rfl rfl
theorem lkI_UsedUpModel : (Jvm.Cond.initialized "UsedUpModel") ∈ qTB := qw1 10 rfl rfl
theorem lkI_java_lang_Integer : (Jvm.Cond.initialized "java/lang/Integer") ∈ qTB := qw1 16 rfl rfl
theorem lkI_java_lang_Math : (Jvm.Cond.initialized "java/lang/Math") ∈ qTB := qw1 11 rfl rfl
theorem lkI_java_lang_String : (Jvm.Cond.initialized "java/lang/String") ∈ qTB := qw1 12 rfl rfl
theorem lkI_java_lang_StringLatin1 : (Jvm.Cond.initialized "java/lang/StringLatin1") ∈ qTB := qw1 13 rfl rfl
theorem lkI_java_lang_StringUTF16 : (Jvm.Cond.initialized "java/lang/StringUTF16") ∈ qTB := qw1 15 rfl rfl
theorem lkI_jdk_internal_util_Preconditions : (Jvm.Cond.initialized "jdk/internal/util/Preconditions") ∈ qTB := qw1 14 rfl rfl
theorem lkL_UsedUpLaw_9 : (Jvm.Cond.methodLink "UsedUpLaw" (9 : Nat) ({ cls := "UsedUp", name := "<init>", desc := "()V" } : Jvm.MethodName)) ∈ qTB := qw1 19 rfl rfl
theorem lkL_UsedUp_3 : (Jvm.Cond.methodLink "UsedUp" (3 : Nat) ({ cls := "java/lang/Object", name := "<init>", desc := "()V" } : Jvm.MethodName)) ∈ qTB := qw1 22 rfl rfl
theorem lkN_UsedUp_11 : (Jvm.Cond.methodLinkNest "UsedUp" (11 : Nat) ({ cls := "UsedUp$Script", name := "<init>", desc := "()V" } : Jvm.MethodName) "UsedUp") ∈ qnest := qn1 27 rfl rfl
theorem lkL_UsedUp_Script_3 : (Jvm.Cond.methodLink "UsedUp$Script" (3 : Nat) ({ cls := "java/lang/Object", name := "<init>", desc := "()V" } : Jvm.MethodName)) ∈ qTB := qw1 30 rfl rfl
theorem lkF_UsedUp_Script_9 : (Jvm.Cond.fieldLink "UsedUp$Script" (9 : Nat) "UsedUp$Script" "steps" "I") ∈ qTB := qw1 31 rfl rfl
theorem lkF_UsedUp_Meter_48 : (Jvm.Cond.fieldLink "UsedUp$Meter" (48 : Nat) "UsedUp$Script" "steps" "I") ∈ qTB := qw1 32 rfl rfl
theorem lkF_UsedUp_Reader_126 : (Jvm.Cond.fieldLink "UsedUp$Reader" (126 : Nat) "UsedUp$Script" "steps" "I") ∈ qTB := qw1 33 rfl rfl
theorem lkF_UsedUp_204 : (Jvm.Cond.fieldLink "UsedUp" (204 : Nat) "UsedUp$Script" "steps" "I") ∈ qTB := qw1 34 rfl rfl
theorem lkF_UsedUp_Script_15 : (Jvm.Cond.fieldLink "UsedUp$Script" (15 : Nat) "UsedUp$Script" "places" "I") ∈ qTB := qw1 35 rfl rfl
theorem lkF_UsedUp_Planner_82 : (Jvm.Cond.fieldLink "UsedUp$Planner" (82 : Nat) "UsedUp$Script" "places" "I") ∈ qTB := qw1 36 rfl rfl
theorem lkF_UsedUp_127 : (Jvm.Cond.fieldLink "UsedUp" (127 : Nat) "UsedUp$Script" "places" "I") ∈ qTB := qw1 37 rfl rfl
theorem lkF_UsedUp_Reader_129 : (Jvm.Cond.fieldLink "UsedUp$Reader" (129 : Nat) "UsedUp$Script" "places" "I") ∈ qTB := qw1 38 rfl rfl
theorem lkF_UsedUp_Script_18 : (Jvm.Cond.fieldLink "UsedUp$Script" (18 : Nat) "UsedUp$Script" "defs" "I") ∈ qTB := qw1 39 rfl rfl
theorem lkF_UsedUp_Meter_34 : (Jvm.Cond.fieldLink "UsedUp$Meter" (34 : Nat) "UsedUp$Script" "defs" "I") ∈ qTB := qw1 40 rfl rfl
theorem lkF_UsedUp_Locks_29 : (Jvm.Cond.fieldLink "UsedUp$Locks" (29 : Nat) "UsedUp$Script" "defs" "I") ∈ qTB := qw1 41 rfl rfl
theorem lkF_UsedUp_Reader_111 : (Jvm.Cond.fieldLink "UsedUp$Reader" (111 : Nat) "UsedUp$Script" "defs" "I") ∈ qTB := qw1 42 rfl rfl
theorem lkF_UsedUp_211 : (Jvm.Cond.fieldLink "UsedUp" (211 : Nat) "UsedUp$Script" "defs" "I") ∈ qTB := qw1 43 rfl rfl
theorem lkF_UsedUp_Script_21 : (Jvm.Cond.fieldLink "UsedUp$Script" (21 : Nat) "UsedUp$Script" "factors" "I") ∈ qTB := qw1 44 rfl rfl
theorem lkF_UsedUp_Script_24 : (Jvm.Cond.fieldLink "UsedUp$Script" (24 : Nat) "UsedUp$Script" "partStarts" "[I") ∈ qTB := qw1 45 rfl rfl
theorem lkF_UsedUp_Locks_49 : (Jvm.Cond.fieldLink "UsedUp$Locks" (49 : Nat) "UsedUp$Script" "partStarts" "[I") ∈ qTB := qw1 46 rfl rfl
theorem lkF_UsedUp_Meter_75 : (Jvm.Cond.fieldLink "UsedUp$Meter" (75 : Nat) "UsedUp$Script" "partStarts" "[I") ∈ qTB := qw1 47 rfl rfl
theorem lkF_UsedUp_Script_28 : (Jvm.Cond.fieldLink "UsedUp$Script" (28 : Nat) "UsedUp$Script" "placeSteps" "[I") ∈ qTB := qw1 48 rfl rfl
theorem lkF_UsedUp_Planner_47 : (Jvm.Cond.fieldLink "UsedUp$Planner" (47 : Nat) "UsedUp$Script" "placeSteps" "[I") ∈ qTB := qw1 49 rfl rfl
theorem lkF_UsedUp_Meter_128 : (Jvm.Cond.fieldLink "UsedUp$Meter" (128 : Nat) "UsedUp$Script" "placeSteps" "[I") ∈ qTB := qw1 50 rfl rfl
theorem lkF_UsedUp_Script_31 : (Jvm.Cond.fieldLink "UsedUp$Script" (31 : Nat) "UsedUp$Script" "kinds" "[I") ∈ qTB := qw1 51 rfl rfl
theorem lkF_UsedUp_Meter_51 : (Jvm.Cond.fieldLink "UsedUp$Meter" (51 : Nat) "UsedUp$Script" "kinds" "[I") ∈ qTB := qw1 52 rfl rfl
theorem lkF_UsedUp_Locks_66 : (Jvm.Cond.fieldLink "UsedUp$Locks" (66 : Nat) "UsedUp$Script" "kinds" "[I") ∈ qTB := qw1 53 rfl rfl
theorem lkF_UsedUp_Reader_117 : (Jvm.Cond.fieldLink "UsedUp$Reader" (117 : Nat) "UsedUp$Script" "kinds" "[I") ∈ qTB := qw1 54 rfl rfl
theorem lkF_UsedUp_Script_34 : (Jvm.Cond.fieldLink "UsedUp$Script" (34 : Nat) "UsedUp$Script" "parents" "[I") ∈ qTB := qw1 55 rfl rfl
theorem lkF_UsedUp_Meter_91 : (Jvm.Cond.fieldLink "UsedUp$Meter" (91 : Nat) "UsedUp$Script" "parents" "[I") ∈ qTB := qw1 56 rfl rfl
theorem lkF_UsedUp_Locks_72 : (Jvm.Cond.fieldLink "UsedUp$Locks" (72 : Nat) "UsedUp$Script" "parents" "[I") ∈ qTB := qw1 57 rfl rfl
theorem lkF_UsedUp_Script_37 : (Jvm.Cond.fieldLink "UsedUp$Script" (37 : Nat) "UsedUp$Script" "blocks" "[I") ∈ qTB := qw1 58 rfl rfl
theorem lkF_UsedUp_Meter_105 : (Jvm.Cond.fieldLink "UsedUp$Meter" (105 : Nat) "UsedUp$Script" "blocks" "[I") ∈ qTB := qw1 59 rfl rfl
theorem lkF_UsedUp_Script_40 : (Jvm.Cond.fieldLink "UsedUp$Script" (40 : Nat) "UsedUp$Script" "values" "[I") ∈ qTB := qw1 60 rfl rfl
theorem lkF_UsedUp_Meter_59 : (Jvm.Cond.fieldLink "UsedUp$Meter" (59 : Nat) "UsedUp$Script" "values" "[I") ∈ qTB := qw1 61 rfl rfl
theorem lkF_UsedUp_Locks_69 : (Jvm.Cond.fieldLink "UsedUp$Locks" (69 : Nat) "UsedUp$Script" "values" "[I") ∈ qTB := qw1 62 rfl rfl
theorem lkF_UsedUp_Script_43 : (Jvm.Cond.fieldLink "UsedUp$Script" (43 : Nat) "UsedUp$Script" "ifNames" "[I") ∈ qTB := qw1 63 rfl rfl
theorem lkF_UsedUp_Script_46 : (Jvm.Cond.fieldLink "UsedUp$Script" (46 : Nat) "UsedUp$Script" "amountStarts" "[I") ∈ qTB := qw1 64 rfl rfl
theorem lkF_UsedUp_Script_49 : (Jvm.Cond.fieldLink "UsedUp$Script" (49 : Nat) "UsedUp$Script" "amountEnds" "[I") ∈ qTB := qw1 65 rfl rfl
theorem lkF_UsedUp_Script_52 : (Jvm.Cond.fieldLink "UsedUp$Script" (52 : Nat) "UsedUp$Script" "factorKinds" "[I") ∈ qTB := qw1 66 rfl rfl
theorem lkF_UsedUp_Script_55 : (Jvm.Cond.fieldLink "UsedUp$Script" (55 : Nat) "UsedUp$Script" "factorValues" "[I") ∈ qTB := qw1 67 rfl rfl
theorem lkF_UsedUp_Script_58 : (Jvm.Cond.fieldLink "UsedUp$Script" (58 : Nat) "UsedUp$Script" "factorOpens" "[I") ∈ qTB := qw1 68 rfl rfl
theorem lkF_UsedUp_Script_61 : (Jvm.Cond.fieldLink "UsedUp$Script" (61 : Nat) "UsedUp$Script" "usedNames" "I") ∈ qTB := qw1 69 rfl rfl
theorem lkF_UsedUp_Asks_32 : (Jvm.Cond.fieldLink "UsedUp$Asks" (32 : Nat) "UsedUp$Script" "usedNames" "I") ∈ qTB := qw1 70 rfl rfl
theorem lkN_UsedUp_21 : (Jvm.Cond.methodLinkNest "UsedUp" (21 : Nat) ({ cls := "UsedUp$Tape", name := "<init>", desc := "()V" } : Jvm.MethodName) "UsedUp") ∈ qnest := qn1 109 rfl rfl
theorem lkL_UsedUp_Tape_3 : (Jvm.Cond.methodLink "UsedUp$Tape" (3 : Nat) ({ cls := "java/lang/Object", name := "<init>", desc := "()V" } : Jvm.MethodName)) ∈ qTB := qw1 112 rfl rfl
theorem lkF_UsedUp_Tape_9 : (Jvm.Cond.fieldLink "UsedUp$Tape" (9 : Nat) "UsedUp$Tape" "bytes" "[I") ∈ qTB := qw1 113 rfl rfl
theorem lkF_UsedUp_Tokens_30 : (Jvm.Cond.fieldLink "UsedUp$Tokens" (30 : Nat) "UsedUp$Tape" "bytes" "[I") ∈ qTB := qw1 114 rfl rfl
theorem lkF_UsedUp_Tape_15 : (Jvm.Cond.fieldLink "UsedUp$Tape" (15 : Nat) "UsedUp$Tape" "length" "I") ∈ qTB := qw1 115 rfl rfl
theorem lkF_UsedUp_Tokens_25 : (Jvm.Cond.fieldLink "UsedUp$Tokens" (25 : Nat) "UsedUp$Tape" "length" "I") ∈ qTB := qw1 116 rfl rfl
theorem lkF_UsedUp_116 : (Jvm.Cond.fieldLink "UsedUp" (116 : Nat) "UsedUp$Tape" "length" "I") ∈ qTB := qw1 117 rfl rfl
theorem lkL_UsedUp_28 : (Jvm.Cond.methodLink "UsedUp" (28 : Nat) ({ cls := "UsedUp$Reader", name := "<init>", desc := "(LUsedUp$Tape;LUsedUp$Script;)V" } : Jvm.MethodName)) ∈ qTB := qw1 125 rfl rfl
theorem lkL_UsedUp_Reader_3 : (Jvm.Cond.methodLink "UsedUp$Reader" (3 : Nat) ({ cls := "java/lang/Object", name := "<init>", desc := "()V" } : Jvm.MethodName)) ∈ qTB := qw1 128 rfl rfl
theorem lkL_UsedUp_Reader_34 : (Jvm.Cond.methodLink "UsedUp$Reader" (34 : Nat) ({ cls := "UsedUp$Tokens", name := "<init>", desc := "(LUsedUp$Tape;)V" } : Jvm.MethodName)) ∈ qTB := qw1 131 rfl rfl
theorem lkL_UsedUp_Tokens_3 : (Jvm.Cond.methodLink "UsedUp$Tokens" (3 : Nat) ({ cls := "java/lang/Object", name := "<init>", desc := "()V" } : Jvm.MethodName)) ∈ qTB := qw1 134 rfl rfl
theorem lkF_UsedUp_Tokens_18 : (Jvm.Cond.fieldLink "UsedUp$Tokens" (18 : Nat) "UsedUp$Tokens" "tape" "LUsedUp$Tape;") ∈ qTB := qw1 135 rfl rfl
theorem lkF_UsedUp_Tokens_9 : (Jvm.Cond.fieldLink "UsedUp$Tokens" (9 : Nat) "UsedUp$Tokens" "from" "I") ∈ qTB := qw1 136 rfl rfl
theorem lkF_UsedUp_Reader_81 : (Jvm.Cond.fieldLink "UsedUp$Reader" (81 : Nat) "UsedUp$Tokens" "from" "I") ∈ qTB := qw1 137 rfl rfl
theorem lkF_UsedUp_Tokens_15 : (Jvm.Cond.fieldLink "UsedUp$Tokens" (15 : Nat) "UsedUp$Tokens" "to" "I") ∈ qTB := qw1 138 rfl rfl
theorem lkF_UsedUp_Reader_37 : (Jvm.Cond.fieldLink "UsedUp$Reader" (37 : Nat) "UsedUp$Reader" "tokens" "LUsedUp$Tokens;") ∈ qTB := qw1 146 rfl rfl
theorem lkF_UsedUp_Reader_41 : (Jvm.Cond.fieldLink "UsedUp$Reader" (41 : Nat) "UsedUp$Reader" "into" "LUsedUp$Script;") ∈ qTB := qw1 147 rfl rfl
theorem lkF_UsedUp_Reader_9 : (Jvm.Cond.fieldLink "UsedUp$Reader" (9 : Nat) "UsedUp$Reader" "openSteps" "[I") ∈ qTB := qw1 148 rfl rfl
theorem lkF_UsedUp_Reader_15 : (Jvm.Cond.fieldLink "UsedUp$Reader" (15 : Nat) "UsedUp$Reader" "openBlocks" "[I") ∈ qTB := qw1 149 rfl rfl
theorem lkF_UsedUp_Reader_18 : (Jvm.Cond.fieldLink "UsedUp$Reader" (18 : Nat) "UsedUp$Reader" "open" "I") ∈ qTB := qw1 150 rfl rfl
theorem lkF_UsedUp_Reader_22 : (Jvm.Cond.fieldLink "UsedUp$Reader" (22 : Nat) "UsedUp$Reader" "bare" "Z") ∈ qTB := qw1 151 rfl rfl
theorem lkF_UsedUp_Reader_26 : (Jvm.Cond.fieldLink "UsedUp$Reader" (26 : Nat) "UsedUp$Reader" "defParts" "[I") ∈ qTB := qw1 152 rfl rfl
theorem lkF_UsedUp_Reader_29 : (Jvm.Cond.fieldLink "UsedUp$Reader" (29 : Nat) "UsedUp$Reader" "letter" "I") ∈ qTB := qw1 153 rfl rfl
theorem lkN_UsedUp_37 : (Jvm.Cond.methodLinkNest "UsedUp" (37 : Nat) ({ cls := "UsedUp$Meter", name := "<init>", desc := "()V" } : Jvm.MethodName) "UsedUp") ∈ qnest := qn1 173 rfl rfl
theorem lkL_UsedUp_Meter_3 : (Jvm.Cond.methodLink "UsedUp$Meter" (3 : Nat) ({ cls := "java/lang/Object", name := "<init>", desc := "()V" } : Jvm.MethodName)) ∈ qTB := qw1 176 rfl rfl
theorem lkF_UsedUp_Meter_9 : (Jvm.Cond.fieldLink "UsedUp$Meter" (9 : Nat) "UsedUp$Meter" "figures" "[J") ∈ qTB := qw1 177 rfl rfl
theorem lkF_UsedUp_Meter_15 : (Jvm.Cond.fieldLink "UsedUp$Meter" (15 : Nat) "UsedUp$Meter" "inside" "[J") ∈ qTB := qw1 178 rfl rfl
theorem lkF_UsedUp_Meter_18 : (Jvm.Cond.fieldLink "UsedUp$Meter" (18 : Nat) "UsedUp$Meter" "whole" "[J") ∈ qTB := qw1 179 rfl rfl
theorem lkF_UsedUp_Meter_21 : (Jvm.Cond.fieldLink "UsedUp$Meter" (21 : Nat) "UsedUp$Meter" "partBrings" "[J") ∈ qTB := qw1 180 rfl rfl
theorem lkF_UsedUp_Meter_24 : (Jvm.Cond.fieldLink "UsedUp$Meter" (24 : Nat) "UsedUp$Meter" "comings" "[J") ∈ qTB := qw1 181 rfl rfl
theorem lkF_UsedUp_Meter_27 : (Jvm.Cond.fieldLink "UsedUp$Meter" (27 : Nat) "UsedUp$Meter" "partComings" "[J") ∈ qTB := qw1 182 rfl rfl
theorem lkN_UsedUp_44 : (Jvm.Cond.methodLinkNest "UsedUp" (44 : Nat) ({ cls := "UsedUp$Locks", name := "<init>", desc := "()V" } : Jvm.MethodName) "UsedUp") ∈ qnest := qn1 199 rfl rfl
theorem lkL_UsedUp_Locks_3 : (Jvm.Cond.methodLink "UsedUp$Locks" (3 : Nat) ({ cls := "java/lang/Object", name := "<init>", desc := "()V" } : Jvm.MethodName)) ∈ qTB := qw1 202 rfl rfl
theorem lkF_UsedUp_Locks_9 : (Jvm.Cond.fieldLink "UsedUp$Locks" (9 : Nat) "UsedUp$Locks" "heldAhead" "[I") ∈ qTB := qw1 203 rfl rfl
theorem lkF_UsedUp_198 : (Jvm.Cond.fieldLink "UsedUp" (198 : Nat) "UsedUp$Locks" "heldAhead" "[I") ∈ qTB := qw1 204 rfl rfl
theorem lkF_UsedUp_Locks_15 : (Jvm.Cond.fieldLink "UsedUp$Locks" (15 : Nat) "UsedUp$Locks" "ledBack" "I") ∈ qTB := qw1 205 rfl rfl
theorem lkF_UsedUp_201 : (Jvm.Cond.fieldLink "UsedUp" (201 : Nat) "UsedUp$Locks" "ledBack" "I") ∈ qTB := qw1 206 rfl rfl
theorem lkF_UsedUp_Locks_19 : (Jvm.Cond.fieldLink "UsedUp$Locks" (19 : Nat) "UsedUp$Locks" "partLocks" "[I") ∈ qTB := qw1 207 rfl rfl
theorem lkF_UsedUp_Locks_22 : (Jvm.Cond.fieldLink "UsedUp$Locks" (22 : Nat) "UsedUp$Locks" "leadsTo" "[I") ∈ qTB := qw1 208 rfl rfl
theorem lkL_UsedUp_51 : (Jvm.Cond.methodLink "UsedUp" (51 : Nat) ({ cls := "UsedUp$Asks", name := "<init>", desc := "()V" } : Jvm.MethodName)) ∈ qTB := qw1 220 rfl rfl
theorem lkL_UsedUp_Asks_3 : (Jvm.Cond.methodLink "UsedUp$Asks" (3 : Nat) ({ cls := "java/lang/Object", name := "<init>", desc := "()V" } : Jvm.MethodName)) ∈ qTB := qw1 223 rfl rfl
theorem lkN_UsedUp_Asks_24 : (Jvm.Cond.methodLinkNest "UsedUp$Asks" (24 : Nat) ({ cls := "UsedUp", name := "fillWith", desc := "([II)V" } : Jvm.MethodName) "UsedUp") ∈ qnest := qn1 224 rfl rfl
theorem lkF_UsedUp_Asks_9 : (Jvm.Cond.fieldLink "UsedUp$Asks" (9 : Nat) "UsedUp$Asks" "sizes" "[I") ∈ qTB := qw1 227 rfl rfl
theorem lkF_UsedUp_Asks_15 : (Jvm.Cond.fieldLink "UsedUp$Asks" (15 : Nat) "UsedUp$Asks" "weights" "[I") ∈ qTB := qw1 228 rfl rfl
theorem lkF_UsedUp_Asks_18 : (Jvm.Cond.fieldLink "UsedUp$Asks" (18 : Nat) "UsedUp$Asks" "reach" "[I") ∈ qTB := qw1 229 rfl rfl
theorem lkF_UsedUp_Asks_21 : (Jvm.Cond.fieldLink "UsedUp$Asks" (21 : Nat) "UsedUp$Asks" "numbers" "[I") ∈ qTB := qw1 230 rfl rfl
theorem lkF_UsedUp_Planner_118 : (Jvm.Cond.fieldLink "UsedUp$Planner" (118 : Nat) "UsedUp$Asks" "numbers" "[I") ∈ qTB := qw1 231 rfl rfl
theorem lkF_UsedUp_165 : (Jvm.Cond.fieldLink "UsedUp" (165 : Nat) "UsedUp$Asks" "numbers" "[I") ∈ qTB := qw1 232 rfl rfl
theorem lkL_UsedUp_58 : (Jvm.Cond.methodLink "UsedUp" (58 : Nat) ({ cls := "UsedUp$Planner", name := "<init>", desc := "(LUsedUp$Meter;LUsedUp$Asks;)V" } : Jvm.MethodName)) ∈ qTB := qw2 4 rfl rfl
theorem lkL_UsedUp_Planner_3 : (Jvm.Cond.methodLink "UsedUp$Planner" (3 : Nat) ({ cls := "java/lang/Object", name := "<init>", desc := "()V" } : Jvm.MethodName)) ∈ qTB := qw2 7 rfl rfl
theorem lkF_UsedUp_Planner_35 : (Jvm.Cond.fieldLink "UsedUp$Planner" (35 : Nat) "UsedUp$Planner" "meter" "LUsedUp$Meter;") ∈ qTB := qw2 8 rfl rfl
theorem lkF_UsedUp_Planner_39 : (Jvm.Cond.fieldLink "UsedUp$Planner" (39 : Nat) "UsedUp$Planner" "asks" "LUsedUp$Asks;") ∈ qTB := qw2 9 rfl rfl
theorem lkF_UsedUp_Planner_9 : (Jvm.Cond.fieldLink "UsedUp$Planner" (9 : Nat) "UsedUp$Planner" "ordinaries" "[I") ∈ qTB := qw2 10 rfl rfl
theorem lkF_UsedUp_Planner_15 : (Jvm.Cond.fieldLink "UsedUp$Planner" (15 : Nat) "UsedUp$Planner" "ordinaryCount" "I") ∈ qTB := qw2 11 rfl rfl
theorem lkF_UsedUp_174 : (Jvm.Cond.fieldLink "UsedUp" (174 : Nat) "UsedUp$Planner" "ordinaryCount" "I") ∈ qTB := qw2 12 rfl rfl
theorem lkF_UsedUp_Planner_19 : (Jvm.Cond.fieldLink "UsedUp$Planner" (19 : Nat) "UsedUp$Planner" "ordinaryAsk" "[I") ∈ qTB := qw2 13 rfl rfl
theorem lkF_UsedUp_Planner_22 : (Jvm.Cond.fieldLink "UsedUp$Planner" (22 : Nat) "UsedUp$Planner" "needs" "[J") ∈ qTB := qw2 14 rfl rfl
theorem lkF_UsedUp_Planner_26 : (Jvm.Cond.fieldLink "UsedUp$Planner" (26 : Nat) "UsedUp$Planner" "trialCaps" "[I") ∈ qTB := qw2 15 rfl rfl
theorem lkF_UsedUp_Planner_29 : (Jvm.Cond.fieldLink "UsedUp$Planner" (29 : Nat) "UsedUp$Planner" "risky" "[I") ∈ qTB := qw2 16 rfl rfl
theorem lkF_UsedUp_Planner_32 : (Jvm.Cond.fieldLink "UsedUp$Planner" (32 : Nat) "UsedUp$Planner" "riskyCount" "I") ∈ qTB := qw2 17 rfl rfl
theorem lkL_UsedUp_89 : (Jvm.Cond.methodLink "UsedUp" (89 : Nat) ({ cls := "UsedUp", name := "fillWith", desc := "([II)V" } : Jvm.MethodName)) ∈ qTB := qw2 37 rfl rfl
theorem lkF_UsedUp_12 : (Jvm.Cond.fieldLink "UsedUp" (12 : Nat) "UsedUp" "script" "LUsedUp$Script;") ∈ qTB := qw2 38 rfl rfl
theorem lkF_UsedUp_16 : (Jvm.Cond.fieldLink "UsedUp" (16 : Nat) "UsedUp" "spare" "LUsedUp$Script;") ∈ qTB := qw2 39 rfl rfl
theorem lkF_UsedUp_22 : (Jvm.Cond.fieldLink "UsedUp" (22 : Nat) "UsedUp" "tape" "LUsedUp$Tape;") ∈ qTB := qw2 40 rfl rfl
theorem lkF_UsedUp_31 : (Jvm.Cond.fieldLink "UsedUp" (31 : Nat) "UsedUp" "reader" "LUsedUp$Reader;") ∈ qTB := qw2 41 rfl rfl
theorem lkF_UsedUp_38 : (Jvm.Cond.fieldLink "UsedUp" (38 : Nat) "UsedUp" "meter" "LUsedUp$Meter;") ∈ qTB := qw2 42 rfl rfl
theorem lkF_UsedUp_45 : (Jvm.Cond.fieldLink "UsedUp" (45 : Nat) "UsedUp" "locks" "LUsedUp$Locks;") ∈ qTB := qw2 43 rfl rfl
theorem lkF_UsedUp_52 : (Jvm.Cond.fieldLink "UsedUp" (52 : Nat) "UsedUp" "asks" "LUsedUp$Asks;") ∈ qTB := qw2 44 rfl rfl
theorem lkF_UsedUp_61 : (Jvm.Cond.fieldLink "UsedUp" (61 : Nat) "UsedUp" "planner" "LUsedUp$Planner;") ∈ qTB := qw2 45 rfl rfl
theorem lkF_UsedUp_65 : (Jvm.Cond.fieldLink "UsedUp" (65 : Nat) "UsedUp" "hasProgram" "Z") ∈ qTB := qw2 46 rfl rfl
theorem lkF_UsedUp_69 : (Jvm.Cond.fieldLink "UsedUp" (69 : Nat) "UsedUp" "caps" "[I") ∈ qTB := qw2 47 rfl rfl
theorem lkF_UsedUp_73 : (Jvm.Cond.fieldLink "UsedUp" (73 : Nat) "UsedUp" "latest" "[I") ∈ qTB := qw2 48 rfl rfl
theorem lkF_UsedUp_76 : (Jvm.Cond.fieldLink "UsedUp" (76 : Nat) "UsedUp" "hasLatest" "Z") ∈ qTB := qw2 49 rfl rfl
theorem lkF_UsedUp_79 : (Jvm.Cond.fieldLink "UsedUp" (79 : Nat) "UsedUp" "given" "[I") ∈ qTB := qw2 50 rfl rfl
theorem lkF_UsedUp_82 : (Jvm.Cond.fieldLink "UsedUp" (82 : Nat) "UsedUp" "faultPlace" "I") ∈ qTB := qw2 51 rfl rfl
theorem lkF_UsedUp_86 : (Jvm.Cond.fieldLink "UsedUp" (86 : Nat) "UsedUp" "refusal" "I") ∈ qTB := qw2 52 rfl rfl
theorem lkL_UsedUpLaw_13 : (Jvm.Cond.methodLink "UsedUpLaw" (13 : Nat) ({ cls := "UsedUp", name := "name", desc := "(III)I" } : Jvm.MethodName)) ∈ qTB := qw2 84 rfl rfl
theorem lkL_UsedUp_93 : (Jvm.Cond.methodLink "UsedUp" (93 : Nat) ({ cls := "UsedUp", name := "within", desc := "(II)Z" } : Jvm.MethodName)) ∈ qTB := qw2 88 rfl rfl
theorem lkL_UsedUp_97 : (Jvm.Cond.methodLink "UsedUp" (97 : Nat) ({ cls := "UsedUp", name := "refuse", desc := "(I)I" } : Jvm.MethodName)) ∈ qTB := qw2 91 rfl rfl
theorem lkL_UsedUp_101 : (Jvm.Cond.methodLink "UsedUp" (101 : Nat) ({ cls := "UsedUp$Asks", name := "describe", desc := "(III)V" } : Jvm.MethodName)) ∈ qTB := qw2 95 rfl rfl
theorem lkN_UsedUp_Asks_28 : (Jvm.Cond.methodLinkNest "UsedUp$Asks" (28 : Nat) ({ cls := "UsedUp", name := "put", desc := "([III)V" } : Jvm.MethodName) "UsedUp") ∈ qnest := qn2 99 rfl rfl
theorem lkL_UsedUp_105 : (Jvm.Cond.methodLink "UsedUp" (105 : Nat) ({ cls := "UsedUp", name := "accept", desc := "(I)I" } : Jvm.MethodName)) ∈ qTB := qw2 102 rfl rfl
theorem lkL_UsedUpLaw_18 : (Jvm.Cond.methodLink "UsedUpLaw" (18 : Nat) ({ cls := "UsedUp", name := "feed", desc := "(IIIII)I" } : Jvm.MethodName)) ∈ qTB := qw2 106 rfl rfl
theorem lkL_UsedUp_108 : (Jvm.Cond.methodLink "UsedUp" (108 : Nat) ({ cls := "UsedUp$Tape", name := "hasSpaceFor", desc := "(I)Z" } : Jvm.MethodName)) ∈ qTB := qw2 110 rfl rfl
theorem lkL_UsedUp_112 : (Jvm.Cond.methodLink "UsedUp" (112 : Nat) ({ cls := "UsedUp$Tape", name := "append", desc := "(I)V" } : Jvm.MethodName)) ∈ qTB := qw2 114 rfl rfl
theorem lkN_UsedUp_Tape_19 : (Jvm.Cond.methodLinkNest "UsedUp$Tape" (19 : Nat) ({ cls := "UsedUp", name := "put", desc := "([III)V" } : Jvm.MethodName) "UsedUp") ∈ qnest := qn2 118 rfl rfl
theorem lkL_UsedUpLaw_23 : (Jvm.Cond.methodLink "UsedUpLaw" (23 : Nat) ({ cls := "UsedUp", name := "end", desc := "(I)I" } : Jvm.MethodName)) ∈ qTB := qw2 119 rfl rfl
theorem lkL_UsedUpLaw_28 : (Jvm.Cond.methodLink "UsedUpLaw" (28 : Nat) ({ cls := "UsedUp", name := "program", desc := "()I" } : Jvm.MethodName)) ∈ qTB := qw2 123 rfl rfl
theorem lkL_UsedUp_119 : (Jvm.Cond.methodLink "UsedUp" (119 : Nat) ({ cls := "UsedUp$Reader", name := "read", desc := "(LUsedUp$Script;)I" } : Jvm.MethodName)) ∈ qTB := qw2 127 rfl rfl
theorem lkL_UsedUp_Reader_45 : (Jvm.Cond.methodLink "UsedUp$Reader" (45 : Nat) ({ cls := "UsedUp$Script", name := "clear", desc := "()V" } : Jvm.MethodName)) ∈ qTB := qw2 131 rfl rfl
theorem lkN_UsedUp_Script_64 : (Jvm.Cond.methodLinkNest "UsedUp$Script" (64 : Nat) ({ cls := "UsedUp", name := "fillWith", desc := "([II)V" } : Jvm.MethodName) "UsedUp") ∈ qnest := qn2 135 rfl rfl
theorem lkN_UsedUp_Reader_50 : (Jvm.Cond.methodLinkNest "UsedUp$Reader" (50 : Nat) ({ cls := "UsedUp", name := "fillWith", desc := "([II)V" } : Jvm.MethodName) "UsedUp") ∈ qnest := qn2 136 rfl rfl
theorem lkL_UsedUp_Reader_54 : (Jvm.Cond.methodLink "UsedUp$Reader" (54 : Nat) ({ cls := "UsedUp$Tokens", name := "start", desc := "()V" } : Jvm.MethodName)) ∈ qTB := qw2 137 rfl rfl
theorem lkL_UsedUp_Tokens_22 : (Jvm.Cond.methodLink "UsedUp$Tokens" (22 : Nat) ({ cls := "UsedUp$Tokens", name := "advance", desc := "()V" } : Jvm.MethodName)) ∈ qTB := qw2 141 rfl rfl
theorem lkN_UsedUp_Tokens_34 : (Jvm.Cond.methodLinkNest "UsedUp$Tokens" (34 : Nat) ({ cls := "UsedUp", name := "at", desc := "([II)I" } : Jvm.MethodName) "UsedUp") ∈ qnest := qn2 145 rfl rfl
theorem lkL_UsedUp_Tokens_38 : (Jvm.Cond.methodLink "UsedUp$Tokens" (38 : Nat) ({ cls := "UsedUp$Tokens", name := "sortOf", desc := "(I)I" } : Jvm.MethodName)) ∈ qTB := qw2 148 rfl rfl
theorem lkL_UsedUp_Tokens_42 : (Jvm.Cond.methodLink "UsedUp$Tokens" (42 : Nat) ({ cls := "java/lang/Math", name := "min", desc := "(II)I" } : Jvm.MethodName)) ∈ qTB := qw2 151 rfl rfl
theorem lkL_UsedUp_Reader_57 : (Jvm.Cond.methodLink "UsedUp$Reader" (57 : Nat) ({ cls := "UsedUp$Reader", name := "isWhole", desc := "()Z" } : Jvm.MethodName)) ∈ qTB := qw2 154 rfl rfl
theorem lkL_UsedUp_Reader_84 : (Jvm.Cond.methodLink "UsedUp$Reader" (84 : Nat) ({ cls := "UsedUp$Tokens", name := "atEnd", desc := "()Z" } : Jvm.MethodName)) ∈ qTB := qw2 158 rfl rfl
theorem lkL_UsedUp_Reader_61 : (Jvm.Cond.methodLink "UsedUp$Reader" (61 : Nat) ({ cls := "UsedUp$Script", name := "closeLastPart", desc := "()V" } : Jvm.MethodName)) ∈ qTB := qw2 162 rfl rfl
theorem lkN_UsedUp_Script_68 : (Jvm.Cond.methodLinkNest "UsedUp$Script" (68 : Nat) ({ cls := "UsedUp", name := "put", desc := "([III)V" } : Jvm.MethodName) "UsedUp") ∈ qnest := qn2 166 rfl rfl
theorem lkL_UsedUp_Reader_66 : (Jvm.Cond.methodLink "UsedUp$Reader" (66 : Nat) ({ cls := "UsedUp$Tokens", name := "is", desc := "(Ljava/lang/String;)Z" } : Jvm.MethodName)) ∈ qTB := qw2 168 rfl rfl
theorem lkL_UsedUp_Tokens_48 : (Jvm.Cond.methodLink "UsedUp$Tokens" (48 : Nat) ({ cls := "java/lang/String", name := "length", desc := "()I" } : Jvm.MethodName)) ∈ qTB := qw2 172 rfl rfl
theorem lkL_UsedUp_Tokens_53 : (Jvm.Cond.methodLink "UsedUp$Tokens" (53 : Nat) ({ cls := "java/lang/String", name := "charAt", desc := "(I)C" } : Jvm.MethodName)) ∈ qTB := qw2 182 rfl rfl
theorem lkL_UsedUp_Reader_70 : (Jvm.Cond.methodLink "UsedUp$Reader" (70 : Nat) ({ cls := "UsedUp$Reader", name := "beginDef", desc := "()Z" } : Jvm.MethodName)) ∈ qTB := qw2 220 rfl rfl
theorem lkL_UsedUp_Reader_87 : (Jvm.Cond.methodLink "UsedUp$Reader" (87 : Nat) ({ cls := "UsedUp$Tokens", name := "advance", desc := "()V" } : Jvm.MethodName)) ∈ qTB := qw2 224 rfl rfl
theorem lkL_UsedUp_Reader_90 : (Jvm.Cond.methodLink "UsedUp$Reader" (90 : Nat) ({ cls := "UsedUp$Tokens", name := "letterHere", desc := "(CC)I" } : Jvm.MethodName)) ∈ qTB := qw2 225 rfl rfl
theorem lkN_UsedUp_Reader_94 : (Jvm.Cond.methodLinkNest "UsedUp$Reader" (94 : Nat) ({ cls := "UsedUp", name := "at", desc := "([II)I" } : Jvm.MethodName) "UsedUp") ∈ qnest := qn2 229 rfl rfl
theorem lkL_UsedUp_Reader_98 : (Jvm.Cond.methodLink "UsedUp$Reader" (98 : Nat) ({ cls := "UsedUp$Reader", name := "openBlock", desc := "(II)Z" } : Jvm.MethodName)) ∈ qTB := qw2 230 rfl rfl
theorem lkL_UsedUp_Reader_104 : (Jvm.Cond.methodLink "UsedUp$Reader" (104 : Nat) ({ cls := "UsedUp$Tokens", name := "take", desc := "(Ljava/lang/String;)Z" } : Jvm.MethodName)) ∈ qTB := qw2 235 rfl rfl
theorem lkL_UsedUp_Tokens_57 : (Jvm.Cond.methodLink "UsedUp$Tokens" (57 : Nat) ({ cls := "UsedUp$Tokens", name := "is", desc := "(Ljava/lang/String;)Z" } : Jvm.MethodName)) ∈ qTB := qw2 239 rfl rfl
theorem lkN_UsedUp_Reader_107 : (Jvm.Cond.methodLinkNest "UsedUp$Reader" (107 : Nat) ({ cls := "UsedUp", name := "put", desc := "([III)V" } : Jvm.MethodName) "UsedUp") ∈ qnest := qn3 0 rfl rfl
theorem lkL_UsedUp_Reader_75 : (Jvm.Cond.methodLink "UsedUp$Reader" (75 : Nat) ({ cls := "UsedUp$Reader", name := "closeBlock", desc := "()Z" } : Jvm.MethodName)) ∈ qTB := qw3 2 rfl rfl
theorem lkL_UsedUp_Reader_114 : (Jvm.Cond.methodLink "UsedUp$Reader" (114 : Nat) ({ cls := "UsedUp$Script", name := "closeDef", desc := "()V" } : Jvm.MethodName)) ∈ qTB := qw3 6 rfl rfl
theorem lkL_UsedUp_Reader_78 : (Jvm.Cond.methodLink "UsedUp$Reader" (78 : Nat) ({ cls := "UsedUp$Reader", name := "beginStep", desc := "()Z" } : Jvm.MethodName)) ∈ qTB := qw3 11 rfl rfl
theorem lkL_UsedUp_Reader_122 : (Jvm.Cond.methodLink "UsedUp$Reader" (122 : Nat) ({ cls := "UsedUp$Reader", name := "kindHere", desc := "()I" } : Jvm.MethodName)) ∈ qTB := qw3 15 rfl rfl
theorem lkL_UsedUp_Reader_132 : (Jvm.Cond.methodLink "UsedUp$Reader" (132 : Nat) ({ cls := "UsedUp$Script", name := "addStep", desc := "(III)I" } : Jvm.MethodName)) ∈ qTB := qw3 25 rfl rfl
theorem lkL_UsedUp_Reader_136 : (Jvm.Cond.methodLink "UsedUp$Reader" (136 : Nat) ({ cls := "UsedUp$Reader", name := "readAmount", desc := "(I)Z" } : Jvm.MethodName)) ∈ qTB := qw3 29 rfl rfl
theorem lkL_UsedUp_Reader_176 : (Jvm.Cond.methodLink "UsedUp$Reader" (176 : Nat) ({ cls := "UsedUp$Reader", name := "readFactor", desc := "(I)Z" } : Jvm.MethodName)) ∈ qTB := qw3 33 rfl rfl
theorem lkL_UsedUp_Reader_163 : (Jvm.Cond.methodLink "UsedUp$Reader" (163 : Nat) ({ cls := "UsedUp$Tokens", name := "numberHere", desc := "(I)I" } : Jvm.MethodName)) ∈ qTB := qw3 37 rfl rfl
theorem lkL_UsedUp_Tokens_61 : (Jvm.Cond.methodLink "UsedUp$Tokens" (61 : Nat) ({ cls := "UsedUp$Tokens", name := "atEnd", desc := "()Z" } : Jvm.MethodName)) ∈ qTB := qw3 41 rfl rfl
theorem lkL_UsedUp_Reader_187 : (Jvm.Cond.methodLink "UsedUp$Reader" (187 : Nat) ({ cls := "UsedUp$Script", name := "addFactor", desc := "(III)V" } : Jvm.MethodName)) ∈ qTB := qw3 42 rfl rfl
theorem lkL_UsedUp_Reader_183 : (Jvm.Cond.methodLink "UsedUp$Reader" (183 : Nat) ({ cls := "UsedUp$Script", name := "closeAmount", desc := "(I)V" } : Jvm.MethodName)) ∈ qTB := qw3 49 rfl rfl
theorem lkL_UsedUp_Reader_142 : (Jvm.Cond.methodLink "UsedUp$Reader" (142 : Nat) ({ cls := "UsedUp$Reader", name := "readCalled", desc := "(I)Z" } : Jvm.MethodName)) ∈ qTB := qw3 54 rfl rfl
theorem lkL_UsedUp_Reader_167 : (Jvm.Cond.methodLink "UsedUp$Reader" (167 : Nat) ({ cls := "UsedUp$Script", name := "setValue", desc := "(II)V" } : Jvm.MethodName)) ∈ qTB := qw3 58 rfl rfl
theorem lkL_UsedUp_Reader_145 : (Jvm.Cond.methodLink "UsedUp$Reader" (145 : Nat) ({ cls := "UsedUp$Reader", name := "readNumber", desc := "(II)Z" } : Jvm.MethodName)) ∈ qTB := qw3 62 rfl rfl
theorem lkL_UsedUp_Reader_148 : (Jvm.Cond.methodLink "UsedUp$Reader" (148 : Nat) ({ cls := "UsedUp$Reader", name := "readTest", desc := "(I)Z" } : Jvm.MethodName)) ∈ qTB := qw3 66 rfl rfl
theorem lkL_UsedUp_Reader_171 : (Jvm.Cond.methodLink "UsedUp$Reader" (171 : Nat) ({ cls := "UsedUp$Script", name := "setIfName", desc := "(II)V" } : Jvm.MethodName)) ∈ qTB := qw3 70 rfl rfl
theorem lkL_UsedUp_123 : (Jvm.Cond.methodLink "UsedUp" (123 : Nat) ({ cls := "UsedUp$Locks", name := "learn", desc := "(LUsedUp$Script;)V" } : Jvm.MethodName)) ∈ qTB := qw3 75 rfl rfl
theorem lkN_UsedUp_Locks_25 : (Jvm.Cond.methodLinkNest "UsedUp$Locks" (25 : Nat) ({ cls := "UsedUp", name := "fillWith", desc := "([II)V" } : Jvm.MethodName) "UsedUp") ∈ qnest := qn3 79 rfl rfl
theorem lkL_UsedUp_Locks_34 : (Jvm.Cond.methodLink "UsedUp$Locks" (34 : Nat) ({ cls := "UsedUp$Locks", name := "learnPart", desc := "(LUsedUp$Script;I)V" } : Jvm.MethodName)) ∈ qTB := qw3 80 rfl rfl
theorem lkN_UsedUp_Locks_38 : (Jvm.Cond.methodLinkNest "UsedUp$Locks" (38 : Nat) ({ cls := "UsedUp", name := "at", desc := "([II)I" } : Jvm.MethodName) "UsedUp") ∈ qnest := qn3 84 rfl rfl
theorem lkL_UsedUp_Locks_52 : (Jvm.Cond.methodLink "UsedUp$Locks" (52 : Nat) ({ cls := "java/lang/Math", name := "max", desc := "(II)I" } : Jvm.MethodName)) ∈ qTB := qw3 85 rfl rfl
theorem lkL_UsedUp_Locks_58 : (Jvm.Cond.methodLink "UsedUp$Locks" (58 : Nat) ({ cls := "UsedUp$Locks", name := "locksOf", desc := "(LUsedUp$Script;I)I" } : Jvm.MethodName)) ∈ qTB := qw3 88 rfl rfl
theorem lkN_UsedUp_Locks_42 : (Jvm.Cond.methodLinkNest "UsedUp$Locks" (42 : Nat) ({ cls := "UsedUp", name := "put", desc := "([III)V" } : Jvm.MethodName) "UsedUp") ∈ qnest := qn3 92 rfl rfl
theorem lkL_UsedUp_Locks_62 : (Jvm.Cond.methodLink "UsedUp$Locks" (62 : Nat) ({ cls := "UsedUp$Locks", name := "holdAround", desc := "(LUsedUp$Script;II)V" } : Jvm.MethodName)) ∈ qTB := qw3 93 rfl rfl
theorem lkL_UsedUp_Locks_46 : (Jvm.Cond.methodLink "UsedUp$Locks" (46 : Nat) ({ cls := "UsedUp$Locks", name := "findLedBack", desc := "()V" } : Jvm.MethodName)) ∈ qTB := qw3 97 rfl rfl
theorem lkL_UsedUpLaw_33 : (Jvm.Cond.methodLink "UsedUpLaw" (33 : Nat) ({ cls := "UsedUp", name := "fault", desc := "()I" } : Jvm.MethodName)) ∈ qTB := qw3 102 rfl rfl
theorem lkL_UsedUpLaw_37 : (Jvm.Cond.methodLink "UsedUpLaw" (37 : Nat) ({ cls := "UsedUp", name := "cap", desc := "(II)I" } : Jvm.MethodName)) ∈ qTB := qw3 106 rfl rfl
theorem lkK_UsedUp_130 : (Jvm.Cond.constant "UsedUp" (130 : Nat) (1000000 : Int32)) ∈ qTB := qw3 110 rfl rfl
theorem lkL_UsedUp_131 : (Jvm.Cond.methodLink "UsedUp" (131 : Nat) ({ cls := "UsedUp", name := "isPlace", desc := "(I)Z" } : Jvm.MethodName)) ∈ qTB := qw3 111 rfl rfl
theorem lkL_UsedUp_134 : (Jvm.Cond.methodLink "UsedUp" (134 : Nat) ({ cls := "UsedUp", name := "at", desc := "([II)I" } : Jvm.MethodName)) ∈ qTB := qw3 115 rfl rfl
theorem lkL_UsedUp_138 : (Jvm.Cond.methodLink "UsedUp" (138 : Nat) ({ cls := "UsedUp", name := "put", desc := "([III)V" } : Jvm.MethodName)) ∈ qTB := qw3 116 rfl rfl
theorem lkL_UsedUpLaw_42 : (Jvm.Cond.methodLink "UsedUpLaw" (42 : Nat) ({ cls := "UsedUp", name := "capped", desc := "(I)I" } : Jvm.MethodName)) ∈ qTB := qw3 117 rfl rfl
theorem lkL_UsedUpLaw_46 : (Jvm.Cond.methodLink "UsedUpLaw" (46 : Nat) ({ cls := "UsedUp", name := "spends", desc := "(IIIII)J" } : Jvm.MethodName)) ∈ qTB := qw3 121 rfl rfl
theorem lkL_UsedUp_142 : (Jvm.Cond.methodLink "UsedUp" (142 : Nat) ({ cls := "UsedUp", name := "isSort", desc := "(I)Z" } : Jvm.MethodName)) ∈ qTB := qw3 125 rfl rfl
theorem lkL_UsedUp_145 : (Jvm.Cond.methodLink "UsedUp" (145 : Nat) ({ cls := "UsedUp", name := "areNumbers", desc := "(IIII)Z" } : Jvm.MethodName)) ∈ qTB := qw3 128 rfl rfl
theorem lkK_UsedUp_149 : (Jvm.Cond.constantLong "UsedUp" (149 : Nat) (-1 : Int64)) ∈ qTB := qw3 131 rfl rfl
theorem lkL_UsedUp_151 : (Jvm.Cond.methodLink "UsedUp" (151 : Nat) ({ cls := "UsedUp", name := "putRow", desc := "([IIIIII)V" } : Jvm.MethodName)) ∈ qTB := qw3 132 rfl rfl
theorem lkL_UsedUp_155 : (Jvm.Cond.methodLink "UsedUp" (155 : Nat) ({ cls := "UsedUp$Meter", name := "brings", desc := "(ILUsedUp$Script;[I[I)J" } : Jvm.MethodName)) ∈ qTB := qw3 135 rfl rfl
theorem lkL_UsedUp_Meter_30 : (Jvm.Cond.methodLink "UsedUp$Meter" (30 : Nat) ({ cls := "UsedUp$Meter", name := "findFigures", desc := "(LUsedUp$Script;[I[I)V" } : Jvm.MethodName)) ∈ qTB := qw3 139 rfl rfl
theorem lkL_UsedUp_Meter_55 : (Jvm.Cond.methodLink "UsedUp$Meter" (55 : Nat) ({ cls := "UsedUp$Script", name := "holds", desc := "(I[I)Z" } : Jvm.MethodName)) ∈ qTB := qw3 143 rfl rfl
theorem lkN_UsedUp_Script_72 : (Jvm.Cond.methodLinkNest "UsedUp$Script" (72 : Nat) ({ cls := "UsedUp", name := "at", desc := "([II)I" } : Jvm.MethodName) "UsedUp") ∈ qnest := qn3 147 rfl rfl
theorem lkN_UsedUp_Meter_62 : (Jvm.Cond.methodLinkNest "UsedUp$Meter" (62 : Nat) ({ cls := "UsedUp", name := "at", desc := "([II)I" } : Jvm.MethodName) "UsedUp") ∈ qnest := qn3 148 rfl rfl
theorem lkL_UsedUp_Meter_65 : (Jvm.Cond.methodLink "UsedUp$Meter" (65 : Nat) ({ cls := "UsedUp$Script", name := "amountOf", desc := "(I[I)J" } : Jvm.MethodName)) ∈ qTB := qw3 149 rfl rfl
theorem lkL_UsedUp_Script_76 : (Jvm.Cond.methodLink "UsedUp$Script" (76 : Nat) ({ cls := "java/lang/Math", name := "max", desc := "(II)I" } : Jvm.MethodName)) ∈ qTB := qw3 153 rfl rfl
theorem lkL_UsedUp_Script_82 : (Jvm.Cond.methodLink "UsedUp$Script" (82 : Nat) ({ cls := "java/lang/Math", name := "min", desc := "(II)I" } : Jvm.MethodName)) ∈ qTB := qw3 154 rfl rfl
theorem lkN_UsedUp_Script_85 : (Jvm.Cond.methodLinkNest "UsedUp$Script" (85 : Nat) ({ cls := "UsedUp", name := "powerOfTwo", desc := "(I)J" } : Jvm.MethodName) "UsedUp") ∈ qnest := qn3 155 rfl rfl
theorem lkK_UsedUp_218 : (Jvm.Cond.constantLong "UsedUp" (218 : Nat) (1000000000000 : Int64)) ∈ qTB := qw3 158 rfl rfl
theorem lkN_UsedUp_Script_89 : (Jvm.Cond.methodLinkNest "UsedUp$Script" (89 : Nat) ({ cls := "UsedUp", name := "sum", desc := "(JJ)J" } : Jvm.MethodName) "UsedUp") ∈ qnest := qn3 159 rfl rfl
theorem lkL_UsedUp_220 : (Jvm.Cond.methodLink "UsedUp" (220 : Nat) ({ cls := "java/lang/Math", name := "min", desc := "(JJ)J" } : Jvm.MethodName)) ∈ qTB := qw3 162 rfl rfl
theorem lkN_UsedUp_Script_93 : (Jvm.Cond.methodLinkNest "UsedUp$Script" (93 : Nat) ({ cls := "UsedUp", name := "product", desc := "(JJ)J" } : Jvm.MethodName) "UsedUp") ∈ qnest := qn3 165 rfl rfl
theorem lkL_UsedUp_Meter_69 : (Jvm.Cond.methodLink "UsedUp$Meter" (69 : Nat) ({ cls := "java/lang/Math", name := "min", desc := "(JJ)J" } : Jvm.MethodName)) ∈ qTB := qw3 168 rfl rfl
theorem lkL_UsedUp_Meter_40 : (Jvm.Cond.methodLink "UsedUp$Meter" (40 : Nat) ({ cls := "UsedUp$Meter", name := "addUp", desc := "(ILUsedUp$Script;I)V" } : Jvm.MethodName)) ∈ qTB := qw3 169 rfl rfl
theorem lkL_UsedUp_Meter_78 : (Jvm.Cond.methodLink "UsedUp$Meter" (78 : Nat) ({ cls := "java/lang/Math", name := "max", desc := "(II)I" } : Jvm.MethodName)) ∈ qTB := qw3 173 rfl rfl
theorem lkL_UsedUp_Meter_82 : (Jvm.Cond.methodLink "UsedUp$Meter" (82 : Nat) ({ cls := "java/lang/Math", name := "min", desc := "(II)I" } : Jvm.MethodName)) ∈ qTB := qw3 174 rfl rfl
theorem lkN_UsedUp_Meter_44 : (Jvm.Cond.methodLinkNest "UsedUp$Meter" (44 : Nat) ({ cls := "UsedUp", name := "at", desc := "([JI)J" } : Jvm.MethodName) "UsedUp") ∈ qnest := qn3 175 rfl rfl
theorem lkL_UsedUp_Meter_84 : (Jvm.Cond.methodLink "UsedUp$Meter" (84 : Nat) ({ cls := "UsedUp$Meter", name := "timeOf", desc := "(IJJ)J" } : Jvm.MethodName)) ∈ qTB := qw3 178 rfl rfl
theorem lkN_UsedUp_Meter_108 : (Jvm.Cond.methodLinkNest "UsedUp$Meter" (108 : Nat) ({ cls := "UsedUp", name := "sum", desc := "(JJ)J" } : Jvm.MethodName) "UsedUp") ∈ qnest := qn3 181 rfl rfl
theorem lkN_UsedUp_Meter_113 : (Jvm.Cond.methodLinkNest "UsedUp$Meter" (113 : Nat) ({ cls := "UsedUp", name := "product", desc := "(JJ)J" } : Jvm.MethodName) "UsedUp") ∈ qnest := qn3 182 rfl rfl
theorem lkL_UsedUp_Meter_88 : (Jvm.Cond.methodLink "UsedUp$Meter" (88 : Nat) ({ cls := "UsedUp$Meter", name := "roomOf", desc := "(IJJ)J" } : Jvm.MethodName)) ∈ qTB := qw3 183 rfl rfl
theorem lkL_UsedUp_Meter_94 : (Jvm.Cond.methodLink "UsedUp$Meter" (94 : Nat) ({ cls := "UsedUp$Meter", name := "joined", desc := "(IJJ)J" } : Jvm.MethodName)) ∈ qTB := qw3 186 rfl rfl
theorem lkL_UsedUp_Meter_111 : (Jvm.Cond.methodLink "UsedUp$Meter" (111 : Nat) ({ cls := "java/lang/Math", name := "max", desc := "(JJ)J" } : Jvm.MethodName)) ∈ qTB := qw3 189 rfl rfl
theorem lkL_UsedUp_Meter_97 : (Jvm.Cond.methodLink "UsedUp$Meter" (97 : Nat) ({ cls := "UsedUp$Meter", name := "isGoneInto", desc := "(LUsedUp$Script;II)Z" } : Jvm.MethodName)) ∈ qTB := qw3 192 rfl rfl
theorem lkN_UsedUp_Meter_101 : (Jvm.Cond.methodLinkNest "UsedUp$Meter" (101 : Nat) ({ cls := "UsedUp", name := "put", desc := "([JIJ)V" } : Jvm.MethodName) "UsedUp") ∈ qnest := qn3 196 rfl rfl
theorem lkL_UsedUpLaw_51 : (Jvm.Cond.methodLink "UsedUpLaw" (51 : Nat) ({ cls := "UsedUp", name := "worst", desc := "(II)J" } : Jvm.MethodName)) ∈ qTB := qw3 199 rfl rfl
theorem lkL_UsedUp_159 : (Jvm.Cond.methodLink "UsedUp" (159 : Nat) ({ cls := "UsedUp$Asks", name := "prepare", desc := "(LUsedUp$Script;)I" } : Jvm.MethodName)) ∈ qTB := qw3 203 rfl rfl
theorem lkN_UsedUp_Asks_38 : (Jvm.Cond.methodLinkNest "UsedUp$Asks" (38 : Nat) ({ cls := "UsedUp", name := "at", desc := "([II)I" } : Jvm.MethodName) "UsedUp") ∈ qnest := qn3 207 rfl rfl
theorem lkL_UsedUp_162 : (Jvm.Cond.methodLink "UsedUp" (162 : Nat) ({ cls := "UsedUp$Asks", name := "weightOf", desc := "(I)I" } : Jvm.MethodName)) ∈ qTB := qw3 208 rfl rfl
theorem lkL_UsedUp_Asks_42 : (Jvm.Cond.methodLink "UsedUp$Asks" (42 : Nat) ({ cls := "UsedUp$Asks", name := "turnTo", desc := "(I)V" } : Jvm.MethodName)) ∈ qTB := qw3 212 rfl rfl
theorem lkL_UsedUp_168 : (Jvm.Cond.methodLink "UsedUp" (168 : Nat) ({ cls := "UsedUp", name := "keepAsLatest", desc := "()V" } : Jvm.MethodName)) ∈ qTB := qw3 216 rfl rfl
theorem lkL_UsedUp_214 : (Jvm.Cond.methodLink "UsedUp" (214 : Nat) ({ cls := "UsedUp", name := "copyRow", desc := "([II[I)V" } : Jvm.MethodName)) ∈ qTB := qw3 220 rfl rfl
theorem lkL_UsedUpLaw_58 : (Jvm.Cond.methodLink "UsedUpLaw" (58 : Nat) ({ cls := "UsedUp", name := "cheapest", desc := "(IJ)I" } : Jvm.MethodName)) ∈ qTB := qw3 223 rfl rfl
theorem lkL_UsedUpLaw_63 : (Jvm.Cond.methodLink "UsedUpLaw" (63 : Nat) ({ cls := "UsedUp", name := "ask", desc := "(I)I" } : Jvm.MethodName)) ∈ qTB := qw3 227 rfl rfl
theorem lkL_UsedUpLaw_67 : (Jvm.Cond.methodLink "UsedUpLaw" (67 : Nat) ({ cls := "UsedUp", name := "where", desc := "(I)J" } : Jvm.MethodName)) ∈ qTB := qw3 231 rfl rfl
theorem lkL_UsedUp_171 : (Jvm.Cond.methodLink "UsedUp" (171 : Nat) ({ cls := "UsedUp$Meter", name := "goesTo", desc := "(ILUsedUp$Script;[I[I)J" } : Jvm.MethodName)) ∈ qTB := qw3 235 rfl rfl
theorem lkL_UsedUp_Meter_116 : (Jvm.Cond.methodLink "UsedUp$Meter" (116 : Nat) ({ cls := "UsedUp$Meter", name := "brings", desc := "(ILUsedUp$Script;[I[I)J" } : Jvm.MethodName)) ∈ qTB := qw3 239 rfl rfl
theorem lkN_UsedUp_Meter_120 : (Jvm.Cond.methodLinkNest "UsedUp$Meter" (120 : Nat) ({ cls := "UsedUp", name := "fillWithNothing", desc := "([J)V" } : Jvm.MethodName) "UsedUp") ∈ qnest := qn4 0 rfl rfl
theorem lkL_UsedUp_Meter_124 : (Jvm.Cond.methodLink "UsedUp$Meter" (124 : Nat) ({ cls := "UsedUp$Meter", name := "countComings", desc := "(LUsedUp$Script;I)V" } : Jvm.MethodName)) ∈ qTB := qw4 3 rfl rfl
theorem lkL_UsedUp_Meter_131 : (Jvm.Cond.methodLink "UsedUp$Meter" (131 : Nat) ({ cls := "UsedUp$Meter", name := "comingsWithin", desc := "(LUsedUp$Script;II)J" } : Jvm.MethodName)) ∈ qTB := qw4 7 rfl rfl
theorem lkL_UsedUpLaw_72 : (Jvm.Cond.methodLink "UsedUpLaw" (72 : Nat) ({ cls := "UsedUp", name := "ordinary", desc := "(IIII)I" } : Jvm.MethodName)) ∈ qTB := qw4 11 rfl rfl
theorem lkL_UsedUp_177 : (Jvm.Cond.methodLink "UsedUp" (177 : Nat) ({ cls := "UsedUp$Planner", name := "addOrdinary", desc := "(IIII)V" } : Jvm.MethodName)) ∈ qTB := qw4 15 rfl rfl
theorem lkN_UsedUp_Planner_43 : (Jvm.Cond.methodLinkNest "UsedUp$Planner" (43 : Nat) ({ cls := "UsedUp", name := "putRow", desc := "([IIIIII)V" } : Jvm.MethodName) "UsedUp") ∈ qnest := qn4 19 rfl rfl
theorem lkL_UsedUpLaw_77 : (Jvm.Cond.methodLink "UsedUpLaw" (77 : Nat) ({ cls := "UsedUp", name := "need", desc := "(I)J" } : Jvm.MethodName)) ∈ qTB := qw4 20 rfl rfl
theorem lkL_UsedUp_181 : (Jvm.Cond.methodLink "UsedUp" (181 : Nat) ({ cls := "UsedUp$Planner", name := "needOf", desc := "(LUsedUp$Script;I)J" } : Jvm.MethodName)) ∈ qTB := qw4 24 rfl rfl
theorem lkN_UsedUp_Planner_52 : (Jvm.Cond.methodLinkNest "UsedUp$Planner" (52 : Nat) ({ cls := "UsedUp", name := "at", desc := "([II)I" } : Jvm.MethodName) "UsedUp") ∈ qnest := qn4 28 rfl rfl
theorem lkN_UsedUp_Planner_56 : (Jvm.Cond.methodLinkNest "UsedUp$Planner" (56 : Nat) ({ cls := "UsedUp", name := "copyRow", desc := "([II[I)V" } : Jvm.MethodName) "UsedUp") ∈ qnest := qn4 29 rfl rfl
theorem lkL_UsedUp_Planner_60 : (Jvm.Cond.methodLink "UsedUp$Planner" (60 : Nat) ({ cls := "UsedUp$Script", name := "amountOf", desc := "(I[I)J" } : Jvm.MethodName)) ∈ qTB := qw4 30 rfl rfl
theorem lkL_UsedUp_Planner_64 : (Jvm.Cond.methodLink "UsedUp$Planner" (64 : Nat) ({ cls := "java/lang/Math", name := "max", desc := "(JJ)J" } : Jvm.MethodName)) ∈ qTB := qw4 31 rfl rfl
theorem lkL_UsedUpLaw_81 : (Jvm.Cond.methodLink "UsedUpLaw" (81 : Nat) ({ cls := "UsedUp", name := "budgets", desc := "(J)I" } : Jvm.MethodName)) ∈ qTB := qw4 32 rfl rfl
theorem lkL_UsedUp_185 : (Jvm.Cond.methodLink "UsedUp" (185 : Nat) ({ cls := "UsedUp$Planner", name := "fewest", desc := "(LUsedUp$Script;J)I" } : Jvm.MethodName)) ∈ qTB := qw4 36 rfl rfl
theorem lkL_UsedUp_Planner_70 : (Jvm.Cond.methodLink "UsedUp$Planner" (70 : Nat) ({ cls := "UsedUp$Planner", name := "findNeeds", desc := "(LUsedUp$Script;)I" } : Jvm.MethodName)) ∈ qTB := qw4 40 rfl rfl
theorem lkL_UsedUp_Planner_91 : (Jvm.Cond.methodLink "UsedUp$Planner" (91 : Nat) ({ cls := "UsedUp$Planner", name := "needOf", desc := "(LUsedUp$Script;I)J" } : Jvm.MethodName)) ∈ qTB := qw4 44 rfl rfl
theorem lkN_UsedUp_Planner_95 : (Jvm.Cond.methodLinkNest "UsedUp$Planner" (95 : Nat) ({ cls := "UsedUp", name := "put", desc := "([JIJ)V" } : Jvm.MethodName) "UsedUp") ∈ qnest := qn4 45 rfl rfl
theorem lkK_UsedUp_Planner_99 : (Jvm.Cond.constantLong "UsedUp$Planner" (99 : Nat) (1000000 : Int64)) ∈ qTB := qw4 46 rfl rfl
theorem lkL_UsedUp_Planner_101 : (Jvm.Cond.methodLink "UsedUp$Planner" (101 : Nat) ({ cls := "UsedUp$Planner", name := "bitOf", desc := "(LUsedUp$Script;I)I" } : Jvm.MethodName)) ∈ qTB := qw4 47 rfl rfl
theorem lkL_UsedUp_Planner_74 : (Jvm.Cond.methodLink "UsedUp$Planner" (74 : Nat) ({ cls := "UsedUp$Planner", name := "findRisky", desc := "(LUsedUp$Script;J)V" } : Jvm.MethodName)) ∈ qTB := qw4 50 rfl rfl
theorem lkN_UsedUp_Planner_105 : (Jvm.Cond.methodLinkNest "UsedUp$Planner" (105 : Nat) ({ cls := "UsedUp", name := "fillWith", desc := "([II)V" } : Jvm.MethodName) "UsedUp") ∈ qnest := qn4 54 rfl rfl
theorem lkL_UsedUp_Planner_109 : (Jvm.Cond.methodLink "UsedUp$Planner" (109 : Nat) ({ cls := "UsedUp$Asks", name := "prepare", desc := "(LUsedUp$Script;)I" } : Jvm.MethodName)) ∈ qTB := qw4 55 rfl rfl
theorem lkL_UsedUp_Planner_114 : (Jvm.Cond.methodLink "UsedUp$Planner" (114 : Nat) ({ cls := "UsedUp$Asks", name := "turnTo", desc := "(I)V" } : Jvm.MethodName)) ∈ qTB := qw4 56 rfl rfl
theorem lkL_UsedUp_Planner_121 : (Jvm.Cond.methodLink "UsedUp$Planner" (121 : Nat) ({ cls := "UsedUp$Meter", name := "brings", desc := "(ILUsedUp$Script;[I[I)J" } : Jvm.MethodName)) ∈ qTB := qw4 57 rfl rfl
theorem lkN_UsedUp_Planner_127 : (Jvm.Cond.methodLinkNest "UsedUp$Planner" (127 : Nat) ({ cls := "UsedUp", name := "put", desc := "([III)V" } : Jvm.MethodName) "UsedUp") ∈ qnest := qn4 58 rfl rfl
theorem lkL_UsedUp_Planner_78 : (Jvm.Cond.methodLink "UsedUp$Planner" (78 : Nat) ({ cls := "UsedUp$Planner", name := "keepsBelow", desc := "(LUsedUp$Script;JI)Z" } : Jvm.MethodName)) ∈ qTB := qw4 59 rfl rfl
theorem lkL_UsedUp_Planner_130 : (Jvm.Cond.methodLink "UsedUp$Planner" (130 : Nat) ({ cls := "UsedUp$Planner", name := "capChosen", desc := "(LUsedUp$Script;I[I)V" } : Jvm.MethodName)) ∈ qTB := qw4 63 rfl rfl
theorem lkN_UsedUp_Planner_134 : (Jvm.Cond.methodLinkNest "UsedUp$Planner" (134 : Nat) ({ cls := "UsedUp", name := "at", desc := "([JI)J" } : Jvm.MethodName) "UsedUp") ∈ qnest := qn4 67 rfl rfl
theorem lkL_UsedUp_Planner_85 : (Jvm.Cond.methodLink "UsedUp$Planner" (85 : Nat) ({ cls := "java/lang/Integer", name := "bitCount", desc := "(I)I" } : Jvm.MethodName)) ∈ qTB := qw4 68 rfl rfl
theorem lkK_java_lang_Integer_265 : (Jvm.Cond.constant "java/lang/Integer" (265 : Nat) (1431655765 : Int32)) ∈ qTB := qw4 71 rfl rfl
theorem lkK_java_lang_Integer_266 : (Jvm.Cond.constant "java/lang/Integer" (266 : Nat) (858993459 : Int32)) ∈ qTB := qw4 72 rfl rfl
theorem lkK_java_lang_Integer_267 : (Jvm.Cond.constant "java/lang/Integer" (267 : Nat) (252645135 : Int32)) ∈ qTB := qw4 73 rfl rfl
theorem lkL_UsedUp_189 : (Jvm.Cond.methodLink "UsedUp" (189 : Nat) ({ cls := "UsedUp$Planner", name := "capChosen", desc := "(LUsedUp$Script;I[I)V" } : Jvm.MethodName)) ∈ qTB := qw4 74 rfl rfl
theorem lkL_UsedUp_193 : (Jvm.Cond.methodLink "UsedUp" (193 : Nat) ({ cls := "java/lang/Integer", name := "bitCount", desc := "(I)I" } : Jvm.MethodName)) ∈ qTB := qw4 75 rfl rfl
theorem lkL_UsedUpLaw_86 : (Jvm.Cond.methodLink "UsedUpLaw" (86 : Nat) ({ cls := "UsedUp", name := "ahead", desc := "(II)I" } : Jvm.MethodName)) ∈ qTB := qw4 76 rfl rfl
theorem lkL_UsedUpLaw_90 : (Jvm.Cond.methodLink "UsedUpLaw" (90 : Nat) ({ cls := "UsedUp", name := "tangled", desc := "()I" } : Jvm.MethodName)) ∈ qTB := qw4 80 rfl rfl
theorem lkL_UsedUpLaw_94 : (Jvm.Cond.methodLink "UsedUpLaw" (94 : Nat) ({ cls := "UsedUp", name := "count", desc := "(I)I" } : Jvm.MethodName)) ∈ qTB := qw4 84 rfl rfl
theorem lkL_UsedUp_207 : (Jvm.Cond.methodLink "UsedUp" (207 : Nat) ({ cls := "UsedUp", name := "capCount", desc := "()I" } : Jvm.MethodName)) ∈ qTB := qw4 88 rfl rfl
theorem lkL_UsedUpLaw_98 : (Jvm.Cond.methodLink "UsedUpLaw" (98 : Nat) ({ cls := "UsedUp", name := "status", desc := "()I" } : Jvm.MethodName)) ∈ qTB := qw4 92 rfl rfl
theorem lkL_UsedUpLaw_12 : (Jvm.Cond.methodLink "UsedUpLaw" (12 : Nat) ({ cls := "UsedUpModel", name := "<init>", desc := "()V" } : Jvm.MethodName)) ∈ qTB := qw4 98 rfl rfl
theorem lkL_UsedUpModel_1 : (Jvm.Cond.methodLink "UsedUpModel" (1 : Nat) ({ cls := "java/lang/Object", name := "<init>", desc := "()V" } : Jvm.MethodName)) ∈ qTB := qw4 101 rfl rfl
theorem lkF_UsedUpModel_139 : (Jvm.Cond.fieldLink "UsedUpModel" (139 : Nat) "UsedUpModel" "thrown" "I") ∈ qTB := qw4 102 rfl rfl
theorem lkF_UsedUpModel_142 : (Jvm.Cond.fieldLink "UsedUpModel" (142 : Nat) "UsedUpModel" "status" "I") ∈ qTB := qw4 103 rfl rfl
theorem lkF_UsedUpModel_7 : (Jvm.Cond.fieldLink "UsedUpModel" (7 : Nat) "UsedUpModel" "sizes" "[I") ∈ qTB := qw4 104 rfl rfl
theorem lkF_UsedUpModel_13 : (Jvm.Cond.fieldLink "UsedUpModel" (13 : Nat) "UsedUpModel" "weights" "[I") ∈ qTB := qw4 105 rfl rfl
theorem lkF_UsedUpModel_201 : (Jvm.Cond.fieldLink "UsedUpModel" (201 : Nat) "UsedUpModel" "hasProgram" "Z") ∈ qTB := qw4 106 rfl rfl
theorem lkF_UsedUpModel_198 : (Jvm.Cond.fieldLink "UsedUpModel" (198 : Nat) "UsedUpModel" "steps" "I") ∈ qTB := qw4 107 rfl rfl
theorem lkF_UsedUpModel_16 : (Jvm.Cond.fieldLink "UsedUpModel" (16 : Nat) "UsedUpModel" "sKind" "[I") ∈ qTB := qw4 108 rfl rfl
theorem lkF_UsedUpModel_19 : (Jvm.Cond.fieldLink "UsedUpModel" (19 : Nat) "UsedUpModel" "sEnd" "[I") ∈ qTB := qw4 109 rfl rfl
theorem lkF_UsedUpModel_22 : (Jvm.Cond.fieldLink "UsedUpModel" (22 : Nat) "UsedUpModel" "sElse" "[I") ∈ qTB := qw4 110 rfl rfl
theorem lkF_UsedUpModel_25 : (Jvm.Cond.fieldLink "UsedUpModel" (25 : Nat) "UsedUpModel" "sA" "[I") ∈ qTB := qw4 111 rfl rfl
theorem lkF_UsedUpModel_28 : (Jvm.Cond.fieldLink "UsedUpModel" (28 : Nat) "UsedUpModel" "sB" "[I") ∈ qTB := qw4 112 rfl rfl
theorem lkF_UsedUpModel_31 : (Jvm.Cond.fieldLink "UsedUpModel" (31 : Nat) "UsedUpModel" "sFactors" "[I") ∈ qTB := qw4 113 rfl rfl
theorem lkF_UsedUpModel_34 : (Jvm.Cond.fieldLink "UsedUpModel" (34 : Nat) "UsedUpModel" "fKind" "[I") ∈ qTB := qw4 114 rfl rfl
theorem lkF_UsedUpModel_37 : (Jvm.Cond.fieldLink "UsedUpModel" (37 : Nat) "UsedUpModel" "fValue" "[I") ∈ qTB := qw4 115 rfl rfl
theorem lkF_UsedUpModel_40 : (Jvm.Cond.fieldLink "UsedUpModel" (40 : Nat) "UsedUpModel" "fPlus" "[Z") ∈ qTB := qw4 116 rfl rfl
theorem lkF_UsedUpModel_188 : (Jvm.Cond.fieldLink "UsedUpModel" (188 : Nat) "UsedUpModel" "defs" "I") ∈ qTB := qw4 117 rfl rfl
theorem lkF_UsedUpModel_44 : (Jvm.Cond.fieldLink "UsedUpModel" (44 : Nat) "UsedUpModel" "dFrom" "[I") ∈ qTB := qw4 118 rfl rfl
theorem lkF_UsedUpModel_47 : (Jvm.Cond.fieldLink "UsedUpModel" (47 : Nat) "UsedUpModel" "dTo" "[I") ∈ qTB := qw4 119 rfl rfl
theorem lkF_UsedUpModel_195 : (Jvm.Cond.fieldLink "UsedUpModel" (195 : Nat) "UsedUpModel" "main" "I") ∈ qTB := qw4 120 rfl rfl
theorem lkF_UsedUpModel_230 : (Jvm.Cond.fieldLink "UsedUpModel" (230 : Nat) "UsedUpModel" "places" "I") ∈ qTB := qw4 121 rfl rfl
theorem lkF_UsedUpModel_50 : (Jvm.Cond.fieldLink "UsedUpModel" (50 : Nat) "UsedUpModel" "pStep" "[I") ∈ qTB := qw4 122 rfl rfl
theorem lkF_UsedUpModel_53 : (Jvm.Cond.fieldLink "UsedUpModel" (53 : Nat) "UsedUpModel" "caps" "[I") ∈ qTB := qw4 123 rfl rfl
theorem lkF_UsedUpModel_56 : (Jvm.Cond.fieldLink "UsedUpModel" (56 : Nat) "UsedUpModel" "ask" "[I") ∈ qTB := qw4 124 rfl rfl
theorem lkF_UsedUpModel_59 : (Jvm.Cond.fieldLink "UsedUpModel" (59 : Nat) "UsedUpModel" "time" "[J") ∈ qTB := qw4 125 rfl rfl
theorem lkF_UsedUpModel_63 : (Jvm.Cond.fieldLink "UsedUpModel" (63 : Nat) "UsedUpModel" "room" "[J") ∈ qTB := qw4 126 rfl rfl
theorem lkF_UsedUpModel_66 : (Jvm.Cond.fieldLink "UsedUpModel" (66 : Nat) "UsedUpModel" "turns" "[J") ∈ qTB := qw4 127 rfl rfl
theorem lkF_UsedUpModel_69 : (Jvm.Cond.fieldLink "UsedUpModel" (69 : Nat) "UsedUpModel" "latest" "[I") ∈ qTB := qw4 128 rfl rfl
theorem lkF_UsedUpModel_216 : (Jvm.Cond.fieldLink "UsedUpModel" (216 : Nat) "UsedUpModel" "hasAsk" "Z") ∈ qTB := qw4 129 rfl rfl
theorem lkF_UsedUpModel_72 : (Jvm.Cond.fieldLink "UsedUpModel" (72 : Nat) "UsedUpModel" "visits" "[J") ∈ qTB := qw4 130 rfl rfl
theorem lkF_UsedUpModel_75 : (Jvm.Cond.fieldLink "UsedUpModel" (75 : Nat) "UsedUpModel" "called" "[J") ∈ qTB := qw4 131 rfl rfl
theorem lkF_UsedUpModel_237 : (Jvm.Cond.fieldLink "UsedUpModel" (237 : Nat) "UsedUpModel" "ordinaries" "I") ∈ qTB := qw4 132 rfl rfl
theorem lkF_UsedUpModel_78 : (Jvm.Cond.fieldLink "UsedUpModel" (78 : Nat) "UsedUpModel" "oAsk" "[I") ∈ qTB := qw4 133 rfl rfl
theorem lkF_UsedUpModel_81 : (Jvm.Cond.fieldLink "UsedUpModel" (81 : Nat) "UsedUpModel" "needs" "[J") ∈ qTB := qw4 134 rfl rfl
theorem lkF_UsedUpModel_84 : (Jvm.Cond.fieldLink "UsedUpModel" (84 : Nat) "UsedUpModel" "wasCaps" "[I") ∈ qTB := qw4 135 rfl rfl
theorem lkF_UsedUpModel_87 : (Jvm.Cond.fieldLink "UsedUpModel" (87 : Nat) "UsedUpModel" "within" "[I") ∈ qTB := qw4 136 rfl rfl
theorem lkF_UsedUpModel_90 : (Jvm.Cond.fieldLink "UsedUpModel" (90 : Nat) "UsedUpModel" "heldAhead" "[I") ∈ qTB := qw4 137 rfl rfl
theorem lkF_UsedUpModel_335 : (Jvm.Cond.fieldLink "UsedUpModel" (335 : Nat) "UsedUpModel" "nSteps" "I") ∈ qTB := qw4 138 rfl rfl
theorem lkF_UsedUpModel_93 : (Jvm.Cond.fieldLink "UsedUpModel" (93 : Nat) "UsedUpModel" "nKind" "[I") ∈ qTB := qw4 139 rfl rfl
theorem lkF_UsedUpModel_96 : (Jvm.Cond.fieldLink "UsedUpModel" (96 : Nat) "UsedUpModel" "nEnd" "[I") ∈ qTB := qw4 140 rfl rfl
theorem lkF_UsedUpModel_99 : (Jvm.Cond.fieldLink "UsedUpModel" (99 : Nat) "UsedUpModel" "nElse" "[I") ∈ qTB := qw4 141 rfl rfl
theorem lkF_UsedUpModel_102 : (Jvm.Cond.fieldLink "UsedUpModel" (102 : Nat) "UsedUpModel" "nA" "[I") ∈ qTB := qw4 142 rfl rfl
theorem lkF_UsedUpModel_105 : (Jvm.Cond.fieldLink "UsedUpModel" (105 : Nat) "UsedUpModel" "nB" "[I") ∈ qTB := qw4 143 rfl rfl
theorem lkF_UsedUpModel_108 : (Jvm.Cond.fieldLink "UsedUpModel" (108 : Nat) "UsedUpModel" "nFactors" "[I") ∈ qTB := qw4 144 rfl rfl
theorem lkF_UsedUpModel_320 : (Jvm.Cond.fieldLink "UsedUpModel" (320 : Nat) "UsedUpModel" "nMany" "I") ∈ qTB := qw4 145 rfl rfl
theorem lkF_UsedUpModel_111 : (Jvm.Cond.fieldLink "UsedUpModel" (111 : Nat) "UsedUpModel" "mKind" "[I") ∈ qTB := qw4 146 rfl rfl
theorem lkF_UsedUpModel_114 : (Jvm.Cond.fieldLink "UsedUpModel" (114 : Nat) "UsedUpModel" "mValue" "[I") ∈ qTB := qw4 147 rfl rfl
theorem lkF_UsedUpModel_117 : (Jvm.Cond.fieldLink "UsedUpModel" (117 : Nat) "UsedUpModel" "mPlus" "[Z") ∈ qTB := qw4 148 rfl rfl
theorem lkF_UsedUpModel_354 : (Jvm.Cond.fieldLink "UsedUpModel" (354 : Nat) "UsedUpModel" "nDefs" "I") ∈ qTB := qw4 149 rfl rfl
theorem lkF_UsedUpModel_120 : (Jvm.Cond.fieldLink "UsedUpModel" (120 : Nat) "UsedUpModel" "nFrom" "[I") ∈ qTB := qw4 150 rfl rfl
theorem lkF_UsedUpModel_123 : (Jvm.Cond.fieldLink "UsedUpModel" (123 : Nat) "UsedUpModel" "nTo" "[I") ∈ qTB := qw4 151 rfl rfl
theorem lkF_UsedUpModel_357 : (Jvm.Cond.fieldLink "UsedUpModel" (357 : Nat) "UsedUpModel" "nMain" "I") ∈ qTB := qw4 152 rfl rfl
theorem lkF_UsedUpModel_338 : (Jvm.Cond.fieldLink "UsedUpModel" (338 : Nat) "UsedUpModel" "nPlaces" "I") ∈ qTB := qw4 153 rfl rfl
theorem lkF_UsedUpModel_126 : (Jvm.Cond.fieldLink "UsedUpModel" (126 : Nat) "UsedUpModel" "named" "[I") ∈ qTB := qw4 154 rfl rfl
theorem lkF_UsedUpModel_129 : (Jvm.Cond.fieldLink "UsedUpModel" (129 : Nat) "UsedUpModel" "open" "[I") ∈ qTB := qw4 155 rfl rfl
theorem lkF_UsedUpModel_329 : (Jvm.Cond.fieldLink "UsedUpModel" (329 : Nat) "UsedUpModel" "depth" "I") ∈ qTB := qw4 156 rfl rfl
theorem lkF_UsedUpModel_351 : (Jvm.Cond.fieldLink "UsedUpModel" (351 : Nat) "UsedUpModel" "letter" "I") ∈ qTB := qw4 157 rfl rfl
theorem lkF_UsedUpModel_132 : (Jvm.Cond.fieldLink "UsedUpModel" (132 : Nat) "UsedUpModel" "tape" "[I") ∈ qTB := qw4 158 rfl rfl
theorem lkF_UsedUpModel_269 : (Jvm.Cond.fieldLink "UsedUpModel" (269 : Nat) "UsedUpModel" "taped" "I") ∈ qTB := qw4 159 rfl rfl
theorem lkF_UsedUpModel_279 : (Jvm.Cond.fieldLink "UsedUpModel" (279 : Nat) "UsedUpModel" "from" "I") ∈ qTB := qw4 160 rfl rfl
theorem lkF_UsedUpModel_276 : (Jvm.Cond.fieldLink "UsedUpModel" (276 : Nat) "UsedUpModel" "to" "I") ∈ qTB := qw4 161 rfl rfl
theorem lkF_UsedUpModel_292 : (Jvm.Cond.fieldLink "UsedUpModel" (292 : Nat) "UsedUpModel" "sort" "I") ∈ qTB := qw4 162 rfl rfl
theorem lkF_UsedUpModel_282 : (Jvm.Cond.fieldLink "UsedUpModel" (282 : Nat) "UsedUpModel" "worth" "J") ∈ qTB := qw4 163 rfl rfl
theorem lkF_UsedUpModel_135 : (Jvm.Cond.fieldLink "UsedUpModel" (135 : Nat) "UsedUpModel" "fault" "I") ∈ qTB := qw4 164 rfl rfl
theorem lkF_UsedUpModel_303 : (Jvm.Cond.fieldLink "UsedUpModel" (303 : Nat) "UsedUpModel" "bad" "Z") ∈ qTB := qw4 165 rfl rfl
theorem lkL_UsedUpLaw_17 : (Jvm.Cond.methodLink "UsedUpLaw" (17 : Nat) ({ cls := "UsedUpModel", name := "name", desc := "(III)I" } : Jvm.MethodName)) ∈ qTB := qw5 56 rfl rfl
theorem lkK_UsedUpModel_145 : (Jvm.Cond.constantLong "UsedUpModel" (145 : Nat) (3 : Int64)) ∈ qTB := qw5 60 rfl rfl
theorem lkL_UsedUpModel_147 : (Jvm.Cond.methodLink "UsedUpModel" (147 : Nat) ({ cls := "UsedUpModel", name := "in", desc := "(JJJ)Z" } : Jvm.MethodName)) ∈ qTB := qw5 61 rfl rfl
theorem lkK_UsedUpModel_151 : (Jvm.Cond.constantLong "UsedUpModel" (151 : Nat) (5 : Int64)) ∈ qTB := qw5 64 rfl rfl
theorem lkK_UsedUpModel_153 : (Jvm.Cond.constantLong "UsedUpModel" (153 : Nat) (9 : Int64)) ∈ qTB := qw5 65 rfl rfl
theorem lkL_UsedUpModel_155 : (Jvm.Cond.methodLink "UsedUpModel" (155 : Nat) ({ cls := "UsedUpModel", name := "told", desc := "(I)I" } : Jvm.MethodName)) ∈ qTB := qw5 66 rfl rfl
theorem lkL_UsedUpLaw_50 : (Jvm.Cond.methodLink "UsedUpLaw" (50 : Nat) ({ cls := "UsedUpModel", name := "spends", desc := "(IIIII)J" } : Jvm.MethodName)) ∈ qTB := qw5 70 rfl rfl
theorem lkK_UsedUpModel_205 : (Jvm.Cond.constantLong "UsedUpModel" (205 : Nat) (1000 : Int64)) ∈ qTB := qw5 74 rfl rfl
theorem lkK_UsedUpModel_207 : (Jvm.Cond.constantLong "UsedUpModel" (207 : Nat) (-1 : Int64)) ∈ qTB := qw5 75 rfl rfl
theorem lkL_UsedUpModel_209 : (Jvm.Cond.methodLink "UsedUpModel" (209 : Nat) ({ cls := "UsedUpModel", name := "set", desc := "(IIII)V" } : Jvm.MethodName)) ∈ qTB := qw5 76 rfl rfl
theorem lkL_UsedUpModel_213 : (Jvm.Cond.methodLink "UsedUpModel" (213 : Nat) ({ cls := "UsedUpModel", name := "spendsBy", desc := "(I)J" } : Jvm.MethodName)) ∈ qTB := qw5 80 rfl rfl
theorem lkL_UsedUpModel_191 : (Jvm.Cond.methodLink "UsedUpModel" (191 : Nat) ({ cls := "UsedUpModel", name := "reckon", desc := "(II)V" } : Jvm.MethodName)) ∈ qTB := qw5 84 rfl rfl
theorem lkL_UsedUpModel_178 : (Jvm.Cond.methodLink "UsedUpModel" (178 : Nat) ({ cls := "UsedUpModel", name := "timeOf", desc := "(II)J" } : Jvm.MethodName)) ∈ qTB := qw5 88 rfl rfl
theorem lkL_UsedUpModel_171 : (Jvm.Cond.methodLink "UsedUpModel" (171 : Nat) ({ cls := "UsedUpModel", name := "add", desc := "(JJ)J" } : Jvm.MethodName)) ∈ qTB := qw5 92 rfl rfl
theorem lkL_UsedUpModel_161 : (Jvm.Cond.methodLink "UsedUpModel" (161 : Nat) ({ cls := "UsedUpModel", name := "least", desc := "(J)J" } : Jvm.MethodName)) ∈ qTB := qw5 95 rfl rfl
theorem lkK_UsedUpModel_159 : (Jvm.Cond.constantLong "UsedUpModel" (159 : Nat) (1000000000000 : Int64)) ∈ qTB := qw5 98 rfl rfl
theorem lkL_UsedUpModel_182 : (Jvm.Cond.methodLink "UsedUpModel" (182 : Nat) ({ cls := "UsedUpModel", name := "roomOf", desc := "(II)J" } : Jvm.MethodName)) ∈ qTB := qw5 99 rfl rfl
theorem lkL_UsedUpModel_185 : (Jvm.Cond.methodLink "UsedUpModel" (185 : Nat) ({ cls := "UsedUpModel", name := "amount", desc := "(I)J" } : Jvm.MethodName)) ∈ qTB := qw5 103 rfl rfl
theorem lkL_UsedUpModel_174 : (Jvm.Cond.methodLink "UsedUpModel" (174 : Nat) ({ cls := "UsedUpModel", name := "factor", desc := "(I)J" } : Jvm.MethodName)) ∈ qTB := qw5 107 rfl rfl
theorem lkK_UsedUpModel_165 : (Jvm.Cond.constantLong "UsedUpModel" (165 : Nat) (2 : Int64)) ∈ qTB := qw5 111 rfl rfl
theorem lkL_UsedUpModel_167 : (Jvm.Cond.methodLink "UsedUpModel" (167 : Nat) ({ cls := "UsedUpModel", name := "multiply", desc := "(JJ)J" } : Jvm.MethodName)) ∈ qTB := qw5 112 rfl rfl
theorem lkL_UsedUpLaw_55 : (Jvm.Cond.methodLink "UsedUpLaw" (55 : Nat) ({ cls := "UsedUpModel", name := "worst", desc := "(II)J" } : Jvm.MethodName)) ∈ qTB := qw5 115 rfl rfl
theorem lkL_UsedUpModel_219 : (Jvm.Cond.methodLink "UsedUpModel" (219 : Nat) ({ cls := "UsedUpModel", name := "weigh", desc := "()I" } : Jvm.MethodName)) ∈ qTB := qw5 119 rfl rfl
theorem lkL_UsedUpModel_223 : (Jvm.Cond.methodLink "UsedUpModel" (223 : Nat) ({ cls := "UsedUpModel", name := "keepAsk", desc := "()V" } : Jvm.MethodName)) ∈ qTB := qw5 123 rfl rfl
theorem lkL_UsedUpModel_226 : (Jvm.Cond.methodLink "UsedUpModel" (226 : Nat) ({ cls := "UsedUpModel", name := "nextAsk", desc := "()Z" } : Jvm.MethodName)) ∈ qTB := qw5 127 rfl rfl
theorem lkL_UsedUpLaw_62 : (Jvm.Cond.methodLink "UsedUpLaw" (62 : Nat) ({ cls := "UsedUpModel", name := "cheapest", desc := "(IJ)I" } : Jvm.MethodName)) ∈ qTB := qw5 131 rfl rfl
theorem lkL_UsedUpLaw_66 : (Jvm.Cond.methodLink "UsedUpLaw" (66 : Nat) ({ cls := "UsedUpModel", name := "ask", desc := "(I)I" } : Jvm.MethodName)) ∈ qTB := qw5 135 rfl rfl
theorem lkL_UsedUpLaw_71 : (Jvm.Cond.methodLink "UsedUpLaw" (71 : Nat) ({ cls := "UsedUpModel", name := "where", desc := "(I)J" } : Jvm.MethodName)) ∈ qTB := qw5 139 rfl rfl
theorem lkL_UsedUpModel_233 : (Jvm.Cond.methodLink "UsedUpModel" (233 : Nat) ({ cls := "UsedUpModel", name := "visit", desc := "(IIJ)V" } : Jvm.MethodName)) ∈ qTB := qw5 143 rfl rfl
theorem lkL_UsedUpLaw_76 : (Jvm.Cond.methodLink "UsedUpLaw" (76 : Nat) ({ cls := "UsedUpModel", name := "ordinary", desc := "(IIII)I" } : Jvm.MethodName)) ∈ qTB := qw5 147 rfl rfl
theorem lkL_UsedUpLaw_80 : (Jvm.Cond.methodLink "UsedUpLaw" (80 : Nat) ({ cls := "UsedUpModel", name := "need", desc := "(I)J" } : Jvm.MethodName)) ∈ qTB := qw5 151 rfl rfl
theorem lkL_UsedUpModel_240 : (Jvm.Cond.methodLink "UsedUpModel" (240 : Nat) ({ cls := "UsedUpModel", name := "needOf", desc := "(I)J" } : Jvm.MethodName)) ∈ qTB := qw5 155 rfl rfl
theorem lkL_UsedUpLaw_85 : (Jvm.Cond.methodLink "UsedUpLaw" (85 : Nat) ({ cls := "UsedUpModel", name := "budgets", desc := "(J)I" } : Jvm.MethodName)) ∈ qTB := qw5 159 rfl rfl
theorem lkL_UsedUpModel_245 : (Jvm.Cond.methodLink "UsedUpModel" (245 : Nat) ({ cls := "UsedUpModel", name := "bits", desc := "(I)I" } : Jvm.MethodName)) ∈ qTB := qw5 163 rfl rfl
theorem lkL_UsedUpModel_248 : (Jvm.Cond.methodLink "UsedUpModel" (248 : Nat) ({ cls := "UsedUpModel", name := "isFirst", desc := "(II)Z" } : Jvm.MethodName)) ∈ qTB := qw5 166 rfl rfl
theorem lkL_UsedUpModel_252 : (Jvm.Cond.methodLink "UsedUpModel" (252 : Nat) ({ cls := "UsedUpModel", name := "put", desc := "(I)Z" } : Jvm.MethodName)) ∈ qTB := qw5 169 rfl rfl
theorem lkK_UsedUpModel_243 : (Jvm.Cond.constantLong "UsedUpModel" (243 : Nat) (1000000 : Int64)) ∈ qTB := qw5 173 rfl rfl
theorem lkL_UsedUpModel_256 : (Jvm.Cond.methodLink "UsedUpModel" (256 : Nat) ({ cls := "UsedUpModel", name := "isBelow", desc := "(J)Z" } : Jvm.MethodName)) ∈ qTB := qw5 174 rfl rfl
theorem lkL_UsedUpLaw_41 : (Jvm.Cond.methodLink "UsedUpLaw" (41 : Nat) ({ cls := "UsedUpModel", name := "cap", desc := "(II)I" } : Jvm.MethodName)) ∈ qTB := qw5 178 rfl rfl
theorem lkL_UsedUpLaw_45 : (Jvm.Cond.methodLink "UsedUpLaw" (45 : Nat) ({ cls := "UsedUpModel", name := "capped", desc := "(I)I" } : Jvm.MethodName)) ∈ qTB := qw5 182 rfl rfl
theorem lkL_UsedUpLaw_89 : (Jvm.Cond.methodLink "UsedUpLaw" (89 : Nat) ({ cls := "UsedUpModel", name := "ahead", desc := "(II)I" } : Jvm.MethodName)) ∈ qTB := qw5 186 rfl rfl
theorem lkK_UsedUpModel_264 : (Jvm.Cond.constantLong "UsedUpModel" (264 : Nat) (7 : Int64)) ∈ qTB := qw5 190 rfl rfl
theorem lkL_UsedUpModel_266 : (Jvm.Cond.methodLink "UsedUpModel" (266 : Nat) ({ cls := "UsedUpModel", name := "findLocks", desc := "()V" } : Jvm.MethodName)) ∈ qTB := qw5 191 rfl rfl
theorem lkL_UsedUpModel_260 : (Jvm.Cond.methodLink "UsedUpModel" (260 : Nat) ({ cls := "UsedUpModel", name := "locksIn", desc := "(II)I" } : Jvm.MethodName)) ∈ qTB := qw5 195 rfl rfl
theorem lkL_UsedUpLaw_93 : (Jvm.Cond.methodLink "UsedUpLaw" (93 : Nat) ({ cls := "UsedUpModel", name := "tangled", desc := "()I" } : Jvm.MethodName)) ∈ qTB := qw5 199 rfl rfl
theorem lkL_UsedUpLaw_22 : (Jvm.Cond.methodLink "UsedUpLaw" (22 : Nat) ({ cls := "UsedUpModel", name := "feed", desc := "(IIIII)I" } : Jvm.MethodName)) ∈ qTB := qw5 203 rfl rfl
theorem lkL_UsedUpModel_272 : (Jvm.Cond.methodLink "UsedUpModel" (272 : Nat) ({ cls := "UsedUpModel", name := "four", desc := "(I)V" } : Jvm.MethodName)) ∈ qTB := qw5 207 rfl rfl
theorem lkL_UsedUpLaw_27 : (Jvm.Cond.methodLink "UsedUpLaw" (27 : Nat) ({ cls := "UsedUpModel", name := "end", desc := "(I)I" } : Jvm.MethodName)) ∈ qTB := qw5 211 rfl rfl
theorem lkL_UsedUpLaw_32 : (Jvm.Cond.methodLink "UsedUpLaw" (32 : Nat) ({ cls := "UsedUpModel", name := "program", desc := "()I" } : Jvm.MethodName)) ∈ qTB := qw5 215 rfl rfl
theorem lkL_UsedUpModel_306 : (Jvm.Cond.methodLink "UsedUpModel" (306 : Nat) ({ cls := "UsedUpModel", name := "next", desc := "()V" } : Jvm.MethodName)) ∈ qTB := qw5 219 rfl rfl
theorem lkL_UsedUpModel_286 : (Jvm.Cond.methodLink "UsedUpModel" (286 : Nat) ({ cls := "UsedUpModel", name := "isSmall", desc := "(I)Z" } : Jvm.MethodName)) ∈ qTB := qw5 223 rfl rfl
theorem lkL_UsedUpModel_289 : (Jvm.Cond.methodLink "UsedUpModel" (289 : Nat) ({ cls := "UsedUpModel", name := "isDigit", desc := "(I)Z" } : Jvm.MethodName)) ∈ qTB := qw5 226 rfl rfl
theorem lkK_UsedUpModel_295 : (Jvm.Cond.constantLong "UsedUpModel" (295 : Nat) (32 : Int64)) ∈ qTB := qw5 229 rfl rfl
theorem lkK_UsedUpModel_297 : (Jvm.Cond.constantLong "UsedUpModel" (297 : Nat) (96 : Int64)) ∈ qTB := qw5 230 rfl rfl
theorem lkK_UsedUpModel_299 : (Jvm.Cond.constantLong "UsedUpModel" (299 : Nat) (10 : Int64)) ∈ qTB := qw5 231 rfl rfl
theorem lkK_UsedUpModel_301 : (Jvm.Cond.constantLong "UsedUpModel" (301 : Nat) (48 : Int64)) ∈ qTB := qw5 232 rfl rfl
theorem lkL_UsedUpModel_326 : (Jvm.Cond.methodLink "UsedUpModel" (326 : Nat) ({ cls := "UsedUpModel", name := "isSign", desc := "(I)Z" } : Jvm.MethodName)) ∈ qTB := qw5 233 rfl rfl
theorem lkL_UsedUpModel_360 : (Jvm.Cond.methodLink "UsedUpModel" (360 : Nat) ({ cls := "UsedUpModel", name := "closeBlock", desc := "()V" } : Jvm.MethodName)) ∈ qTB := qw5 237 rfl rfl
theorem lkL_UsedUpModel_309 : (Jvm.Cond.methodLink "UsedUpModel" (309 : Nat) ({ cls := "UsedUpModel", name := "must", desc := "(Z)V" } : Jvm.MethodName)) ∈ qTB := qw6 1 rfl rfl
theorem lkL_UsedUpModel_313 : (Jvm.Cond.methodLink "UsedUpModel" (313 : Nat) ({ cls := "UsedUpModel", name := "isWord", desc := "(IIIIII)Z" } : Jvm.MethodName)) ∈ qTB := qw6 5 rfl rfl
theorem lkL_UsedUpModel_348 : (Jvm.Cond.methodLink "UsedUpModel" (348 : Nat) ({ cls := "UsedUpModel", name := "openBlock", desc := "(I)V" } : Jvm.MethodName)) ∈ qTB := qw6 9 rfl rfl
theorem lkL_UsedUpModel_363 : (Jvm.Cond.methodLink "UsedUpModel" (363 : Nat) ({ cls := "UsedUpModel", name := "readDef", desc := "()V" } : Jvm.MethodName)) ∈ qTB := qw6 13 rfl rfl
theorem lkL_UsedUpModel_317 : (Jvm.Cond.methodLink "UsedUpModel" (317 : Nat) ({ cls := "UsedUpModel", name := "oneOf", desc := "(II)I" } : Jvm.MethodName)) ∈ qTB := qw6 17 rfl rfl
theorem lkL_UsedUpModel_366 : (Jvm.Cond.methodLink "UsedUpModel" (366 : Nat) ({ cls := "UsedUpModel", name := "readStep", desc := "()V" } : Jvm.MethodName)) ∈ qTB := qw6 21 rfl rfl
theorem lkL_UsedUpModel_332 : (Jvm.Cond.methodLink "UsedUpModel" (332 : Nat) ({ cls := "UsedUpModel", name := "kindAt", desc := "()I" } : Jvm.MethodName)) ∈ qTB := qw6 25 rfl rfl
theorem lkL_UsedUpModel_341 : (Jvm.Cond.methodLink "UsedUpModel" (341 : Nat) ({ cls := "UsedUpModel", name := "readAmount", desc := "()V" } : Jvm.MethodName)) ∈ qTB := qw6 29 rfl rfl
theorem lkL_UsedUpModel_323 : (Jvm.Cond.methodLink "UsedUpModel" (323 : Nat) ({ cls := "UsedUpModel", name := "readFactor", desc := "(Z)V" } : Jvm.MethodName)) ∈ qTB := qw6 33 rfl rfl
theorem lkL_UsedUpModel_344 : (Jvm.Cond.methodLink "UsedUpModel" (344 : Nat) ({ cls := "UsedUpModel", name := "number", desc := "(J)I" } : Jvm.MethodName)) ∈ qTB := qw6 37 rfl rfl
theorem lkL_UsedUpModel_369 : (Jvm.Cond.methodLink "UsedUpModel" (369 : Nat) ({ cls := "UsedUpModel", name := "adopt", desc := "()V" } : Jvm.MethodName)) ∈ qTB := qw6 41 rfl rfl
theorem lkL_UsedUpLaw_36 : (Jvm.Cond.methodLink "UsedUpLaw" (36 : Nat) ({ cls := "UsedUpModel", name := "fault", desc := "()I" } : Jvm.MethodName)) ∈ qTB := qw6 45 rfl rfl
theorem lkL_UsedUpLaw_97 : (Jvm.Cond.methodLink "UsedUpLaw" (97 : Nat) ({ cls := "UsedUpModel", name := "count", desc := "(I)I" } : Jvm.MethodName)) ∈ qTB := qw6 49 rfl rfl
theorem lkL_UsedUpLaw_101 : (Jvm.Cond.methodLink "UsedUpLaw" (101 : Nat) ({ cls := "UsedUpModel", name := "status", desc := "()I" } : Jvm.MethodName)) ∈ qTB := qw6 53 rfl rfl
theorem lkK_UsedUpLaw_56 : (Jvm.Cond.constantLong "UsedUpLaw" (56 : Nat) (4294967295 : Int64)) ∈ qTB := qw6 57 rfl rfl
theorem lkMC_min_i : (Jvm.Cond.code ({ cls := "java/lang/Math", name := "min", desc := "(II)I" } : Jvm.MethodName) prog_13_method_69_code (2 : Nat) (Option.some Jvm.ClassFile.FieldType.int)) ∈ qTB := qw2 153 rfl rfl
theorem lkMS_min_i : (Jvm.Cond.static ({ cls := "java/lang/Math", name := "min", desc := "(II)I" } : Jvm.MethodName)) ∈ qTB := qw2 152 rfl rfl
theorem lkMC_min_j : (Jvm.Cond.code ({ cls := "java/lang/Math", name := "min", desc := "(JJ)J" } : Jvm.MethodName) prog_13_method_70_code (4 : Nat) (Option.some Jvm.ClassFile.FieldType.long)) ∈ qTB := qw3 164 rfl rfl
theorem lkMS_min_j : (Jvm.Cond.static ({ cls := "java/lang/Math", name := "min", desc := "(JJ)J" } : Jvm.MethodName)) ∈ qTB := qw3 163 rfl rfl
theorem lkMC_max_i : (Jvm.Cond.code ({ cls := "java/lang/Math", name := "max", desc := "(II)I" } : Jvm.MethodName) prog_13_method_65_code (2 : Nat) (Option.some Jvm.ClassFile.FieldType.int)) ∈ qTB := qw3 87 rfl rfl
theorem lkMS_max_i : (Jvm.Cond.static ({ cls := "java/lang/Math", name := "max", desc := "(II)I" } : Jvm.MethodName)) ∈ qTB := qw3 86 rfl rfl
theorem lkMC_max_j : (Jvm.Cond.code ({ cls := "java/lang/Math", name := "max", desc := "(JJ)J" } : Jvm.MethodName) prog_13_method_66_code (4 : Nat) (Option.some Jvm.ClassFile.FieldType.long)) ∈ qTB := qw3 191 rfl rfl
theorem lkMS_max_j : (Jvm.Cond.static ({ cls := "java/lang/Math", name := "max", desc := "(JJ)J" } : Jvm.MethodName)) ∈ qTB := qw3 190 rfl rfl
