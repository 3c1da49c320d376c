/-! the references: sc is the script in use, it the one that the reader writes -/
def rr (sc it : Nat) : Nat → Nat → Option Nat := fun o k =>
  if o = 100 then (match k with
    | 0 => some sc
    | 1 => some (260 - sc)
    | 2 => some 160
    | 3 => some 170
    | 4 => some 180
    | 5 => some 190
    | 6 => some 200
    | 7 => some 210
    | k => some (101 + k))
  else if o = 170 then (match k with
    | 0 => some 165
    | 1 => some it
    | k => some (171 + k))
  else if o = 165 then some 160
  else if o = 210 then (match k with
    | 0 => some 180
    | 1 => some 200
    | k => some (211 + k))
  else some (o + 1 + k)
theorem r_0_2 {sc it : Nat} : rr sc it 0 2 = some 3 := rfl
theorem r_0_3 {sc it : Nat} : rr sc it 0 3 = some 4 := rfl
theorem r_0_6 {sc it : Nat} : rr sc it 0 6 = some 7 := rfl
theorem r_0_7 {sc it : Nat} : rr sc it 0 7 = some 8 := rfl
theorem r_0_8 {sc it : Nat} : rr sc it 0 8 = some 9 := rfl
theorem r_0_9 {sc it : Nat} : rr sc it 0 9 = some 10 := rfl
theorem r_0_10 {sc it : Nat} : rr sc it 0 10 = some 11 := rfl
theorem r_0_11 {sc it : Nat} : rr sc it 0 11 = some 12 := rfl
theorem r_0_12 {sc it : Nat} : rr sc it 0 12 = some 13 := rfl
theorem r_0_13 {sc it : Nat} : rr sc it 0 13 = some 14 := rfl
theorem r_0_14 {sc it : Nat} : rr sc it 0 14 = some 15 := rfl
theorem r_0_16 {sc it : Nat} : rr sc it 0 16 = some 17 := rfl
theorem r_0_17 {sc it : Nat} : rr sc it 0 17 = some 18 := rfl
theorem r_0_20 {sc it : Nat} : rr sc it 0 20 = some 21 := rfl
theorem r_0_21 {sc it : Nat} : rr sc it 0 21 = some 22 := rfl
theorem r_0_22 {sc it : Nat} : rr sc it 0 22 = some 23 := rfl
theorem r_0_23 {sc it : Nat} : rr sc it 0 23 = some 24 := rfl
theorem r_0_24 {sc it : Nat} : rr sc it 0 24 = some 25 := rfl
theorem r_0_25 {sc it : Nat} : rr sc it 0 25 = some 26 := rfl
theorem r_0_26 {sc it : Nat} : rr sc it 0 26 = some 27 := rfl
theorem r_0_28 {sc it : Nat} : rr sc it 0 28 = some 29 := rfl
theorem r_0_29 {sc it : Nat} : rr sc it 0 29 = some 30 := rfl
theorem r_0_31 {sc it : Nat} : rr sc it 0 31 = some 32 := rfl
theorem r_0_32 {sc it : Nat} : rr sc it 0 32 = some 33 := rfl
theorem r_0_33 {sc it : Nat} : rr sc it 0 33 = some 34 := rfl
theorem r_0_34 {sc it : Nat} : rr sc it 0 34 = some 35 := rfl
theorem r_0_35 {sc it : Nat} : rr sc it 0 35 = some 36 := rfl
theorem r_0_37 {sc it : Nat} : rr sc it 0 37 = some 38 := rfl
theorem r_0_38 {sc it : Nat} : rr sc it 0 38 = some 39 := rfl
theorem r_0_39 {sc it : Nat} : rr sc it 0 39 = some 40 := rfl
theorem r_0_40 {sc it : Nat} : rr sc it 0 40 = some 41 := rfl
theorem r_0_41 {sc it : Nat} : rr sc it 0 41 = some 42 := rfl
theorem r_0_42 {sc it : Nat} : rr sc it 0 42 = some 43 := rfl
theorem r_0_44 {sc it : Nat} : rr sc it 0 44 = some 45 := rfl
theorem r_0_45 {sc it : Nat} : rr sc it 0 45 = some 46 := rfl
theorem r_0_46 {sc it : Nat} : rr sc it 0 46 = some 47 := rfl
theorem r_0_48 {sc it : Nat} : rr sc it 0 48 = some 49 := rfl
theorem r_0_49 {sc it : Nat} : rr sc it 0 49 = some 50 := rfl
theorem r_0_52 {sc it : Nat} : rr sc it 0 52 = some 53 := rfl
theorem r_0_53 {sc it : Nat} : rr sc it 0 53 = some 54 := rfl
theorem r_0_56 {sc it : Nat} : rr sc it 0 56 = some 57 := rfl
theorem r_100_2 {sc it : Nat} : rr sc it 100 2 = some 160 := rfl
theorem r_100_3 {sc it : Nat} : rr sc it 100 3 = some 170 := rfl
theorem r_100_4 {sc it : Nat} : rr sc it 100 4 = some 180 := rfl
theorem r_100_5 {sc it : Nat} : rr sc it 100 5 = some 190 := rfl
theorem r_100_6 {sc it : Nat} : rr sc it 100 6 = some 200 := rfl
theorem r_100_7 {sc it : Nat} : rr sc it 100 7 = some 210 := rfl
theorem r_100_9 {sc it : Nat} : rr sc it 100 9 = some 110 := rfl
theorem r_100_10 {sc it : Nat} : rr sc it 100 10 = some 111 := rfl
theorem r_100_12 {sc it : Nat} : rr sc it 100 12 = some 113 := rfl
theorem r_120_4 {sc it : Nat} : rr sc it 120 4 = some 125 := rfl
theorem r_120_5 {sc it : Nat} : rr sc it 120 5 = some 126 := rfl
theorem r_120_6 {sc it : Nat} : rr sc it 120 6 = some 127 := rfl
theorem r_120_7 {sc it : Nat} : rr sc it 120 7 = some 128 := rfl
theorem r_120_8 {sc it : Nat} : rr sc it 120 8 = some 129 := rfl
theorem r_120_9 {sc it : Nat} : rr sc it 120 9 = some 130 := rfl
theorem r_120_10 {sc it : Nat} : rr sc it 120 10 = some 131 := rfl
theorem r_120_11 {sc it : Nat} : rr sc it 120 11 = some 132 := rfl
theorem r_120_12 {sc it : Nat} : rr sc it 120 12 = some 133 := rfl
theorem r_120_13 {sc it : Nat} : rr sc it 120 13 = some 134 := rfl
theorem r_120_14 {sc it : Nat} : rr sc it 120 14 = some 135 := rfl
theorem r_120_15 {sc it : Nat} : rr sc it 120 15 = some 136 := rfl
theorem r_140_4 {sc it : Nat} : rr sc it 140 4 = some 145 := rfl
theorem r_140_5 {sc it : Nat} : rr sc it 140 5 = some 146 := rfl
theorem r_140_6 {sc it : Nat} : rr sc it 140 6 = some 147 := rfl
theorem r_140_7 {sc it : Nat} : rr sc it 140 7 = some 148 := rfl
theorem r_140_8 {sc it : Nat} : rr sc it 140 8 = some 149 := rfl
theorem r_140_9 {sc it : Nat} : rr sc it 140 9 = some 150 := rfl
theorem r_140_10 {sc it : Nat} : rr sc it 140 10 = some 151 := rfl
theorem r_140_11 {sc it : Nat} : rr sc it 140 11 = some 152 := rfl
theorem r_140_12 {sc it : Nat} : rr sc it 140 12 = some 153 := rfl
theorem r_140_13 {sc it : Nat} : rr sc it 140 13 = some 154 := rfl
theorem r_140_14 {sc it : Nat} : rr sc it 140 14 = some 155 := rfl
theorem r_140_15 {sc it : Nat} : rr sc it 140 15 = some 156 := rfl
theorem r_160_0 {sc it : Nat} : rr sc it 160 0 = some 161 := rfl
theorem r_165_0 {sc it : Nat} : rr sc it 165 0 = some 160 := rfl
theorem r_170_0 {sc it : Nat} : rr sc it 170 0 = some 165 := rfl
theorem r_170_2 {sc it : Nat} : rr sc it 170 2 = some 173 := rfl
theorem r_170_3 {sc it : Nat} : rr sc it 170 3 = some 174 := rfl
theorem r_170_6 {sc it : Nat} : rr sc it 170 6 = some 177 := rfl
theorem r_180_0 {sc it : Nat} : rr sc it 180 0 = some 181 := rfl
theorem r_180_1 {sc it : Nat} : rr sc it 180 1 = some 182 := rfl
theorem r_180_2 {sc it : Nat} : rr sc it 180 2 = some 183 := rfl
theorem r_180_3 {sc it : Nat} : rr sc it 180 3 = some 184 := rfl
theorem r_180_4 {sc it : Nat} : rr sc it 180 4 = some 185 := rfl
theorem r_180_5 {sc it : Nat} : rr sc it 180 5 = some 186 := rfl
theorem r_190_0 {sc it : Nat} : rr sc it 190 0 = some 191 := rfl
theorem r_190_2 {sc it : Nat} : rr sc it 190 2 = some 193 := rfl
theorem r_190_3 {sc it : Nat} : rr sc it 190 3 = some 194 := rfl
theorem r_200_0 {sc it : Nat} : rr sc it 200 0 = some 201 := rfl
theorem r_200_1 {sc it : Nat} : rr sc it 200 1 = some 202 := rfl
theorem r_200_2 {sc it : Nat} : rr sc it 200 2 = some 203 := rfl
theorem r_200_3 {sc it : Nat} : rr sc it 200 3 = some 204 := rfl
theorem r_210_0 {sc it : Nat} : rr sc it 210 0 = some 180 := rfl
theorem r_210_1 {sc it : Nat} : rr sc it 210 1 = some 200 := rfl
theorem r_210_2 {sc it : Nat} : rr sc it 210 2 = some 213 := rfl
theorem r_210_4 {sc it : Nat} : rr sc it 210 4 = some 215 := rfl
theorem r_210_5 {sc it : Nat} : rr sc it 210 5 = some 216 := rfl
theorem r_210_6 {sc it : Nat} : rr sc it 210 6 = some 217 := rfl
theorem r_210_7 {sc it : Nat} : rr sc it 210 7 = some 218 := rfl
theorem r_100_0 {sc it : Nat} : rr sc it 100 0 = some sc := rfl
theorem r_100_1 {sc it : Nat} : rr sc it 100 1 = some (260 - sc) := rfl
theorem r_170_1 {sc it : Nat} : rr sc it 170 1 = some it := rfl
