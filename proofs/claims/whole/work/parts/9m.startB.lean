/-! the start: the world that the constructors leave (mk9l.py) -/
def sI0 : Nat → Nat → Int32 := fun o => if o = 201 then fun _ => nI 5 else if o = 3 then fun _ => nI 5 else if o = 202 then fun _ => nI 1 else if o = 4 then fun _ => nI 1 else if o = 110 then fun _ => -1 else if o = 22 then fun _ => -1 else if o = 100 then (fun k => if k = 13 then -1 else 0) else if o = 0 then (fun k => if k = 62 then -1 else 0) else if o = 170 then (fun k => if k = 7 then -1 else if k = 5 then nI 1 else 0) else fun _ => 0
def sH0 : HP := (sI0, fun _ _ => 0, rr 120 140)
def s_mI {α β : Type} (f : Nat → α → β) : Nat → List α → List β
  | _, [] => []
  | k, a :: l => f k a :: s_mI f (k + 1) l
theorem s_mIe {α β : Type} (l : List α) : ∀ (f : Nat → α → β) (k : Nat), l.mapIdx (fun i => f (i + k)) = s_mI f k l := by
  induction l with
  | nil => intro f k; rfl
  | cons a l ih =>
    intro f k
    rw [List.mapIdx_cons]
    show f (0 + k) a :: l.mapIdx (fun i => f (i + 1 + k)) = f k a :: s_mI f (k + 1) l
    rw [Nat.zero_add, ← ih f (k + 1)]
    congr 2
    funext i
    rw [Nat.add_assoc, Nat.add_comm 1 k]
theorem qc_i {cy ad : Nat → Nat} {h : HP} {i n : Nat} {f : Nat → Int32} (h1 : (qkd i).1 = 10) (h2 : (qkd i).2 = n) (h3 : h.1 i = f) : qcel cy ad h i = .inl (cy 0, n, .inl f) := by
  unfold qcel
  rw [if_pos h1, h2, h3]
theorem qc_j {cy ad : Nat → Nat} {h : HP} {i n : Nat} {f : Nat → Int64} (h1 : (qkd i).1 = 11) (h2 : (qkd i).2 = n) (h3 : h.2.1 i = f) : qcel cy ad h i = .inl (cy 1, n, .inr (.inl f)) := by
  unfold qcel
  rw [if_neg (by omega), if_pos h1, h2, h3]
theorem qc_z {cy ad : Nat → Nat} {h : HP} {i n : Nat} {f : Nat → Int32} (h1 : (qkd i).1 = 12) (h2 : (qkd i).2 = n) (h3 : h.1 i = f) : qcel cy ad h i = .inl (cy 2, n, .inl f) := by
  unfold qcel
  rw [if_neg (by omega), if_neg (by omega), if_pos h1, h2, h3]
theorem qc_o {cy ad : Nat → Nat} {h : HP} {i c : Nat} {fs : List Value} (h1 : (qkd i).1 = c) (hc : c < 10) (h2 : s_mI (fun k t => qmv ad (qgv h i k t)) 0 (qft c) = fs) : qcel cy ad h i = .inr (c, fs) := by
  have e : (qft c).mapIdx (fun k t => qmv ad (qgv h i k t)) = fs := (s_mIe (qft c) (fun k t => qmv ad (qgv h i k t)) 0).trans h2
  unfold qcel
  rw [if_neg (by omega), if_neg (by omega), if_neg (by omega), h1]
  exact congrArg (fun z => Sum.inr (c, z)) e
set_option maxRecDepth 20000 in
theorem c0_100 {cy ad : Nat → Nat} : qcel cy ad sH0 100 = .inr (8, [.ref (ad 120), .ref (ad 140), .ref (ad 160), .ref (ad 170), .ref (ad 180), .ref (ad 190), .ref (ad 200), .ref (ad 210), .int (nI 0), .ref (ad 110), .ref (ad 111), .int (nI 0), .ref (ad 113), .int (-1), .int (nI 0)]) := qc_o ka_100 (by decide) rfl
set_option maxRecDepth 20000 in
theorem c0_120 {cy ad : Nat → Nat} : qcel cy ad sH0 120 = .inr (5, [.int (nI 0), .int (nI 0), .int (nI 0), .int (nI 0), .ref (ad 125), .ref (ad 126), .ref (ad 127), .ref (ad 128), .ref (ad 129), .ref (ad 130), .ref (ad 131), .ref (ad 132), .ref (ad 133), .ref (ad 134), .ref (ad 135), .ref (ad 136), .int (nI 0)]) := qc_o ka_120 (by decide) rfl
theorem c0_125 {cy ad : Nat → Nat} : qcel cy ad sH0 125 = .inl (cy 0, 8, .inl (fun _ => 0)) := qc_i ka_125 kb_125 rfl
theorem c0_126 {cy ad : Nat → Nat} : qcel cy ad sH0 126 = .inl (cy 0, 8, .inl (fun _ => 0)) := qc_i ka_126 kb_126 rfl
theorem c0_127 {cy ad : Nat → Nat} : qcel cy ad sH0 127 = .inl (cy 0, 60, .inl (fun _ => 0)) := qc_i ka_127 kb_127 rfl
theorem c0_128 {cy ad : Nat → Nat} : qcel cy ad sH0 128 = .inl (cy 0, 60, .inl (fun _ => 0)) := qc_i ka_128 kb_128 rfl
theorem c0_129 {cy ad : Nat → Nat} : qcel cy ad sH0 129 = .inl (cy 0, 60, .inl (fun _ => 0)) := qc_i ka_129 kb_129 rfl
theorem c0_130 {cy ad : Nat → Nat} : qcel cy ad sH0 130 = .inl (cy 0, 60, .inl (fun _ => 0)) := qc_i ka_130 kb_130 rfl
theorem c0_131 {cy ad : Nat → Nat} : qcel cy ad sH0 131 = .inl (cy 0, 60, .inl (fun _ => 0)) := qc_i ka_131 kb_131 rfl
theorem c0_132 {cy ad : Nat → Nat} : qcel cy ad sH0 132 = .inl (cy 0, 60, .inl (fun _ => 0)) := qc_i ka_132 kb_132 rfl
theorem c0_133 {cy ad : Nat → Nat} : qcel cy ad sH0 133 = .inl (cy 0, 60, .inl (fun _ => 0)) := qc_i ka_133 kb_133 rfl
theorem c0_134 {cy ad : Nat → Nat} : qcel cy ad sH0 134 = .inl (cy 0, 200, .inl (fun _ => 0)) := qc_i ka_134 kb_134 rfl
theorem c0_135 {cy ad : Nat → Nat} : qcel cy ad sH0 135 = .inl (cy 0, 200, .inl (fun _ => 0)) := qc_i ka_135 kb_135 rfl
theorem c0_136 {cy ad : Nat → Nat} : qcel cy ad sH0 136 = .inl (cy 0, 200, .inl (fun _ => 0)) := qc_i ka_136 kb_136 rfl
set_option maxRecDepth 20000 in
theorem c0_140 {cy ad : Nat → Nat} : qcel cy ad sH0 140 = .inr (5, [.int (nI 0), .int (nI 0), .int (nI 0), .int (nI 0), .ref (ad 145), .ref (ad 146), .ref (ad 147), .ref (ad 148), .ref (ad 149), .ref (ad 150), .ref (ad 151), .ref (ad 152), .ref (ad 153), .ref (ad 154), .ref (ad 155), .ref (ad 156), .int (nI 0)]) := qc_o ka_140 (by decide) rfl
theorem c0_145 {cy ad : Nat → Nat} : qcel cy ad sH0 145 = .inl (cy 0, 8, .inl (fun _ => 0)) := qc_i ka_145 kb_145 rfl
theorem c0_146 {cy ad : Nat → Nat} : qcel cy ad sH0 146 = .inl (cy 0, 8, .inl (fun _ => 0)) := qc_i ka_146 kb_146 rfl
theorem c0_147 {cy ad : Nat → Nat} : qcel cy ad sH0 147 = .inl (cy 0, 60, .inl (fun _ => 0)) := qc_i ka_147 kb_147 rfl
theorem c0_148 {cy ad : Nat → Nat} : qcel cy ad sH0 148 = .inl (cy 0, 60, .inl (fun _ => 0)) := qc_i ka_148 kb_148 rfl
theorem c0_149 {cy ad : Nat → Nat} : qcel cy ad sH0 149 = .inl (cy 0, 60, .inl (fun _ => 0)) := qc_i ka_149 kb_149 rfl
theorem c0_150 {cy ad : Nat → Nat} : qcel cy ad sH0 150 = .inl (cy 0, 60, .inl (fun _ => 0)) := qc_i ka_150 kb_150 rfl
theorem c0_151 {cy ad : Nat → Nat} : qcel cy ad sH0 151 = .inl (cy 0, 60, .inl (fun _ => 0)) := qc_i ka_151 kb_151 rfl
theorem c0_152 {cy ad : Nat → Nat} : qcel cy ad sH0 152 = .inl (cy 0, 60, .inl (fun _ => 0)) := qc_i ka_152 kb_152 rfl
theorem c0_153 {cy ad : Nat → Nat} : qcel cy ad sH0 153 = .inl (cy 0, 60, .inl (fun _ => 0)) := qc_i ka_153 kb_153 rfl
theorem c0_154 {cy ad : Nat → Nat} : qcel cy ad sH0 154 = .inl (cy 0, 200, .inl (fun _ => 0)) := qc_i ka_154 kb_154 rfl
theorem c0_155 {cy ad : Nat → Nat} : qcel cy ad sH0 155 = .inl (cy 0, 200, .inl (fun _ => 0)) := qc_i ka_155 kb_155 rfl
theorem c0_156 {cy ad : Nat → Nat} : qcel cy ad sH0 156 = .inl (cy 0, 200, .inl (fun _ => 0)) := qc_i ka_156 kb_156 rfl
set_option maxRecDepth 20000 in
theorem c0_160 {cy ad : Nat → Nat} : qcel cy ad sH0 160 = .inr (6, [.ref (ad 161), .int (nI 0)]) := qc_o ka_160 (by decide) rfl
theorem c0_161 {cy ad : Nat → Nat} : qcel cy ad sH0 161 = .inl (cy 0, 400, .inl (fun _ => 0)) := qc_i ka_161 kb_161 rfl
set_option maxRecDepth 20000 in
theorem c0_170 {cy ad : Nat → Nat} : qcel cy ad sH0 170 = .inr (4, [.ref (ad 165), .ref (ad 140), .ref (ad 173), .ref (ad 174), .int (nI 0), .int (nI 1), .ref (ad 177), .int (-1)]) := qc_o ka_170 (by decide) rfl
theorem c0_173 {cy ad : Nat → Nat} : qcel cy ad sH0 173 = .inl (cy 0, 8, .inl (fun _ => 0)) := qc_i ka_173 kb_173 rfl
theorem c0_174 {cy ad : Nat → Nat} : qcel cy ad sH0 174 = .inl (cy 0, 8, .inl (fun _ => 0)) := qc_i ka_174 kb_174 rfl
theorem c0_177 {cy ad : Nat → Nat} : qcel cy ad sH0 177 = .inl (cy 0, 6, .inl (fun _ => 0)) := qc_i ka_177 kb_177 rfl
set_option maxRecDepth 20000 in
theorem c0_165 {cy ad : Nat → Nat} : qcel cy ad sH0 165 = .inr (7, [.ref (ad 160), .int (nI 0), .int (nI 0)]) := qc_o ka_165 (by decide) rfl
set_option maxRecDepth 20000 in
theorem c0_180 {cy ad : Nat → Nat} : qcel cy ad sH0 180 = .inr (2, [.ref (ad 181), .ref (ad 182), .ref (ad 183), .ref (ad 184), .ref (ad 185), .ref (ad 186)]) := qc_o ka_180 (by decide) rfl
theorem c0_181 {cy ad : Nat → Nat} : qcel cy ad sH0 181 = .inl (cy 1, 60, .inr (.inl (fun _ => 0))) := qc_j ka_181 kb_181 rfl
theorem c0_182 {cy ad : Nat → Nat} : qcel cy ad sH0 182 = .inl (cy 1, 60, .inr (.inl (fun _ => 0))) := qc_j ka_182 kb_182 rfl
theorem c0_183 {cy ad : Nat → Nat} : qcel cy ad sH0 183 = .inl (cy 1, 60, .inr (.inl (fun _ => 0))) := qc_j ka_183 kb_183 rfl
theorem c0_184 {cy ad : Nat → Nat} : qcel cy ad sH0 184 = .inl (cy 1, 7, .inr (.inl (fun _ => 0))) := qc_j ka_184 kb_184 rfl
theorem c0_185 {cy ad : Nat → Nat} : qcel cy ad sH0 185 = .inl (cy 1, 60, .inr (.inl (fun _ => 0))) := qc_j ka_185 kb_185 rfl
theorem c0_186 {cy ad : Nat → Nat} : qcel cy ad sH0 186 = .inl (cy 1, 7, .inr (.inl (fun _ => 0))) := qc_j ka_186 kb_186 rfl
set_option maxRecDepth 20000 in
theorem c0_190 {cy ad : Nat → Nat} : qcel cy ad sH0 190 = .inr (1, [.ref (ad 191), .int (nI 0), .ref (ad 193), .ref (ad 194)]) := qc_o ka_190 (by decide) rfl
theorem c0_191 {cy ad : Nat → Nat} : qcel cy ad sH0 191 = .inl (cy 0, 8, .inl (fun _ => 0)) := qc_i ka_191 kb_191 rfl
theorem c0_193 {cy ad : Nat → Nat} : qcel cy ad sH0 193 = .inl (cy 0, 7, .inl (fun _ => 0)) := qc_i ka_193 kb_193 rfl
theorem c0_194 {cy ad : Nat → Nat} : qcel cy ad sH0 194 = .inl (cy 0, 8, .inl (fun _ => 0)) := qc_i ka_194 kb_194 rfl
set_option maxRecDepth 20000 in
theorem c0_200 {cy ad : Nat → Nat} : qcel cy ad sH0 200 = .inr (0, [.ref (ad 201), .ref (ad 202), .ref (ad 203), .ref (ad 204)]) := qc_o ka_200 (by decide) rfl
theorem c0_203 {cy ad : Nat → Nat} : qcel cy ad sH0 203 = .inl (cy 0, 4, .inl (fun _ => 0)) := qc_i ka_203 kb_203 rfl
theorem c0_204 {cy ad : Nat → Nat} : qcel cy ad sH0 204 = .inl (cy 0, 4, .inl (fun _ => 0)) := qc_i ka_204 kb_204 rfl
theorem c0_201 {cy ad : Nat → Nat} : qcel cy ad sH0 201 = .inl (cy 0, 4, .inl (fun _ => nI 5)) := qc_i ka_201 kb_201 rfl
theorem c0_202 {cy ad : Nat → Nat} : qcel cy ad sH0 202 = .inl (cy 0, 4, .inl (fun _ => nI 1)) := qc_i ka_202 kb_202 rfl
set_option maxRecDepth 20000 in
theorem c0_210 {cy ad : Nat → Nat} : qcel cy ad sH0 210 = .inr (3, [.ref (ad 180), .ref (ad 200), .ref (ad 213), .int (nI 0), .ref (ad 215), .ref (ad 216), .ref (ad 217), .ref (ad 218), .int (nI 0)]) := qc_o ka_210 (by decide) rfl
theorem c0_213 {cy ad : Nat → Nat} : qcel cy ad sH0 213 = .inl (cy 0, 48, .inl (fun _ => 0)) := qc_i ka_213 kb_213 rfl
theorem c0_215 {cy ad : Nat → Nat} : qcel cy ad sH0 215 = .inl (cy 0, 4, .inl (fun _ => 0)) := qc_i ka_215 kb_215 rfl
theorem c0_216 {cy ad : Nat → Nat} : qcel cy ad sH0 216 = .inl (cy 1, 8, .inr (.inl (fun _ => 0))) := qc_j ka_216 kb_216 rfl
theorem c0_217 {cy ad : Nat → Nat} : qcel cy ad sH0 217 = .inl (cy 0, 8, .inl (fun _ => 0)) := qc_i ka_217 kb_217 rfl
theorem c0_218 {cy ad : Nat → Nat} : qcel cy ad sH0 218 = .inl (cy 0, 1296, .inl (fun _ => 0)) := qc_i ka_218 kb_218 rfl
theorem c0_111 {cy ad : Nat → Nat} : qcel cy ad sH0 111 = .inl (cy 0, 4, .inl (fun _ => 0)) := qc_i ka_111 kb_111 rfl
theorem c0_113 {cy ad : Nat → Nat} : qcel cy ad sH0 113 = .inl (cy 0, 4, .inl (fun _ => 0)) := qc_i ka_113 kb_113 rfl
theorem c0_110 {cy ad : Nat → Nat} : qcel cy ad sH0 110 = .inl (cy 0, 8, .inl (fun _ => -1)) := qc_i ka_110 kb_110 rfl
def ord8 : List Nat := [100, 120, 125, 126, 127, 128, 129, 130, 131, 132, 133, 134, 135, 136, 140, 145, 146, 147, 148, 149, 150, 151, 152, 153, 154, 155, 156, 160, 161, 170, 173, 174, 177, 165, 180, 181, 182, 183, 184, 185, 186, 190, 191, 193, 194, 200, 203, 204, 201, 202, 210, 213, 215, 216, 217, 218, 111, 113, 110]
set_option maxRecDepth 20000 in
theorem c0_0 {cy ad : Nat → Nat} : qcel cy ad sH0 0 = .inr (9, [.int 0, .int 0, .ref (ad 3), .ref (ad 4), .int 0, .int 0, .ref (ad 7), .ref (ad 8), .ref (ad 9), .ref (ad 10), .ref (ad 11), .ref (ad 12), .ref (ad 13), .ref (ad 14), .ref (ad 15), .int 0, .ref (ad 17), .ref (ad 18), .int 0, .int 0, .ref (ad 21), .ref (ad 22), .ref (ad 23), .ref (ad 24), .ref (ad 25), .ref (ad 26), .ref (ad 27), .int 0, .ref (ad 29), .ref (ad 30), .int 0, .ref (ad 32), .ref (ad 33), .ref (ad 34), .ref (ad 35), .ref (ad 36), .int 0, .ref (ad 38), .ref (ad 39), .ref (ad 40), .ref (ad 41), .ref (ad 42), .ref (ad 43), .int 0, .ref (ad 45), .ref (ad 46), .ref (ad 47), .int 0, .ref (ad 49), .ref (ad 50), .int 0, .int 0, .ref (ad 53), .ref (ad 54), .int 0, .int 0, .ref (ad 57), .int 0, .int 0, .int 0, .int 0, .long 0, .int (-1), .int 0]) := qc_o ka_0 (by decide) rfl
theorem c0_3 {cy ad : Nat → Nat} : qcel cy ad sH0 3 = .inl (cy 0, 4, .inl (fun _ => nI 5)) := qc_i ka_3 kb_3 rfl
theorem c0_4 {cy ad : Nat → Nat} : qcel cy ad sH0 4 = .inl (cy 0, 4, .inl (fun _ => nI 1)) := qc_i ka_4 kb_4 rfl
theorem c0_7 {cy ad : Nat → Nat} : qcel cy ad sH0 7 = .inl (cy 0, 60, .inl (fun _ => 0)) := qc_i ka_7 kb_7 rfl
theorem c0_8 {cy ad : Nat → Nat} : qcel cy ad sH0 8 = .inl (cy 0, 60, .inl (fun _ => 0)) := qc_i ka_8 kb_8 rfl
theorem c0_9 {cy ad : Nat → Nat} : qcel cy ad sH0 9 = .inl (cy 0, 60, .inl (fun _ => 0)) := qc_i ka_9 kb_9 rfl
theorem c0_10 {cy ad : Nat → Nat} : qcel cy ad sH0 10 = .inl (cy 0, 60, .inl (fun _ => 0)) := qc_i ka_10 kb_10 rfl
theorem c0_11 {cy ad : Nat → Nat} : qcel cy ad sH0 11 = .inl (cy 0, 60, .inl (fun _ => 0)) := qc_i ka_11 kb_11 rfl
theorem c0_12 {cy ad : Nat → Nat} : qcel cy ad sH0 12 = .inl (cy 0, 61, .inl (fun _ => 0)) := qc_i ka_12 kb_12 rfl
theorem c0_13 {cy ad : Nat → Nat} : qcel cy ad sH0 13 = .inl (cy 0, 200, .inl (fun _ => 0)) := qc_i ka_13 kb_13 rfl
theorem c0_14 {cy ad : Nat → Nat} : qcel cy ad sH0 14 = .inl (cy 0, 200, .inl (fun _ => 0)) := qc_i ka_14 kb_14 rfl
theorem c0_15 {cy ad : Nat → Nat} : qcel cy ad sH0 15 = .inl (cy 2, 200, .inl (fun _ => 0)) := qc_z ka_15 kb_15 rfl
theorem c0_17 {cy ad : Nat → Nat} : qcel cy ad sH0 17 = .inl (cy 0, 6, .inl (fun _ => 0)) := qc_i ka_17 kb_17 rfl
theorem c0_18 {cy ad : Nat → Nat} : qcel cy ad sH0 18 = .inl (cy 0, 6, .inl (fun _ => 0)) := qc_i ka_18 kb_18 rfl
theorem c0_21 {cy ad : Nat → Nat} : qcel cy ad sH0 21 = .inl (cy 0, 8, .inl (fun _ => 0)) := qc_i ka_21 kb_21 rfl
theorem c0_22 {cy ad : Nat → Nat} : qcel cy ad sH0 22 = .inl (cy 0, 8, .inl (fun _ => -1)) := qc_i ka_22 kb_22 rfl
theorem c0_23 {cy ad : Nat → Nat} : qcel cy ad sH0 23 = .inl (cy 0, 4, .inl (fun _ => 0)) := qc_i ka_23 kb_23 rfl
theorem c0_24 {cy ad : Nat → Nat} : qcel cy ad sH0 24 = .inl (cy 1, 60, .inr (.inl (fun _ => 0))) := qc_j ka_24 kb_24 rfl
theorem c0_25 {cy ad : Nat → Nat} : qcel cy ad sH0 25 = .inl (cy 1, 60, .inr (.inl (fun _ => 0))) := qc_j ka_25 kb_25 rfl
theorem c0_26 {cy ad : Nat → Nat} : qcel cy ad sH0 26 = .inl (cy 1, 60, .inr (.inl (fun _ => 0))) := qc_j ka_26 kb_26 rfl
theorem c0_27 {cy ad : Nat → Nat} : qcel cy ad sH0 27 = .inl (cy 0, 4, .inl (fun _ => 0)) := qc_i ka_27 kb_27 rfl
theorem c0_29 {cy ad : Nat → Nat} : qcel cy ad sH0 29 = .inl (cy 1, 60, .inr (.inl (fun _ => 0))) := qc_j ka_29 kb_29 rfl
theorem c0_30 {cy ad : Nat → Nat} : qcel cy ad sH0 30 = .inl (cy 1, 6, .inr (.inl (fun _ => 0))) := qc_j ka_30 kb_30 rfl
theorem c0_32 {cy ad : Nat → Nat} : qcel cy ad sH0 32 = .inl (cy 0, 48, .inl (fun _ => 0)) := qc_i ka_32 kb_32 rfl
theorem c0_33 {cy ad : Nat → Nat} : qcel cy ad sH0 33 = .inl (cy 1, 8, .inr (.inl (fun _ => 0))) := qc_j ka_33 kb_33 rfl
theorem c0_34 {cy ad : Nat → Nat} : qcel cy ad sH0 34 = .inl (cy 0, 8, .inl (fun _ => 0)) := qc_i ka_34 kb_34 rfl
theorem c0_35 {cy ad : Nat → Nat} : qcel cy ad sH0 35 = .inl (cy 0, 6, .inl (fun _ => 0)) := qc_i ka_35 kb_35 rfl
theorem c0_36 {cy ad : Nat → Nat} : qcel cy ad sH0 36 = .inl (cy 0, 8, .inl (fun _ => 0)) := qc_i ka_36 kb_36 rfl
theorem c0_38 {cy ad : Nat → Nat} : qcel cy ad sH0 38 = .inl (cy 0, 60, .inl (fun _ => 0)) := qc_i ka_38 kb_38 rfl
theorem c0_39 {cy ad : Nat → Nat} : qcel cy ad sH0 39 = .inl (cy 0, 60, .inl (fun _ => 0)) := qc_i ka_39 kb_39 rfl
theorem c0_40 {cy ad : Nat → Nat} : qcel cy ad sH0 40 = .inl (cy 0, 60, .inl (fun _ => 0)) := qc_i ka_40 kb_40 rfl
theorem c0_41 {cy ad : Nat → Nat} : qcel cy ad sH0 41 = .inl (cy 0, 60, .inl (fun _ => 0)) := qc_i ka_41 kb_41 rfl
theorem c0_42 {cy ad : Nat → Nat} : qcel cy ad sH0 42 = .inl (cy 0, 60, .inl (fun _ => 0)) := qc_i ka_42 kb_42 rfl
theorem c0_43 {cy ad : Nat → Nat} : qcel cy ad sH0 43 = .inl (cy 0, 61, .inl (fun _ => 0)) := qc_i ka_43 kb_43 rfl
theorem c0_45 {cy ad : Nat → Nat} : qcel cy ad sH0 45 = .inl (cy 0, 200, .inl (fun _ => 0)) := qc_i ka_45 kb_45 rfl
theorem c0_46 {cy ad : Nat → Nat} : qcel cy ad sH0 46 = .inl (cy 0, 200, .inl (fun _ => 0)) := qc_i ka_46 kb_46 rfl
theorem c0_47 {cy ad : Nat → Nat} : qcel cy ad sH0 47 = .inl (cy 2, 200, .inl (fun _ => 0)) := qc_z ka_47 kb_47 rfl
theorem c0_49 {cy ad : Nat → Nat} : qcel cy ad sH0 49 = .inl (cy 0, 6, .inl (fun _ => 0)) := qc_i ka_49 kb_49 rfl
theorem c0_50 {cy ad : Nat → Nat} : qcel cy ad sH0 50 = .inl (cy 0, 6, .inl (fun _ => 0)) := qc_i ka_50 kb_50 rfl
theorem c0_53 {cy ad : Nat → Nat} : qcel cy ad sH0 53 = .inl (cy 0, 26, .inl (fun _ => 0)) := qc_i ka_53 kb_53 rfl
theorem c0_54 {cy ad : Nat → Nat} : qcel cy ad sH0 54 = .inl (cy 0, 8, .inl (fun _ => 0)) := qc_i ka_54 kb_54 rfl
theorem c0_57 {cy ad : Nat → Nat} : qcel cy ad sH0 57 = .inl (cy 0, 400, .inl (fun _ => 0)) := qc_i ka_57 kb_57 rfl
def ord9 : List Nat := [0, 3, 4, 7, 8, 9, 10, 11, 12, 13, 14, 15, 17, 18, 21, 22, 23, 24, 25, 26, 27, 29, 30, 32, 33, 34, 35, 36, 38, 39, 40, 41, 42, 43, 45, 46, 47, 49, 50, 53, 54, 57]
def s_wf (cy ad : Nat → Nat) (i : Nat) : Nat × va_E := (ad i, qcel cy ad sH0 i)
theorem sA8 (h0 q1 q2 q3 q4 q5 q6 q7 q8 q9 q10 q11 q12 q13 q14 q15 q16 q17 q18 q19 q20 q21 q22 q23 q24 q25 q26 q27 q28 q29 q30 q31 q32 q33 q34 q35 q36 q37 q38 q39 q40 q41 q42 q43 q44 q45 q46 q47 q48 q49 q50 q51 q52 q53 q54 q55 q56 q57 q58 : Nat) : ∃ ad : Nat → Nat, ad 100 = h0 ∧ ad 120 = q1 ∧ ad 125 = q2 ∧ ad 126 = q3 ∧ ad 127 = q4 ∧ ad 128 = q5 ∧ ad 129 = q6 ∧ ad 130 = q7 ∧ ad 131 = q8 ∧ ad 132 = q9 ∧ ad 133 = q10 ∧ ad 134 = q11 ∧ ad 135 = q12 ∧ ad 136 = q13 ∧ ad 140 = q14 ∧ ad 145 = q15 ∧ ad 146 = q16 ∧ ad 147 = q17 ∧ ad 148 = q18 ∧ ad 149 = q19 ∧ ad 150 = q20 ∧ ad 151 = q21 ∧ ad 152 = q22 ∧ ad 153 = q23 ∧ ad 154 = q24 ∧ ad 155 = q25 ∧ ad 156 = q26 ∧ ad 160 = q27 ∧ ad 161 = q28 ∧ ad 170 = q29 ∧ ad 173 = q30 ∧ ad 174 = q31 ∧ ad 177 = q32 ∧ ad 165 = q33 ∧ ad 180 = q34 ∧ ad 181 = q35 ∧ ad 182 = q36 ∧ ad 183 = q37 ∧ ad 184 = q38 ∧ ad 185 = q39 ∧ ad 186 = q40 ∧ ad 190 = q41 ∧ ad 191 = q42 ∧ ad 193 = q43 ∧ ad 194 = q44 ∧ ad 200 = q45 ∧ ad 201 = q46 ∧ ad 202 = q47 ∧ ad 203 = q48 ∧ ad 204 = q49 ∧ ad 210 = q50 ∧ ad 213 = q51 ∧ ad 215 = q52 ∧ ad 216 = q53 ∧ ad 217 = q54 ∧ ad 218 = q55 ∧ ad 110 = q56 ∧ ad 111 = q57 ∧ ad 113 = q58 := ⟨fun i => if i = 100 then h0 else if i = 120 then q1 else if i = 125 then q2 else if i = 126 then q3 else if i = 127 then q4 else if i = 128 then q5 else if i = 129 then q6 else if i = 130 then q7 else if i = 131 then q8 else if i = 132 then q9 else if i = 133 then q10 else if i = 134 then q11 else if i = 135 then q12 else if i = 136 then q13 else if i = 140 then q14 else if i = 145 then q15 else if i = 146 then q16 else if i = 147 then q17 else if i = 148 then q18 else if i = 149 then q19 else if i = 150 then q20 else if i = 151 then q21 else if i = 152 then q22 else if i = 153 then q23 else if i = 154 then q24 else if i = 155 then q25 else if i = 156 then q26 else if i = 160 then q27 else if i = 161 then q28 else if i = 170 then q29 else if i = 173 then q30 else if i = 174 then q31 else if i = 177 then q32 else if i = 165 then q33 else if i = 180 then q34 else if i = 181 then q35 else if i = 182 then q36 else if i = 183 then q37 else if i = 184 then q38 else if i = 185 then q39 else if i = 186 then q40 else if i = 190 then q41 else if i = 191 then q42 else if i = 193 then q43 else if i = 194 then q44 else if i = 200 then q45 else if i = 201 then q46 else if i = 202 then q47 else if i = 203 then q48 else if i = 204 then q49 else if i = 210 then q50 else if i = 213 then q51 else if i = 215 then q52 else if i = 216 then q53 else if i = 217 then q54 else if i = 218 then q55 else if i = 110 then q56 else if i = 111 then q57 else if i = 113 then q58 else 0, rfl, rfl, rfl, rfl, rfl, rfl, rfl, rfl, rfl, rfl, rfl, rfl, rfl, rfl, rfl, rfl, rfl, rfl, rfl, rfl, rfl, rfl, rfl, rfl, rfl, rfl, rfl, rfl, rfl, rfl, rfl, rfl, rfl, rfl, rfl, rfl, rfl, rfl, rfl, rfl, rfl, rfl, rfl, rfl, rfl, rfl, rfl, rfl, rfl, rfl, rfl, rfl, rfl, rfl, rfl, rfl, rfl, rfl, rfl⟩
set_option maxRecDepth 20000 in
set_option maxHeartbeats 1000000 in
theorem sW8 {cy : Nat → Nat} {h0 : Nat} {u : va_W} (hB : ∃ q1 q2 q3 q4 q5 q6 q7 q8 q9 q10 q11 q12 q13 q14 q15 q16 q17 q18 q19 q20 q21 q22 q23 q24 q25 q26 q27 q28 q29 q30 q31 q32 q33 q34 q35 q36 q37 q38 q39 q40 q41 q42 q43 q44 q45 q46 q47 q48 q49 q50 q51 q52 q53 q54 q55 q56 q57 q58 : Nat, u = [(h0, .inr (8, [.ref q1, .ref q14, .ref q27, .ref q29, .ref q34, .ref q41, .ref q45, .ref q50, .int (nI 0), .ref q56, .ref q57, .int (nI 0), .ref q58, .int (-1), .int (nI 0)])), (q1, .inr (5, [.int (nI 0), .int (nI 0), .int (nI 0), .int (nI 0), .ref q2, .ref q3, .ref q4, .ref q5, .ref q6, .ref q7, .ref q8, .ref q9, .ref q10, .ref q11, .ref q12, .ref q13, .int (nI 0)])), aI cy q2 8, aI cy q3 8, aI cy q4 60, aI cy q5 60, aI cy q6 60, aI cy q7 60, aI cy q8 60, aI cy q9 60, aI cy q10 60, aI cy q11 200, aI cy q12 200, aI cy q13 200, (q14, .inr (5, [.int (nI 0), .int (nI 0), .int (nI 0), .int (nI 0), .ref q15, .ref q16, .ref q17, .ref q18, .ref q19, .ref q20, .ref q21, .ref q22, .ref q23, .ref q24, .ref q25, .ref q26, .int (nI 0)])), aI cy q15 8, aI cy q16 8, aI cy q17 60, aI cy q18 60, aI cy q19 60, aI cy q20 60, aI cy q21 60, aI cy q22 60, aI cy q23 60, aI cy q24 200, aI cy q25 200, aI cy q26 200, (q27, .inr (6, [.ref q28, .int (nI 0)])), aI cy q28 400, (q29, .inr (4, [.ref q33, .ref q14, .ref q30, .ref q31, .int (nI 0), .int (nI 1), .ref q32, .int (-1)])), aI cy q30 8, aI cy q31 8, aI cy q32 6, (q33, .inr (7, [.ref q27, .int (nI 0), .int (nI 0)])), (q34, .inr (2, [.ref q35, .ref q36, .ref q37, .ref q38, .ref q39, .ref q40])), aJ cy q35 60, aJ cy q36 60, aJ cy q37 60, aJ cy q38 7, aJ cy q39 60, aJ cy q40 7, (q41, .inr (1, [.ref q42, .int (nI 0), .ref q43, .ref q44])), aI cy q42 8, aI cy q43 7, aI cy q44 8, (q45, .inr (0, [.ref q46, .ref q47, .ref q48, .ref q49])), aI cy q48 4, aI cy q49 4, aV cy q46 4 (nI 5), aV cy q47 4 (nI 1), (q50, .inr (3, [.ref q34, .ref q45, .ref q51, .int (nI 0), .ref q52, .ref q53, .ref q54, .ref q55, .int (nI 0)])), aI cy q51 48, aI cy q52 4, aJ cy q53 8, aI cy q54 8, aI cy q55 1296, aI cy q57 4, aI cy q58 4, aV cy q56 8 (-1)]) : ∃ ad : Nat → Nat, ad 100 = h0 ∧ u = ord8.map (s_wf cy ad) := by
  obtain ⟨q1, q2, q3, q4, q5, q6, q7, q8, q9, q10, q11, q12, q13, q14, q15, q16, q17, q18, q19, q20, q21, q22, q23, q24, q25, q26, q27, q28, q29, q30, q31, q32, q33, q34, q35, q36, q37, q38, q39, q40, q41, q42, q43, q44, q45, q46, q47, q48, q49, q50, q51, q52, q53, q54, q55, q56, q57, q58, hu⟩ := hB
  obtain ⟨ad, e100, e120, e125, e126, e127, e128, e129, e130, e131, e132, e133, e134, e135, e136, e140, e145, e146, e147, e148, e149, e150, e151, e152, e153, e154, e155, e156, e160, e161, e170, e173, e174, e177, e165, e180, e181, e182, e183, e184, e185, e186, e190, e191, e193, e194, e200, e201, e202, e203, e204, e210, e213, e215, e216, e217, e218, e110, e111, e113⟩ := sA8 h0 q1 q2 q3 q4 q5 q6 q7 q8 q9 q10 q11 q12 q13 q14 q15 q16 q17 q18 q19 q20 q21 q22 q23 q24 q25 q26 q27 q28 q29 q30 q31 q32 q33 q34 q35 q36 q37 q38 q39 q40 q41 q42 q43 q44 q45 q46 q47 q48 q49 q50 q51 q52 q53 q54 q55 q56 q57 q58
  refine ⟨ad, e100, ?_⟩
  rw [hu]
  simp only [ord8, List.map_cons, List.map_nil, s_wf, aI, aJ, aZ, aV, c0_100, c0_120, c0_125, c0_126, c0_127, c0_128, c0_129, c0_130, c0_131, c0_132, c0_133, c0_134, c0_135, c0_136, c0_140, c0_145, c0_146, c0_147, c0_148, c0_149, c0_150, c0_151, c0_152, c0_153, c0_154, c0_155, c0_156, c0_160, c0_161, c0_170, c0_173, c0_174, c0_177, c0_165, c0_180, c0_181, c0_182, c0_183, c0_184, c0_185, c0_186, c0_190, c0_191, c0_193, c0_194, c0_200, c0_203, c0_204, c0_201, c0_202, c0_210, c0_213, c0_215, c0_216, c0_217, c0_218, c0_111, c0_113, c0_110, e100, e120, e125, e126, e127, e128, e129, e130, e131, e132, e133, e134, e135, e136, e140, e145, e146, e147, e148, e149, e150, e151, e152, e153, e154, e155, e156, e160, e161, e170, e173, e174, e177, e165, e180, e181, e182, e183, e184, e185, e186, e190, e191, e193, e194, e200, e201, e202, e203, e204, e210, e213, e215, e216, e217, e218, e110, e111, e113]
theorem sA9 (h0 q1 q2 q3 q4 q5 q6 q7 q8 q9 q10 q11 q12 q13 q14 q15 q16 q17 q18 q19 q20 q21 q22 q23 q24 q25 q26 q27 q28 q29 q30 q31 q32 q33 q34 q35 q36 q37 q38 q39 q40 q41 : Nat) : ∃ ad : Nat → Nat, ad 0 = h0 ∧ ad 3 = q1 ∧ ad 4 = q2 ∧ ad 7 = q3 ∧ ad 8 = q4 ∧ ad 9 = q5 ∧ ad 10 = q6 ∧ ad 11 = q7 ∧ ad 12 = q8 ∧ ad 13 = q9 ∧ ad 14 = q10 ∧ ad 15 = q11 ∧ ad 17 = q12 ∧ ad 18 = q13 ∧ ad 21 = q14 ∧ ad 22 = q15 ∧ ad 23 = q16 ∧ ad 24 = q17 ∧ ad 25 = q18 ∧ ad 26 = q19 ∧ ad 27 = q20 ∧ ad 29 = q21 ∧ ad 30 = q22 ∧ ad 32 = q23 ∧ ad 33 = q24 ∧ ad 34 = q25 ∧ ad 35 = q26 ∧ ad 36 = q27 ∧ ad 38 = q28 ∧ ad 39 = q29 ∧ ad 40 = q30 ∧ ad 41 = q31 ∧ ad 42 = q32 ∧ ad 43 = q33 ∧ ad 45 = q34 ∧ ad 46 = q35 ∧ ad 47 = q36 ∧ ad 49 = q37 ∧ ad 50 = q38 ∧ ad 53 = q39 ∧ ad 54 = q40 ∧ ad 57 = q41 := ⟨fun i => if i = 0 then h0 else if i = 3 then q1 else if i = 4 then q2 else if i = 7 then q3 else if i = 8 then q4 else if i = 9 then q5 else if i = 10 then q6 else if i = 11 then q7 else if i = 12 then q8 else if i = 13 then q9 else if i = 14 then q10 else if i = 15 then q11 else if i = 17 then q12 else if i = 18 then q13 else if i = 21 then q14 else if i = 22 then q15 else if i = 23 then q16 else if i = 24 then q17 else if i = 25 then q18 else if i = 26 then q19 else if i = 27 then q20 else if i = 29 then q21 else if i = 30 then q22 else if i = 32 then q23 else if i = 33 then q24 else if i = 34 then q25 else if i = 35 then q26 else if i = 36 then q27 else if i = 38 then q28 else if i = 39 then q29 else if i = 40 then q30 else if i = 41 then q31 else if i = 42 then q32 else if i = 43 then q33 else if i = 45 then q34 else if i = 46 then q35 else if i = 47 then q36 else if i = 49 then q37 else if i = 50 then q38 else if i = 53 then q39 else if i = 54 then q40 else if i = 57 then q41 else 0, rfl, rfl, rfl, rfl, rfl, rfl, rfl, rfl, rfl, rfl, rfl, rfl, rfl, rfl, rfl, rfl, rfl, rfl, rfl, rfl, rfl, rfl, rfl, rfl, rfl, rfl, rfl, rfl, rfl, rfl, rfl, rfl, rfl, rfl, rfl, rfl, rfl, rfl, rfl, rfl, rfl, rfl⟩
set_option maxRecDepth 20000 in
set_option maxHeartbeats 1000000 in
theorem sW9 {cy : Nat → Nat} {h0 : Nat} {u : va_W} (hB : ∃ q1 q2 q3 q4 q5 q6 q7 q8 q9 q10 q11 q12 q13 q14 q15 q16 q17 q18 q19 q20 q21 q22 q23 q24 q25 q26 q27 q28 q29 q30 q31 q32 q33 q34 q35 q36 q37 q38 q39 q40 q41 : Nat, u = [(h0, .inr (9, [.int 0, .int 0, .ref q1, .ref q2, .int 0, .int 0, .ref q3, .ref q4, .ref q5, .ref q6, .ref q7, .ref q8, .ref q9, .ref q10, .ref q11, .int 0, .ref q12, .ref q13, .int 0, .int 0, .ref q14, .ref q15, .ref q16, .ref q17, .ref q18, .ref q19, .ref q20, .int 0, .ref q21, .ref q22, .int 0, .ref q23, .ref q24, .ref q25, .ref q26, .ref q27, .int 0, .ref q28, .ref q29, .ref q30, .ref q31, .ref q32, .ref q33, .int 0, .ref q34, .ref q35, .ref q36, .int 0, .ref q37, .ref q38, .int 0, .int 0, .ref q39, .ref q40, .int 0, .int 0, .ref q41, .int 0, .int 0, .int 0, .int 0, .long 0, .int (-1), .int 0])), aV cy q1 4 (nI 5), aV cy q2 4 (nI 1), aI cy q3 60, aI cy q4 60, aI cy q5 60, aI cy q6 60, aI cy q7 60, aI cy q8 61, aI cy q9 200, aI cy q10 200, aZ cy q11 200, aI cy q12 6, aI cy q13 6, aI cy q14 8, aV cy q15 8 (-1), aI cy q16 4, aJ cy q17 60, aJ cy q18 60, aJ cy q19 60, aI cy q20 4, aJ cy q21 60, aJ cy q22 6, aI cy q23 48, aJ cy q24 8, aI cy q25 8, aI cy q26 6, aI cy q27 8, aI cy q28 60, aI cy q29 60, aI cy q30 60, aI cy q31 60, aI cy q32 60, aI cy q33 61, aI cy q34 200, aI cy q35 200, aZ cy q36 200, aI cy q37 6, aI cy q38 6, aI cy q39 26, aI cy q40 8, aI cy q41 400]) : ∃ ad : Nat → Nat, ad 0 = h0 ∧ u = ord9.map (s_wf cy ad) := by
  obtain ⟨q1, q2, q3, q4, q5, q6, q7, q8, q9, q10, q11, q12, q13, q14, q15, q16, q17, q18, q19, q20, q21, q22, q23, q24, q25, q26, q27, q28, q29, q30, q31, q32, q33, q34, q35, q36, q37, q38, q39, q40, q41, hu⟩ := hB
  obtain ⟨ad, e0, e3, e4, e7, e8, e9, e10, e11, e12, e13, e14, e15, e17, e18, e21, e22, e23, e24, e25, e26, e27, e29, e30, e32, e33, e34, e35, e36, e38, e39, e40, e41, e42, e43, e45, e46, e47, e49, e50, e53, e54, e57⟩ := sA9 h0 q1 q2 q3 q4 q5 q6 q7 q8 q9 q10 q11 q12 q13 q14 q15 q16 q17 q18 q19 q20 q21 q22 q23 q24 q25 q26 q27 q28 q29 q30 q31 q32 q33 q34 q35 q36 q37 q38 q39 q40 q41
  refine ⟨ad, e0, ?_⟩
  rw [hu]
  simp only [ord9, List.map_cons, List.map_nil, s_wf, aI, aJ, aZ, aV, c0_0, c0_3, c0_4, c0_7, c0_8, c0_9, c0_10, c0_11, c0_12, c0_13, c0_14, c0_15, c0_17, c0_18, c0_21, c0_22, c0_23, c0_24, c0_25, c0_26, c0_27, c0_29, c0_30, c0_32, c0_33, c0_34, c0_35, c0_36, c0_38, c0_39, c0_40, c0_41, c0_42, c0_43, c0_45, c0_46, c0_47, c0_49, c0_50, c0_53, c0_54, c0_57, e0, e3, e4, e7, e8, e9, e10, e11, e12, e13, e14, e15, e17, e18, e21, e22, e23, e24, e25, e26, e27, e29, e30, e32, e33, e34, e35, e36, e38, e39, e40, e41, e42, e43, e45, e46, e47, e49, e50, e53, e54, e57]
def s_adj (a8 a9 aK : Nat → Nat) : Nat → Nat := fun i => if i < 100 then a9 i else if i < 300 then a8 i else aK (i - 300)
theorem s_adjK {a8 a9 aK : Nat → Nat} (k : Nat) : s_adj a8 a9 aK (300 + k) = aK k := by
  unfold s_adj
  rw [if_neg (by omega), if_neg (by omega), show 300 + k - 300 = k by omega]
theorem sJ8 {a8 a9 aK : Nat → Nat} : s_adj a8 a9 aK 100 = a8 100 ∧ s_adj a8 a9 aK 120 = a8 120 ∧ s_adj a8 a9 aK 125 = a8 125 ∧ s_adj a8 a9 aK 126 = a8 126 ∧ s_adj a8 a9 aK 127 = a8 127 ∧ s_adj a8 a9 aK 128 = a8 128 ∧ s_adj a8 a9 aK 129 = a8 129 ∧ s_adj a8 a9 aK 130 = a8 130 ∧ s_adj a8 a9 aK 131 = a8 131 ∧ s_adj a8 a9 aK 132 = a8 132 ∧ s_adj a8 a9 aK 133 = a8 133 ∧ s_adj a8 a9 aK 134 = a8 134 ∧ s_adj a8 a9 aK 135 = a8 135 ∧ s_adj a8 a9 aK 136 = a8 136 ∧ s_adj a8 a9 aK 140 = a8 140 ∧ s_adj a8 a9 aK 145 = a8 145 ∧ s_adj a8 a9 aK 146 = a8 146 ∧ s_adj a8 a9 aK 147 = a8 147 ∧ s_adj a8 a9 aK 148 = a8 148 ∧ s_adj a8 a9 aK 149 = a8 149 ∧ s_adj a8 a9 aK 150 = a8 150 ∧ s_adj a8 a9 aK 151 = a8 151 ∧ s_adj a8 a9 aK 152 = a8 152 ∧ s_adj a8 a9 aK 153 = a8 153 ∧ s_adj a8 a9 aK 154 = a8 154 ∧ s_adj a8 a9 aK 155 = a8 155 ∧ s_adj a8 a9 aK 156 = a8 156 ∧ s_adj a8 a9 aK 160 = a8 160 ∧ s_adj a8 a9 aK 161 = a8 161 ∧ s_adj a8 a9 aK 170 = a8 170 ∧ s_adj a8 a9 aK 173 = a8 173 ∧ s_adj a8 a9 aK 174 = a8 174 ∧ s_adj a8 a9 aK 177 = a8 177 ∧ s_adj a8 a9 aK 165 = a8 165 ∧ s_adj a8 a9 aK 180 = a8 180 ∧ s_adj a8 a9 aK 181 = a8 181 ∧ s_adj a8 a9 aK 182 = a8 182 ∧ s_adj a8 a9 aK 183 = a8 183 ∧ s_adj a8 a9 aK 184 = a8 184 ∧ s_adj a8 a9 aK 185 = a8 185 ∧ s_adj a8 a9 aK 186 = a8 186 ∧ s_adj a8 a9 aK 190 = a8 190 ∧ s_adj a8 a9 aK 191 = a8 191 ∧ s_adj a8 a9 aK 193 = a8 193 ∧ s_adj a8 a9 aK 194 = a8 194 ∧ s_adj a8 a9 aK 200 = a8 200 ∧ s_adj a8 a9 aK 203 = a8 203 ∧ s_adj a8 a9 aK 204 = a8 204 ∧ s_adj a8 a9 aK 201 = a8 201 ∧ s_adj a8 a9 aK 202 = a8 202 ∧ s_adj a8 a9 aK 210 = a8 210 ∧ s_adj a8 a9 aK 213 = a8 213 ∧ s_adj a8 a9 aK 215 = a8 215 ∧ s_adj a8 a9 aK 216 = a8 216 ∧ s_adj a8 a9 aK 217 = a8 217 ∧ s_adj a8 a9 aK 218 = a8 218 ∧ s_adj a8 a9 aK 111 = a8 111 ∧ s_adj a8 a9 aK 113 = a8 113 ∧ s_adj a8 a9 aK 110 = a8 110 := ⟨rfl, rfl, rfl, rfl, rfl, rfl, rfl, rfl, rfl, rfl, rfl, rfl, rfl, rfl, rfl, rfl, rfl, rfl, rfl, rfl, rfl, rfl, rfl, rfl, rfl, rfl, rfl, rfl, rfl, rfl, rfl, rfl, rfl, rfl, rfl, rfl, rfl, rfl, rfl, rfl, rfl, rfl, rfl, rfl, rfl, rfl, rfl, rfl, rfl, rfl, rfl, rfl, rfl, rfl, rfl, rfl, rfl, rfl, rfl⟩
set_option maxRecDepth 20000 in
set_option maxHeartbeats 1000000 in
theorem sG8 {cy a8 a9 aK : Nat → Nat} : ord8.map (s_wf cy a8) = ord8.map (s_wf cy (s_adj a8 a9 aK)) := by
  obtain ⟨e100, e120, e125, e126, e127, e128, e129, e130, e131, e132, e133, e134, e135, e136, e140, e145, e146, e147, e148, e149, e150, e151, e152, e153, e154, e155, e156, e160, e161, e170, e173, e174, e177, e165, e180, e181, e182, e183, e184, e185, e186, e190, e191, e193, e194, e200, e203, e204, e201, e202, e210, e213, e215, e216, e217, e218, e111, e113, e110⟩ := sJ8 (a8 := a8) (a9 := a9) (aK := aK)
  generalize s_adj a8 a9 aK = ad at *
  simp only [ord8, List.map_cons, List.map_nil, s_wf, aI, aJ, aZ, aV, c0_100, c0_120, c0_125, c0_126, c0_127, c0_128, c0_129, c0_130, c0_131, c0_132, c0_133, c0_134, c0_135, c0_136, c0_140, c0_145, c0_146, c0_147, c0_148, c0_149, c0_150, c0_151, c0_152, c0_153, c0_154, c0_155, c0_156, c0_160, c0_161, c0_170, c0_173, c0_174, c0_177, c0_165, c0_180, c0_181, c0_182, c0_183, c0_184, c0_185, c0_186, c0_190, c0_191, c0_193, c0_194, c0_200, c0_203, c0_204, c0_201, c0_202, c0_210, c0_213, c0_215, c0_216, c0_217, c0_218, c0_111, c0_113, c0_110, e100, e120, e125, e126, e127, e128, e129, e130, e131, e132, e133, e134, e135, e136, e140, e145, e146, e147, e148, e149, e150, e151, e152, e153, e154, e155, e156, e160, e161, e170, e173, e174, e177, e165, e180, e181, e182, e183, e184, e185, e186, e190, e191, e193, e194, e200, e203, e204, e201, e202, e210, e213, e215, e216, e217, e218, e111, e113, e110]
theorem sJ9 {a8 a9 aK : Nat → Nat} : s_adj a8 a9 aK 0 = a9 0 ∧ s_adj a8 a9 aK 3 = a9 3 ∧ s_adj a8 a9 aK 4 = a9 4 ∧ s_adj a8 a9 aK 7 = a9 7 ∧ s_adj a8 a9 aK 8 = a9 8 ∧ s_adj a8 a9 aK 9 = a9 9 ∧ s_adj a8 a9 aK 10 = a9 10 ∧ s_adj a8 a9 aK 11 = a9 11 ∧ s_adj a8 a9 aK 12 = a9 12 ∧ s_adj a8 a9 aK 13 = a9 13 ∧ s_adj a8 a9 aK 14 = a9 14 ∧ s_adj a8 a9 aK 15 = a9 15 ∧ s_adj a8 a9 aK 17 = a9 17 ∧ s_adj a8 a9 aK 18 = a9 18 ∧ s_adj a8 a9 aK 21 = a9 21 ∧ s_adj a8 a9 aK 22 = a9 22 ∧ s_adj a8 a9 aK 23 = a9 23 ∧ s_adj a8 a9 aK 24 = a9 24 ∧ s_adj a8 a9 aK 25 = a9 25 ∧ s_adj a8 a9 aK 26 = a9 26 ∧ s_adj a8 a9 aK 27 = a9 27 ∧ s_adj a8 a9 aK 29 = a9 29 ∧ s_adj a8 a9 aK 30 = a9 30 ∧ s_adj a8 a9 aK 32 = a9 32 ∧ s_adj a8 a9 aK 33 = a9 33 ∧ s_adj a8 a9 aK 34 = a9 34 ∧ s_adj a8 a9 aK 35 = a9 35 ∧ s_adj a8 a9 aK 36 = a9 36 ∧ s_adj a8 a9 aK 38 = a9 38 ∧ s_adj a8 a9 aK 39 = a9 39 ∧ s_adj a8 a9 aK 40 = a9 40 ∧ s_adj a8 a9 aK 41 = a9 41 ∧ s_adj a8 a9 aK 42 = a9 42 ∧ s_adj a8 a9 aK 43 = a9 43 ∧ s_adj a8 a9 aK 45 = a9 45 ∧ s_adj a8 a9 aK 46 = a9 46 ∧ s_adj a8 a9 aK 47 = a9 47 ∧ s_adj a8 a9 aK 49 = a9 49 ∧ s_adj a8 a9 aK 50 = a9 50 ∧ s_adj a8 a9 aK 53 = a9 53 ∧ s_adj a8 a9 aK 54 = a9 54 ∧ s_adj a8 a9 aK 57 = a9 57 := ⟨rfl, rfl, rfl, rfl, rfl, rfl, rfl, rfl, rfl, rfl, rfl, rfl, rfl, rfl, rfl, rfl, rfl, rfl, rfl, rfl, rfl, rfl, rfl, rfl, rfl, rfl, rfl, rfl, rfl, rfl, rfl, rfl, rfl, rfl, rfl, rfl, rfl, rfl, rfl, rfl, rfl, rfl⟩
set_option maxRecDepth 20000 in
set_option maxHeartbeats 1000000 in
theorem sG9 {cy a8 a9 aK : Nat → Nat} : ord9.map (s_wf cy a9) = ord9.map (s_wf cy (s_adj a8 a9 aK)) := by
  obtain ⟨e0, e3, e4, e7, e8, e9, e10, e11, e12, e13, e14, e15, e17, e18, e21, e22, e23, e24, e25, e26, e27, e29, e30, e32, e33, e34, e35, e36, e38, e39, e40, e41, e42, e43, e45, e46, e47, e49, e50, e53, e54, e57⟩ := sJ9 (a8 := a8) (a9 := a9) (aK := aK)
  generalize s_adj a8 a9 aK = ad at *
  simp only [ord9, List.map_cons, List.map_nil, s_wf, aI, aJ, aZ, aV, c0_0, c0_3, c0_4, c0_7, c0_8, c0_9, c0_10, c0_11, c0_12, c0_13, c0_14, c0_15, c0_17, c0_18, c0_21, c0_22, c0_23, c0_24, c0_25, c0_26, c0_27, c0_29, c0_30, c0_32, c0_33, c0_34, c0_35, c0_36, c0_38, c0_39, c0_40, c0_41, c0_42, c0_43, c0_45, c0_46, c0_47, c0_49, c0_50, c0_53, c0_54, c0_57, e0, e3, e4, e7, e8, e9, e10, e11, e12, e13, e14, e15, e17, e18, e21, e22, e23, e24, e25, e26, e27, e29, e30, e32, e33, e34, e35, e36, e38, e39, e40, e41, e42, e43, e45, e46, e47, e49, e50, e53, e54, e57]
theorem s_in : ∀ i ∈ qids, i ∈ ord8 ++ ord9 := by decide +kernel
theorem s_P {D : va_G} {cy ad : Nat → Nat} {H : Heap} (hP : va_P D vwCl ((ord8 ++ ord9).map (s_wf cy ad)) H) : va_P D vwCl (qwld cy ad sH0) H := by
  intro k q hk
  obtain ⟨i, hi, rfl⟩ := List.mem_map.mp (List.mem_of_getElem? hk)
  obtain ⟨j, hj⟩ := List.getElem?_of_mem (List.mem_map.mpr ⟨i, s_in i hi, rfl⟩ : s_wf cy ad i ∈ (ord8 ++ ord9).map (s_wf cy ad))
  exact hP j _ hj
theorem s_D {A : Nat → Prop} {cy ad : Nat → Nat} (hD : va_D A ((ord8 ++ ord9).map (s_wf cy ad))) : va_D A (qwld cy ad sH0) := by
  have inj : ∀ i ∈ qids, ∀ j ∈ qids, ad i = ad j → i = j := by
    intro i hi j hj e
    obtain ⟨k1, h1⟩ := List.getElem?_of_mem (s_in i hi)
    obtain ⟨k2, h2⟩ := List.getElem?_of_mem (s_in j hj)
    have e1 : ((ord8 ++ ord9).map (s_wf cy ad))[k1]? = some (s_wf cy ad i) := by rw [List.getElem?_map, h1]; rfl
    have e2 : ((ord8 ++ ord9).map (s_wf cy ad))[k2]? = some (s_wf cy ad j) := by rw [List.getElem?_map, h2]; rfl
    have e3 := hD.1 k1 k2 _ _ e1 e2 e
    rw [e3, h2] at h1
    exact (Option.some.inj h1).symm
  refine ⟨fun i j a b ha hb hab => ?_, fun k q hk => ?_⟩
  · unfold qwld at ha hb
    rw [List.getElem?_map] at ha hb
    cases h1 : qids[i]? with
    | none => rw [h1] at ha; cases ha
    | some x =>
      cases h2 : qids[j]? with
      | none => rw [h2] at hb; cases hb
      | some y =>
        rw [h1] at ha; rw [h2] at hb
        cases ha; cases hb
        have e := inj x (List.mem_of_getElem? h1) y (List.mem_of_getElem? h2) hab
        subst e
        obtain ⟨a1, a2⟩ := List.getElem?_eq_some_iff.mp h1
        obtain ⟨b1, b2⟩ := List.getElem?_eq_some_iff.mp h2
        exact (List.getElem_inj (h₀ := a1) (h₁ := b1) qids_nodup).mp (a2.trans b2.symm)
  · obtain ⟨i, hi, rfl⟩ := List.mem_map.mp (List.mem_of_getElem? hk)
    obtain ⟨j, hj⟩ := List.getElem?_of_mem (List.mem_map.mpr ⟨i, s_in i hi, rfl⟩ : s_wf cy ad i ∈ (ord8 ++ ord9).map (s_wf cy ad))
    exact hD.2 j _ hj
theorem s_lonE (o n : Nat) : lonE (fun _ _ => 0) o n := fun _ _ => ⟨0, rfl, Nat.zero_le _⟩
theorem s_Rel : Rel sH0 := by
  refine ⟨sI0, _, 120, 140, rfl, Or.inl rfl, rfl, ⟨fun _ => 0, 0, Nat.zero_le _, rfl, rfl, fun k h => absurd h (Nat.not_lt_zero _), fun k h => absurd h (Nat.not_lt_zero _)⟩, ⟨fun _ => 5, fun _ => 1, fun _ _ => ⟨rfl, Nat.le_of_ble_eq_true rfl⟩, fun _ _ => ⟨rfl, Nat.le_of_ble_eq_true rfl⟩, fun _ _ => ⟨rfl, Nat.le_of_ble_eq_true rfl⟩, fun _ _ => ⟨rfl, Nat.le_of_ble_eq_true rfl⟩⟩, rfl, rfl, ⟨0, fun _ _ => 0, by decide, rfl, rfl, fun i h => absurd h (Nat.not_lt_zero _), fun i h => absurd h (Nat.not_lt_zero _)⟩, Or.inl ⟨rfl, rfl⟩, Or.inl ⟨rfl, rfl, rfl, rfl, rfl, rfl, rfl, rfl, fun _ _ => rfl, fun _ _ => rfl, rfl, rfl⟩, ⟨fun _ => 0, fun _ _ => ⟨rfl, Nat.le_of_ble_eq_true rfl⟩⟩, ⟨s_lonE _ _, s_lonE _ _, s_lonE _ _, s_lonE _ _⟩, s_lonE _ _, s_lonE _ _, ⟨s_lonE _ _, s_lonE _ _, s_lonE _ _⟩, s_lonE _ _, s_lonE _ _⟩
