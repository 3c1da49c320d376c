/-! the start: what the premises give (mk9l.py) -/
theorem cI8 : (Jvm.Cond.instantiable "UsedUp" (15 : Nat)) ∈ qTB := qw1 18 rfl rfl
theorem cI9 : (Jvm.Cond.instantiable "UsedUpModel" (64 : Nat)) ∈ qTB := qw4 97 rfl rfl
theorem cT9 : (Jvm.Cond.initialized "UsedUpModel") ∈ qTB := qw1 10 rfl rfl
theorem sL_7 : (Jvm.Cond.classLink "UsedUpLaw" (7 : Nat) "UsedUp") ∈ qTB := qw1 17 rfl rfl
theorem sL_10 : (Jvm.Cond.classLink "UsedUpLaw" (10 : Nat) "UsedUpModel") ∈ qTB := qw4 96 rfl rfl
theorem sM_9 : Jvm.Cond.methodLink "UsedUpLaw" 9 yX8_init ∈ qTB := qw1 19 rfl rfl
theorem sM_12 : Jvm.Cond.methodLink "UsedUpLaw" 12 yX9_init ∈ qTB := qw4 98 rfl rfl
theorem cN8 : Jvm.Cond.instanceMethod yX8_init ∈ qTB := qw1 20 rfl rfl
theorem cN9 : Jvm.Cond.instanceMethod yX9_init ∈ qTB := qw4 99 rfl rfl
theorem cC8 : Jvm.Cond.code yX8_init cX8_init 1 none ∈ qTB := qw1 21 rfl rfl
theorem cC9 : Jvm.Cond.code yX9_init cX9_init 1 none ∈ qTB := qw4 100 rfl rfl
set_option maxRecDepth 20000 in
theorem sK {s : State} {args : Array Value} (hq : ∀ w ∈ qTB, w.before args s = true) : ∃ (D : va_G) (cy : Nat → Nat), va_K D vwCl (qtys cy) s := by
  obtain ⟨c0, i0, k0⟩ := u_known (C := RX0) (T := TX0) (N := 4) hq qlayX0 (hq _ cI0)
  obtain ⟨c1, i1, k1⟩ := u_known (C := RX1) (T := TX1) (N := 4) hq qlayX1 (hq _ cI1)
  obtain ⟨c2, i2, k2⟩ := u_known (C := RX2) (T := TX2) (N := 6) hq qlayX2 (hq _ cI2)
  obtain ⟨c3, i3, k3⟩ := u_known (C := RX3) (T := TX3) (N := 9) hq qlayX3 (hq _ cI3)
  obtain ⟨c4, i4, k4⟩ := u_known (C := RX4) (T := TX4) (N := 8) hq qlayX4 (hq _ cI4)
  obtain ⟨c5, i5, k5⟩ := u_known (C := RX5) (T := TX5) (N := 17) hq qlayX5 (hq _ cI5)
  obtain ⟨c6, i6, k6⟩ := u_known (C := RX6) (T := TX6) (N := 2) hq qlayX6 (hq _ cI6)
  obtain ⟨c7, i7, k7⟩ := u_known (C := RX7) (T := TX7) (N := 3) hq qlayX7 (hq _ cI7)
  obtain ⟨c8, i8, k8⟩ := u_known (C := RX8) (T := TX8) (N := 15) hq qlayX8 (hq _ cI8)
  obtain ⟨c9, i9, k9⟩ := u_known (C := RX9) (T := TX9) (N := 64) hq qlayX9 (hq _ cI9)
  obtain ⟨a0, b0, d0, f0, g0, e0⟩ := Cond.arrayClass_spec (type := .int) (args := args) (first := s) (o := none) (idx := []) (s := s) (hq (Jvm.Cond.arrayClass .int) (qw1 106 rfl rfl))
  obtain ⟨a1, b1, d1, f1, g1, e1⟩ := Cond.arrayClass_spec (type := .long) (args := args) (first := s) (o := none) (idx := []) (s := s) (hq (Jvm.Cond.arrayClass .long) (qw1 196 rfl rfl))
  obtain ⟨a2, b2, d2, f2, g2, e2⟩ := Cond.arrayClass_spec (type := .boolean) (args := args) (first := s) (o := none) (idx := []) (s := s) (hq (Jvm.Cond.arrayClass .boolean) (qw5 55 rfl rfl))
  refine ⟨(fun c => [c0, c1, c2, c3, c4, c5, c6, c7, c8, c9].getD c 0, fun c => [i0, i1, i2, i3, i4, i5, i6, i7, i8, i9].getD c (fun _ => 0)), fun k => [a0, a1, a2].getD k 0, fun c q hc => ?_, fun k q hk => ?_⟩
  · match c, hc with
    | 0, hc =>
      have e := Option.some.inj (show some (RX0, TX0, 4) = some q from hc)
      subst e
      exact k0
    | 1, hc =>
      have e := Option.some.inj (show some (RX1, TX1, 4) = some q from hc)
      subst e
      exact k1
    | 2, hc =>
      have e := Option.some.inj (show some (RX2, TX2, 6) = some q from hc)
      subst e
      exact k2
    | 3, hc =>
      have e := Option.some.inj (show some (RX3, TX3, 9) = some q from hc)
      subst e
      exact k3
    | 4, hc =>
      have e := Option.some.inj (show some (RX4, TX4, 8) = some q from hc)
      subst e
      exact k4
    | 5, hc =>
      have e := Option.some.inj (show some (RX5, TX5, 17) = some q from hc)
      subst e
      exact k5
    | 6, hc =>
      have e := Option.some.inj (show some (RX6, TX6, 2) = some q from hc)
      subst e
      exact k6
    | 7, hc =>
      have e := Option.some.inj (show some (RX7, TX7, 3) = some q from hc)
      subst e
      exact k7
    | 8, hc =>
      have e := Option.some.inj (show some (RX8, TX8, 15) = some q from hc)
      subst e
      exact k8
    | 9, hc =>
      have e := Option.some.inj (show some (RX9, TX9, 64) = some q from hc)
      subst e
      exact k9
    | c + 10, hc => exact absurd (show c + 10 < 10 from (List.getElem?_eq_some_iff.mp hc).1) (by omega)
  · match k, hk with
    | 0, hk =>
      have e := Option.some.inj (show some (a0, FieldType.int) = some q from hk)
      subst e
      exact ⟨fun n z => ⟨fun k h => (by cases h), b0, g0, d0, e0⟩, f0⟩
    | 1, hk =>
      have e := Option.some.inj (show some (a1, FieldType.long) = some q from hk)
      subst e
      exact ⟨fun n z => ⟨fun k h => (by cases h), b1, g1, d1, e1⟩, f1⟩
    | 2, hk =>
      have e := Option.some.inj (show some (a2, FieldType.boolean) = some q from hk)
      subst e
      exact ⟨fun n z => ⟨fun k h => (by cases h), b2, g2, d2, e2⟩, f2⟩
    | k + 3, hk => exact absurd (show k + 3 < 3 from (List.getElem?_eq_some_iff.mp hk).1) (by omega)
def sFl : List Jvm.Cond := flatC (Jvm.Cond.and given_1 narrow_1)
def sTm (i : Nat) : Term := Term.string "UsedUp$Reader" ((qstr.map Prod.fst).getD i 0)
def sVl (i : Nat) : Term := .field (sTm i) "java/lang/String" "value" "[B"
def sPe : List Nat := [9, 22, 16, 29, 180, 40, 53, 67, 81, 96, 112, 198, 147, 163, 127]
def sPc : List Nat := [10, 23, 17, 30, 181, 41, 54, 68, 82, 97, 113, 199, 148, 164, 128]
def sPa : List Nat := [11, 24, 18, 31, 182, 42, 55, 69, 83, 98, 114, 200, 149, 165, 129]
def sPl : List Nat := [12, 25, 19, 32, 183, 43, 56, 70, 84, 99, 115, 201, 150, 166, 130]
def sPb : List (List Nat) := [[13, 14, 15], [26], [20], [33, 34, 35, 36], [184], [44, 45, 46, 47, 48], [57, 58, 59, 60, 61], [71, 72, 73, 74], [85, 86, 87, 88], [100, 101, 102, 103], [116, 117], [202], [151], [167], [131, 132, 133, 134, 135, 136]]
def sPn : List (Nat × Nat × Nat) := [(0, 1, 27), (0, 2, 21), (0, 3, 37), (0, 4, 185), (0, 5, 49), (0, 6, 62), (0, 7, 75), (0, 8, 89), (0, 9, 104), (0, 10, 118), (0, 11, 203), (0, 12, 152), (0, 13, 168), (0, 14, 137), (1, 3, 39), (1, 4, 187), (1, 5, 51), (1, 6, 64), (1, 7, 77), (1, 8, 91), (1, 9, 106), (1, 10, 120), (1, 11, 205), (1, 12, 154), (1, 13, 170), (1, 14, 139), (2, 1, 28), (2, 3, 38), (2, 4, 186), (2, 5, 50), (2, 6, 63), (2, 7, 76), (2, 8, 90), (2, 9, 105), (2, 10, 119), (2, 11, 204), (2, 12, 153), (2, 13, 169), (2, 14, 138), (3, 4, 188), (3, 5, 52), (3, 6, 65), (3, 7, 78), (3, 8, 92), (3, 9, 107), (3, 10, 121), (3, 11, 206), (3, 12, 155), (3, 13, 171), (3, 14, 140), (4, 11, 216), (5, 4, 189), (5, 6, 66), (5, 7, 79), (5, 8, 93), (5, 9, 108), (5, 10, 122), (5, 11, 207), (5, 12, 156), (5, 13, 172), (5, 14, 141), (6, 4, 190), (6, 7, 80), (6, 8, 94), (6, 9, 109), (6, 10, 123), (6, 11, 208), (6, 12, 157), (6, 13, 173), (6, 14, 142), (7, 4, 191), (7, 8, 95), (7, 9, 110), (7, 10, 124), (7, 11, 209), (7, 12, 158), (7, 13, 174), (7, 14, 143), (8, 4, 192), (8, 9, 111), (8, 10, 125), (8, 11, 210), (8, 12, 159), (8, 13, 175), (8, 14, 144), (9, 4, 193), (9, 10, 126), (9, 11, 211), (9, 12, 160), (9, 13, 176), (9, 14, 145), (10, 4, 194), (10, 11, 212), (10, 12, 161), (10, 13, 177), (10, 14, 146), (12, 4, 196), (12, 11, 214), (12, 13, 179), (13, 4, 197), (13, 11, 215), (14, 4, 195), (14, 11, 213), (14, 12, 162), (14, 13, 178)]
theorem sMe : ∀ i, i < 15 → sFl[sPe.getD i 0]? = some (Jvm.Cond.exactly (sTm i) "java/lang/String") := by decide +kernel
theorem sMc : ∀ i, i < 15 → sFl[sPc.getD i 0]? = some (Jvm.Cond.eq (.field (sTm i) "java/lang/String" "coder" "B") (.int 0)) := by decide +kernel
theorem sMa : ∀ i, i < 15 → sFl[sPa.getD i 0]? = some (Jvm.Cond.arrayOf (sVl i) .byte) := by decide +kernel
theorem sMl : ∀ i, i < 15 → sFl[sPl.getD i 0]? = some (Jvm.Cond.eq (.length (sVl i)) (.int (Int32.ofNat (qsln.getD i 0)))) := by decide +kernel
theorem sMb : ∀ i, i < 15 → ∀ j, j < qsln.getD i 0 → sFl[(sPb.getD i []).getD j 0]? = some (Jvm.Cond.eq (.elem (sVl i) (.int (Int32.ofNat j))) (.int ((qsby.getD i []).getD j 0))) := by decide +kernel
theorem sMn : ∀ t ∈ sPn, sFl[t.2.2]? = some (Jvm.Cond.not (Jvm.Cond.eq (sTm t.1) (sTm t.2.1))) := by decide +kernel
theorem sMp : ∀ i, i < 15 → ∀ j, j < 15 → i ≠ j → (sPn.any (fun t => t.1 == i && t.2.1 == j) || sPn.any (fun t => t.1 == j && t.2.1 == i)) = true := by decide +kernel
theorem sMq {i j : Nat} (h : sPn.any (fun t => t.1 == i && t.2.1 == j) = true) : Jvm.Cond.not (Jvm.Cond.eq (sTm i) (sTm j)) ∈ sFl := by
  obtain ⟨t, ht, he⟩ := List.any_eq_true.mp h
  rw [Bool.and_eq_true, beq_iff_eq, beq_iff_eq] at he
  have := sMn t ht
  rw [he.1, he.2] at this
  exact List.mem_of_getElem? this
theorem sR_0 : Jvm.Cond.stringRef "UsedUp$Reader" 64 "def" ∈ lw_tbl := qt2 _ (List.mem_of_getElem? (i := 167) rfl)
theorem sR_1 : Jvm.Cond.stringRef "UsedUp$Reader" 73 "}" ∈ lw_tbl := qt3 _ (List.mem_of_getElem? (i := 1) rfl)
theorem sR_2 : Jvm.Cond.stringRef "UsedUp$Reader" 102 "{" ∈ lw_tbl := qt2 _ (List.mem_of_getElem? (i := 234) rfl)
theorem sR_3 : Jvm.Cond.stringRef "UsedUp$Reader" 120 "else" ∈ lw_tbl := qt3 _ (List.mem_of_getElem? (i := 10) rfl)
theorem sR_4 : Jvm.Cond.stringRef "UsedUp$Reader" 140 ";" ∈ lw_tbl := qt3 _ (List.mem_of_getElem? (i := 53) rfl)
theorem sR_5 : Jvm.Cond.stringRef "UsedUp$Reader" 151 "spend" ∈ lw_tbl := qt3 _ (List.mem_of_getElem? (i := 19) rfl)
theorem sR_6 : Jvm.Cond.stringRef "UsedUp$Reader" 153 "times" ∈ lw_tbl := qt3 _ (List.mem_of_getElem? (i := 20) rfl)
theorem sR_7 : Jvm.Cond.stringRef "UsedUp$Reader" 155 "hold" ∈ lw_tbl := qt3 _ (List.mem_of_getElem? (i := 21) rfl)
theorem sR_8 : Jvm.Cond.stringRef "UsedUp$Reader" 157 "lock" ∈ lw_tbl := qt3 _ (List.mem_of_getElem? (i := 22) rfl)
theorem sR_9 : Jvm.Cond.stringRef "UsedUp$Reader" 159 "call" ∈ lw_tbl := qt3 _ (List.mem_of_getElem? (i := 23) rfl)
theorem sR_10 : Jvm.Cond.stringRef "UsedUp$Reader" 161 "if" ∈ lw_tbl := qt3 _ (List.mem_of_getElem? (i := 24) rfl)
theorem sR_11 : Jvm.Cond.stringRef "UsedUp$Reader" 174 "<" ∈ lw_tbl := qt3 _ (List.mem_of_getElem? (i := 74) rfl)
theorem sR_12 : Jvm.Cond.stringRef "UsedUp$Reader" 179 "+" ∈ lw_tbl := qt3 _ (List.mem_of_getElem? (i := 47) rfl)
theorem sR_13 : Jvm.Cond.stringRef "UsedUp$Reader" 181 "*" ∈ lw_tbl := qt3 _ (List.mem_of_getElem? (i := 48) rfl)
theorem sR_14 : Jvm.Cond.stringRef "UsedUp$Reader" 191 "double" ∈ lw_tbl := qt3 _ (List.mem_of_getElem? (i := 46) rfl)
theorem sZ_1 : Jvm.Cond.laysStatic "java/lang/String" "COMPACT_STRINGS" "Z" ∈ lw_tbl := qt2 _ (List.mem_of_getElem? (i := 181) rfl)
theorem sZ_2 : Jvm.Cond.laysStatic "jdk/internal/util/Preconditions" "SIOOBE_FORMATTER" "Ljava/util/function/BiFunction;" ∈ lw_tbl := qt2 _ (List.mem_of_getElem? (i := 197) rfl)
theorem sZ_3 : Jvm.Cond.initialized "java/lang/String" ∈ lw_tbl := qt1 _ (List.mem_of_getElem? (i := 12) rfl)
theorem sZ_4 : Jvm.Cond.initialized "jdk/internal/util/Preconditions" ∈ lw_tbl := qt1 _ (List.mem_of_getElem? (i := 14) rfl)
theorem sZ_5 : sFl[4]? = some (Jvm.Cond.eq (.static "java/lang/String" "COMPACT_STRINGS" "Z") (.int 1)) := by decide +kernel
theorem sZ_6 : sFl[5]? = some (Jvm.Cond.isRef (.static "jdk/internal/util/Preconditions" "SIOOBE_FORMATTER" "Ljava/util/function/BiFunction;")) := by decide +kernel
theorem sR_all : ∀ (k : Nat) (q : Nat × String), qstr[k]? = some q → Jvm.Cond.stringRef "UsedUp$Reader" q.1 q.2 ∈ lw_tbl ∧ k < 15 ∧ sTm k = Term.string "UsedUp$Reader" q.1 := by
  intro k q hk
  match k, hk with
  | 0, hk =>
    have e := Option.some.inj (show some (64, "def") = some q from hk)
    subst e
    exact ⟨sR_0, by omega, rfl⟩
  | 1, hk =>
    have e := Option.some.inj (show some (73, "}") = some q from hk)
    subst e
    exact ⟨sR_1, by omega, rfl⟩
  | 2, hk =>
    have e := Option.some.inj (show some (102, "{") = some q from hk)
    subst e
    exact ⟨sR_2, by omega, rfl⟩
  | 3, hk =>
    have e := Option.some.inj (show some (120, "else") = some q from hk)
    subst e
    exact ⟨sR_3, by omega, rfl⟩
  | 4, hk =>
    have e := Option.some.inj (show some (140, ";") = some q from hk)
    subst e
    exact ⟨sR_4, by omega, rfl⟩
  | 5, hk =>
    have e := Option.some.inj (show some (151, "spend") = some q from hk)
    subst e
    exact ⟨sR_5, by omega, rfl⟩
  | 6, hk =>
    have e := Option.some.inj (show some (153, "times") = some q from hk)
    subst e
    exact ⟨sR_6, by omega, rfl⟩
  | 7, hk =>
    have e := Option.some.inj (show some (155, "hold") = some q from hk)
    subst e
    exact ⟨sR_7, by omega, rfl⟩
  | 8, hk =>
    have e := Option.some.inj (show some (157, "lock") = some q from hk)
    subst e
    exact ⟨sR_8, by omega, rfl⟩
  | 9, hk =>
    have e := Option.some.inj (show some (159, "call") = some q from hk)
    subst e
    exact ⟨sR_9, by omega, rfl⟩
  | 10, hk =>
    have e := Option.some.inj (show some (161, "if") = some q from hk)
    subst e
    exact ⟨sR_10, by omega, rfl⟩
  | 11, hk =>
    have e := Option.some.inj (show some (174, "<") = some q from hk)
    subst e
    exact ⟨sR_11, by omega, rfl⟩
  | 12, hk =>
    have e := Option.some.inj (show some (179, "+") = some q from hk)
    subst e
    exact ⟨sR_12, by omega, rfl⟩
  | 13, hk =>
    have e := Option.some.inj (show some (181, "*") = some q from hk)
    subst e
    exact ⟨sR_13, by omega, rfl⟩
  | 14, hk =>
    have e := Option.some.inj (show some (191, "double") = some q from hk)
    subst e
    exact ⟨sR_14, by omega, rfl⟩
  | k + 15, hk => exact absurd (show k + 15 < 15 from (List.getElem?_eq_some_iff.mp hk).1) (by omega)
theorem sE {s : State} {args : Array Value} {A : Nat → Prop} (hts : ∀ w ∈ lw_tbl, w.before args s = true) (hgv : (Jvm.Cond.and given_1 narrow_1).before args s = true) (hA : ∀ a : Nat, a < s.heap.size → ¬ A a) : ∃ aK sv : Nat → Nat, ∀ ad : Nat → Nat, (∀ k, ad (300 + k) = aK k) → qExt ad sv A s s.heap := by
  have hf : ∀ w ∈ sFl, w.before args s = true := flat_of_before _ hgv
  obtain ⟨aK, aV, hS, hT⟩ := vk_Sof (args := args) (s := s) (N := 15) (tm := sTm) (len := qsln) (byt := qsby) (A := A) (by decide +kernel) (fun i hi => hf _ (List.mem_of_getElem? (sMe i hi))) (fun i hi => hf _ (List.mem_of_getElem? (sMc i hi))) (fun i hi => hf _ (List.mem_of_getElem? (sMa i hi))) (fun i hi => hf _ (List.mem_of_getElem? (sMl i hi))) (fun i hi j hj => hf _ (List.mem_of_getElem? (sMb i hi j hj))) (fun i j hi hj hij => by
    have h := sMp i hi j hj hij
    rw [Bool.or_eq_true] at h
    rcases h with h | h
    · exact Or.inl (hf _ (sMq h))
    · exact Or.inr (hf _ (sMq h))) hA
  have z1 : va_Z "java/lang/String" "COMPACT_STRINGS" "Z" (.int 1) A s s.heap := va_Zof (hts _ sZ_1) (hts _ sZ_3) (va_eqi (hf _ (List.mem_of_getElem? sZ_5))) hA
  have z2 := va_Zqof (hts _ sZ_2) (hts _ sZ_4) (hf _ (List.mem_of_getElem? sZ_6)) hA
  refine ⟨aK, aV, fun ad had => ⟨fun w hw => ?_, ?_, fun k q hk => ?_, z1, ?_⟩⟩
  · have h2 := (List.mem_filter.mp hw).1
    obtain ⟨a, i, y, b, rfl⟩ := qnest_on hw
    exact va_Nw.of rfl (hts _ h2)
  · rw [show (fun k => ad (300 + k)) = aK from funext had]
    exact hS
  · obtain ⟨h1, h2, h3⟩ := sR_all k q hk
    refine vk_R.of (A := args) (hts _ h1) ?_
    rw [had k, ← h3]
    exact hT k h2
  · rcases z2 with z | ⟨t, z⟩
    · exact ⟨.null, Or.inl rfl, z⟩
    · exact ⟨.ref t, Or.inr ⟨t, rfl⟩, z⟩
