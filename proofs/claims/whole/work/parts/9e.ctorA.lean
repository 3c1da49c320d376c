/-! the constructors, by the kit's rows (mk9e.py) -/
theorem cn_same {A : Nat → Prop} {ws ws' : va_W} (h : ∀ (k : Nat) (x : Nat × va_E), ws'[k]? = some x → ∃ y : Nat × va_E, ws[k]? = some y ∧ y.1 = x.1) (hD : va_D A ws) : va_D A ws' := by
  refine ⟨fun i j a b ha hb hab => ?_, fun k x hx => ?_⟩
  · obtain ⟨a', h1, h2⟩ := h i a ha
    obtain ⟨b', h3, h4⟩ := h j b hb
    exact hD.1 i j a' b' h1 h3 (by rw [h2, h4]; exact hab)
  · obtain ⟨y, h1, h2⟩ := h k x hx
    rw [← h2]
    exact hD.2 k y h1
theorem cn_keys {wa : va_W} {q k : Nat} {e e' : va_E} {x : Nat × va_E} (hx : (wa ++ [(q, e')])[k]? = some x) : ∃ y : Nat × va_E, (wa ++ [(q, e)])[k]? = some y ∧ y.1 = x.1 := by
  by_cases hk : k < wa.length
  · rw [List.getElem?_append_left hk] at hx ⊢
    exact ⟨x, hx, rfl⟩
  · rw [List.getElem?_append_right (by omega)] at hx ⊢
    have hz : k - wa.length < 1 := (List.getElem?_eq_some_iff.mp hx).1
    rw [show k - wa.length = 0 by omega] at hx ⊢
    cases hx
    exact ⟨_, rfl, rfl⟩
theorem cO_inst : Jvm.Cond.instanceMethod objectInit ∈ qTB := qw1 23 rfl rfl
theorem cO_code : Jvm.Cond.code objectInit ⟨#[0xb1]⟩ 1 none ∈ qTB := qw1 24 rfl rfl
theorem cM7_3 : Jvm.Cond.methodLink RX7 3 objectInit ∈ qTB := qw1 134 rfl rfl
theorem cF7_9 : (Jvm.Cond.fieldLink "UsedUp$Tokens" (9 : Nat) "UsedUp$Tokens" "from" "I") ∈ qTB := qw1 136 rfl rfl
theorem cF7_15 : (Jvm.Cond.fieldLink "UsedUp$Tokens" (15 : Nat) "UsedUp$Tokens" "to" "I") ∈ qTB := qw1 138 rfl rfl
theorem cF7_18 : (Jvm.Cond.fieldLink "UsedUp$Tokens" (18 : Nat) "UsedUp$Tokens" "tape" "LUsedUp$Tape;") ∈ qTB := qw1 135 rfl rfl
theorem dC7_0 : decode cX7_init 0 = .ok (.aload_n 0, 1) := by decide +kernel
theorem dC7_1 : decode cX7_init 1 = .ok (.invokespecial 3, 3) := by decide +kernel
theorem dC7_4 : decode cX7_init 4 = .ok (.aload_n 0, 1) := by decide +kernel
theorem dC7_5 : decode cX7_init 5 = .ok (.iconst 0, 1) := by decide +kernel
theorem dC7_6 : decode cX7_init 6 = .ok (.putfield 9, 3) := by decide +kernel
theorem dC7_9 : decode cX7_init 9 = .ok (.aload_n 0, 1) := by decide +kernel
theorem dC7_10 : decode cX7_init 10 = .ok (.iconst 0, 1) := by decide +kernel
theorem dC7_11 : decode cX7_init 11 = .ok (.putfield 15, 3) := by decide +kernel
theorem dC7_14 : decode cX7_init 14 = .ok (.aload_n 0, 1) := by decide +kernel
theorem dC7_15 : decode cX7_init 15 = .ok (.aload_n 1, 1) := by decide +kernel
theorem dC7_16 : decode cX7_init 16 = .ok (.putfield 18, 3) := by decide +kernel
theorem dC7_19 : decode cX7_init 19 = .ok (.return_, 1) := by decide +kernel
set_option maxRecDepth 20000 in
set_option maxHeartbeats 4000000 in
theorem ct_X7 (l : Launch) (D : va_G) (cy : Nat → Nat) (h0 h1 sz : Nat) : Met l yX7_init (qwc yX7_init cX7_init 2) ({ frames := 1, cells := 0, slots := 0, locals := 12 }) (cPc D cy [.ref h0, .ref h1] [(h0, .inr (7, [.null, .int 0, .int 0]))] sz) (cQc D [(h0, .inr (7, [.null, .int 0, .int 0]))] sz (fun u => u = [(h0, .inr (7, [.ref h1, .int (nI 0), .int (nI 0)]))])) 0 0 (va_A [(h0, .inr (7, [.null, .int 0, .int 0]))] sz) := by
  refine ct_intro (by decide) (Nat.le_of_ble_eq_true rfl) ?_
  intro p e s m below meth c A hsz hx hb hml hown hin hr hlocks hq hK hN hP hD hS hA hAe ls hl
  have hl : lv_has ls 2 [(0, .ref h0), (1, .ref h1)] := hl
  subst hsz
  have hP : va_P D vwCl [(h0, .inr (7, [.null, .int 0, .int 0]))] s.heap := hP
  refine lv_aload_n hx hb dC7_0 rfl (lv_at hl 0 rfl) ?_
  refine W.objInit hx hb hown (hq _ cM7_3) (hq _ cO_inst) (hq _ cO_code) rfl (by rw [hml]; exact hl.1) rfl dC7_1 (Nat.le_of_ble_eq_true rfl) (Nat.le_of_ble_eq_true rfl) ?_
  refine W.eq (g2 := F0 m 4 ls []) rfl ?_
  refine lv_aload_n hx hb dC7_4 rfl (lv_at hl 0 rfl) ?_
  refine lv_iconst (v := nI 0) hx hb dC7_5 (by decide) ?_
  refine va_put (D := D) (ci := 7) (v := .int (nI 0)) (ty := tyX7 1) (C := RX7) (T := TX7) (N := 3) hx hb hq qlayX7 tyX7 tyX7_ok nmX7 hown hK hP hD hS 0 rfl rfl 1 (by decide) (hq _ cF7_9) (fun _ h9 => h9) rfl (tyX7_ok 1 (by decide)) rfl rfl (Nat.le_of_ble_eq_true rfl) dC7_6 (fun H locs hP hD hS => ?_)
  have hP : va_P D vwCl [(h0, .inr (7, [.null, .int (nI 0), .int 0]))] H := hP
  have hD : va_D A [(h0, .inr (7, [.null, .int (nI 0), .int 0]))] := hD
  refine lv_aload_n hx hb dC7_9 rfl (lv_at hl 0 rfl) ?_
  refine lv_iconst (v := nI 0) hx hb dC7_10 (by decide) ?_
  refine va_put (D := D) (ci := 7) (v := .int (nI 0)) (ty := tyX7 2) (C := RX7) (T := TX7) (N := 3) hx hb hq qlayX7 tyX7 tyX7_ok nmX7 hown hK hP hD hS 0 rfl rfl 2 (by decide) (hq _ cF7_15) (fun _ h9 => h9) rfl (tyX7_ok 2 (by decide)) rfl rfl (Nat.le_of_ble_eq_true rfl) dC7_11 (fun H locs hP hD hS => ?_)
  have hP : va_P D vwCl [(h0, .inr (7, [.null, .int (nI 0), .int (nI 0)]))] H := hP
  have hD : va_D A [(h0, .inr (7, [.null, .int (nI 0), .int (nI 0)]))] := hD
  refine lv_aload_n hx hb dC7_14 rfl (lv_at hl 0 rfl) ?_
  refine lv_aload_n hx hb dC7_15 rfl (lv_at hl 1 rfl) ?_
  refine va_putF (D := D) (ci := 7) (v := .ref h1) (ty := tyX7 0) (C := RX7) (T := TX7) (N := 3) hx hb hq qlayX7 tyX7 tyX7_ok nmX7 hown hK hP hD hS 0 rfl rfl 0 (by decide) (hq _ cF7_18) (fun _ h9 => h9) rfl hin rfl (tyX7_ok 0 (by decide)) rfl rfl (Nat.le_of_ble_eq_true rfl) dC7_16 (fun H locs hP hD hS => ?_)
  have hP : va_P D vwCl [(h0, .inr (7, [.ref h1, .int (nI 0), .int (nI 0)]))] H := hP
  have hD : va_D A [(h0, .inr (7, [.ref h1, .int (nI 0), .int (nI 0)]))] := hD
  rw [hAe] at hD hS
  exact W.vret hx hb hr (fun t ht hW => ⟨⟨_, rfl, rfl, by rw [ht]; exact hP, hD⟩, hS.F ht⟩) hS.2.2 dC7_19 hlocks
theorem cM6_3 : Jvm.Cond.methodLink RX6 3 objectInit ∈ qTB := qw1 112 rfl rfl
theorem cF6_9 : (Jvm.Cond.fieldLink "UsedUp$Tape" (9 : Nat) "UsedUp$Tape" "bytes" "[I") ∈ qTB := qw1 113 rfl rfl
theorem cF6_15 : (Jvm.Cond.fieldLink "UsedUp$Tape" (15 : Nat) "UsedUp$Tape" "length" "I") ∈ qTB := qw1 115 rfl rfl
theorem dC6_0 : decode cX6_init 0 = .ok (.aload_n 0, 1) := by decide +kernel
theorem dC6_1 : decode cX6_init 1 = .ok (.invokespecial 3, 3) := by decide +kernel
theorem dC6_4 : decode cX6_init 4 = .ok (.aload_n 0, 1) := by decide +kernel
theorem dC6_5 : decode cX6_init 5 = .ok (.sipush 400, 3) := by decide +kernel
theorem dC6_8 : decode cX6_init 8 = .ok (.newarray .int, 2) := by decide +kernel
theorem dC6_10 : decode cX6_init 10 = .ok (.putfield 9, 3) := by decide +kernel
theorem dC6_13 : decode cX6_init 13 = .ok (.aload_n 0, 1) := by decide +kernel
theorem dC6_14 : decode cX6_init 14 = .ok (.iconst 0, 1) := by decide +kernel
theorem dC6_15 : decode cX6_init 15 = .ok (.putfield 15, 3) := by decide +kernel
theorem dC6_18 : decode cX6_init 18 = .ok (.return_, 1) := by decide +kernel
set_option maxRecDepth 20000 in
set_option maxHeartbeats 4000000 in
theorem ct_X6 (l : Launch) (D : va_G) (cy : Nat → Nat) (h0 sz : Nat) : Met l yX6_init (qwc yX6_init cX6_init 1) ({ frames := 1, cells := 1, slots := 400, locals := 12 }) (cPc D cy [.ref h0] [(h0, .inr (6, [.null, .int 0]))] sz) (cQc D [(h0, .inr (6, [.null, .int 0]))] sz (fun u => ∃ q1 : Nat, u = [(h0, .inr (6, [.ref q1, .int (nI 0)])), aI cy q1 400])) 1 400 (va_A [(h0, .inr (6, [.null, .int 0]))] sz) := by
  refine ct_intro (by decide) (Nat.le_of_ble_eq_true rfl) ?_
  intro p e s m below meth c A hsz hx hb hml hown hin hr hlocks hq hK hN hP hD hS hA hAe ls hl
  have hl : lv_has ls 1 [(0, .ref h0)] := hl
  subst hsz
  have hP : va_P D vwCl [(h0, .inr (6, [.null, .int 0]))] s.heap := hP
  refine lv_aload_n hx hb dC6_0 rfl (lv_at hl 0 rfl) ?_
  refine W.objInit hx hb hown (hq _ cM6_3) (hq _ cO_inst) (hq _ cO_code) rfl (by rw [hml]; exact hl.1) rfl dC6_1 (Nat.le_of_ble_eq_true rfl) (Nat.le_of_ble_eq_true rfl) ?_
  refine W.eq (g2 := F0 m 4 ls []) rfl ?_
  refine lv_aload_n hx hb dC6_4 rfl (lv_at hl 0 rfl) ?_
  refine lv_sipush (v := nI 400) hx hb dC6_5 (by decide) ?_
  refine cn_newI hx hb hq hK hP hD hS hA (Nat.le_of_ble_eq_true rfl) (Nat.le_of_ble_eq_true rfl) (Nat.le_of_ble_eq_true rfl) dC6_8 (fun q1 H hP hD hS => ?_)
  have hP : va_P D vwCl [(h0, .inr (6, [.null, .int 0])), aI cy q1 400] H := hP
  have hD : va_D A [(h0, .inr (6, [.null, .int 0])), aI cy q1 400] := hD
  refine W.widen (k := 1) (n := 400) (Nat.le_refl _) (Nat.le_refl _) ?_
  refine va_putF (D := D) (ci := 6) (v := .ref q1) (ty := tyX6 0) (C := RX6) (T := TX6) (N := 2) hx hb hq qlayX6 tyX6 tyX6_ok nmX6 hown hK hP hD hS 0 rfl rfl 0 (by decide) (hq _ cF6_9) (fun _ h9 => h9) rfl hin rfl (tyX6_ok 0 (by decide)) rfl rfl (Nat.le_of_ble_eq_true rfl) dC6_10 (fun H locs hP hD hS => ?_)
  have hP : va_P D vwCl [(h0, .inr (6, [.ref q1, .int 0])), aI cy q1 400] H := hP
  have hD : va_D A [(h0, .inr (6, [.ref q1, .int 0])), aI cy q1 400] := hD
  refine lv_aload_n hx hb dC6_13 rfl (lv_at hl 0 rfl) ?_
  refine lv_iconst (v := nI 0) hx hb dC6_14 (by decide) ?_
  refine va_put (D := D) (ci := 6) (v := .int (nI 0)) (ty := tyX6 1) (C := RX6) (T := TX6) (N := 2) hx hb hq qlayX6 tyX6 tyX6_ok nmX6 hown hK hP hD hS 0 rfl rfl 1 (by decide) (hq _ cF6_15) (fun _ h9 => h9) rfl (tyX6_ok 1 (by decide)) rfl rfl (Nat.le_of_ble_eq_true rfl) dC6_15 (fun H locs hP hD hS => ?_)
  have hP : va_P D vwCl [(h0, .inr (6, [.ref q1, .int (nI 0)])), aI cy q1 400] H := hP
  have hD : va_D A [(h0, .inr (6, [.ref q1, .int (nI 0)])), aI cy q1 400] := hD
  rw [hAe] at hD hS
  exact W.vret hx hb hr (fun t ht hW => ⟨⟨_, rfl, ⟨q1, rfl⟩, by rw [ht]; exact hP, hD⟩, hS.F ht⟩) hS.2.2 dC6_18 hlocks
theorem cM5_3 : Jvm.Cond.methodLink RX5 3 objectInit ∈ qTB := qw1 30 rfl rfl
theorem cF5_9 : (Jvm.Cond.fieldLink "UsedUp$Script" (9 : Nat) "UsedUp$Script" "steps" "I") ∈ qTB := qw1 31 rfl rfl
theorem cF5_15 : (Jvm.Cond.fieldLink "UsedUp$Script" (15 : Nat) "UsedUp$Script" "places" "I") ∈ qTB := qw1 35 rfl rfl
theorem cF5_18 : (Jvm.Cond.fieldLink "UsedUp$Script" (18 : Nat) "UsedUp$Script" "defs" "I") ∈ qTB := qw1 39 rfl rfl
theorem cF5_21 : (Jvm.Cond.fieldLink "UsedUp$Script" (21 : Nat) "UsedUp$Script" "factors" "I") ∈ qTB := qw1 44 rfl rfl
theorem cF5_24 : (Jvm.Cond.fieldLink "UsedUp$Script" (24 : Nat) "UsedUp$Script" "partStarts" "[I") ∈ qTB := qw1 45 rfl rfl
theorem cF5_28 : (Jvm.Cond.fieldLink "UsedUp$Script" (28 : Nat) "UsedUp$Script" "placeSteps" "[I") ∈ qTB := qw1 48 rfl rfl
theorem cF5_31 : (Jvm.Cond.fieldLink "UsedUp$Script" (31 : Nat) "UsedUp$Script" "kinds" "[I") ∈ qTB := qw1 51 rfl rfl
theorem cF5_34 : (Jvm.Cond.fieldLink "UsedUp$Script" (34 : Nat) "UsedUp$Script" "parents" "[I") ∈ qTB := qw1 55 rfl rfl
theorem cF5_37 : (Jvm.Cond.fieldLink "UsedUp$Script" (37 : Nat) "UsedUp$Script" "blocks" "[I") ∈ qTB := qw1 58 rfl rfl
theorem cF5_40 : (Jvm.Cond.fieldLink "UsedUp$Script" (40 : Nat) "UsedUp$Script" "values" "[I") ∈ qTB := qw1 60 rfl rfl
theorem cF5_43 : (Jvm.Cond.fieldLink "UsedUp$Script" (43 : Nat) "UsedUp$Script" "ifNames" "[I") ∈ qTB := qw1 63 rfl rfl
theorem cF5_46 : (Jvm.Cond.fieldLink "UsedUp$Script" (46 : Nat) "UsedUp$Script" "amountStarts" "[I") ∈ qTB := qw1 64 rfl rfl
theorem cF5_49 : (Jvm.Cond.fieldLink "UsedUp$Script" (49 : Nat) "UsedUp$Script" "amountEnds" "[I") ∈ qTB := qw1 65 rfl rfl
theorem cF5_52 : (Jvm.Cond.fieldLink "UsedUp$Script" (52 : Nat) "UsedUp$Script" "factorKinds" "[I") ∈ qTB := qw1 66 rfl rfl
theorem cF5_55 : (Jvm.Cond.fieldLink "UsedUp$Script" (55 : Nat) "UsedUp$Script" "factorValues" "[I") ∈ qTB := qw1 67 rfl rfl
theorem cF5_58 : (Jvm.Cond.fieldLink "UsedUp$Script" (58 : Nat) "UsedUp$Script" "factorOpens" "[I") ∈ qTB := qw1 68 rfl rfl
theorem cF5_61 : (Jvm.Cond.fieldLink "UsedUp$Script" (61 : Nat) "UsedUp$Script" "usedNames" "I") ∈ qTB := qw1 69 rfl rfl
theorem dC5_0 : decode cX5_init 0 = .ok (.aload_n 0, 1) := by decide +kernel
theorem dC5_1 : decode cX5_init 1 = .ok (.invokespecial 3, 3) := by decide +kernel
theorem dC5_4 : decode cX5_init 4 = .ok (.aload_n 0, 1) := by decide +kernel
theorem dC5_5 : decode cX5_init 5 = .ok (.iconst 0, 1) := by decide +kernel
theorem dC5_6 : decode cX5_init 6 = .ok (.putfield 9, 3) := by decide +kernel
theorem dC5_9 : decode cX5_init 9 = .ok (.aload_n 0, 1) := by decide +kernel
theorem dC5_10 : decode cX5_init 10 = .ok (.iconst 0, 1) := by decide +kernel
theorem dC5_11 : decode cX5_init 11 = .ok (.putfield 15, 3) := by decide +kernel
theorem dC5_14 : decode cX5_init 14 = .ok (.aload_n 0, 1) := by decide +kernel
theorem dC5_15 : decode cX5_init 15 = .ok (.iconst 0, 1) := by decide +kernel
theorem dC5_16 : decode cX5_init 16 = .ok (.putfield 18, 3) := by decide +kernel
theorem dC5_19 : decode cX5_init 19 = .ok (.aload_n 0, 1) := by decide +kernel
theorem dC5_20 : decode cX5_init 20 = .ok (.iconst 0, 1) := by decide +kernel
theorem dC5_21 : decode cX5_init 21 = .ok (.putfield 21, 3) := by decide +kernel
theorem dC5_24 : decode cX5_init 24 = .ok (.aload_n 0, 1) := by decide +kernel
theorem dC5_25 : decode cX5_init 25 = .ok (.bipush 8, 2) := by decide +kernel
theorem dC5_27 : decode cX5_init 27 = .ok (.newarray .int, 2) := by decide +kernel
theorem dC5_29 : decode cX5_init 29 = .ok (.putfield 24, 3) := by decide +kernel
theorem dC5_32 : decode cX5_init 32 = .ok (.aload_n 0, 1) := by decide +kernel
theorem dC5_33 : decode cX5_init 33 = .ok (.bipush 8, 2) := by decide +kernel
theorem dC5_35 : decode cX5_init 35 = .ok (.newarray .int, 2) := by decide +kernel
theorem dC5_37 : decode cX5_init 37 = .ok (.putfield 28, 3) := by decide +kernel
theorem dC5_40 : decode cX5_init 40 = .ok (.aload_n 0, 1) := by decide +kernel
theorem dC5_41 : decode cX5_init 41 = .ok (.bipush 60, 2) := by decide +kernel
theorem dC5_43 : decode cX5_init 43 = .ok (.newarray .int, 2) := by decide +kernel
theorem dC5_45 : decode cX5_init 45 = .ok (.putfield 31, 3) := by decide +kernel
theorem dC5_48 : decode cX5_init 48 = .ok (.aload_n 0, 1) := by decide +kernel
theorem dC5_49 : decode cX5_init 49 = .ok (.bipush 60, 2) := by decide +kernel
theorem dC5_51 : decode cX5_init 51 = .ok (.newarray .int, 2) := by decide +kernel
theorem dC5_53 : decode cX5_init 53 = .ok (.putfield 34, 3) := by decide +kernel
theorem dC5_56 : decode cX5_init 56 = .ok (.aload_n 0, 1) := by decide +kernel
theorem dC5_57 : decode cX5_init 57 = .ok (.bipush 60, 2) := by decide +kernel
theorem dC5_59 : decode cX5_init 59 = .ok (.newarray .int, 2) := by decide +kernel
theorem dC5_61 : decode cX5_init 61 = .ok (.putfield 37, 3) := by decide +kernel
theorem dC5_64 : decode cX5_init 64 = .ok (.aload_n 0, 1) := by decide +kernel
theorem dC5_65 : decode cX5_init 65 = .ok (.bipush 60, 2) := by decide +kernel
theorem dC5_67 : decode cX5_init 67 = .ok (.newarray .int, 2) := by decide +kernel
theorem dC5_69 : decode cX5_init 69 = .ok (.putfield 40, 3) := by decide +kernel
theorem dC5_72 : decode cX5_init 72 = .ok (.aload_n 0, 1) := by decide +kernel
theorem dC5_73 : decode cX5_init 73 = .ok (.bipush 60, 2) := by decide +kernel
theorem dC5_75 : decode cX5_init 75 = .ok (.newarray .int, 2) := by decide +kernel
theorem dC5_77 : decode cX5_init 77 = .ok (.putfield 43, 3) := by decide +kernel
theorem dC5_80 : decode cX5_init 80 = .ok (.aload_n 0, 1) := by decide +kernel
theorem dC5_81 : decode cX5_init 81 = .ok (.bipush 60, 2) := by decide +kernel
theorem dC5_83 : decode cX5_init 83 = .ok (.newarray .int, 2) := by decide +kernel
theorem dC5_85 : decode cX5_init 85 = .ok (.putfield 46, 3) := by decide +kernel
theorem dC5_88 : decode cX5_init 88 = .ok (.aload_n 0, 1) := by decide +kernel
theorem dC5_89 : decode cX5_init 89 = .ok (.bipush 60, 2) := by decide +kernel
theorem dC5_91 : decode cX5_init 91 = .ok (.newarray .int, 2) := by decide +kernel
theorem dC5_93 : decode cX5_init 93 = .ok (.putfield 49, 3) := by decide +kernel
theorem dC5_96 : decode cX5_init 96 = .ok (.aload_n 0, 1) := by decide +kernel
theorem dC5_97 : decode cX5_init 97 = .ok (.sipush 200, 3) := by decide +kernel
theorem dC5_100 : decode cX5_init 100 = .ok (.newarray .int, 2) := by decide +kernel
theorem dC5_102 : decode cX5_init 102 = .ok (.putfield 52, 3) := by decide +kernel
theorem dC5_105 : decode cX5_init 105 = .ok (.aload_n 0, 1) := by decide +kernel
theorem dC5_106 : decode cX5_init 106 = .ok (.sipush 200, 3) := by decide +kernel
theorem dC5_109 : decode cX5_init 109 = .ok (.newarray .int, 2) := by decide +kernel
theorem dC5_111 : decode cX5_init 111 = .ok (.putfield 55, 3) := by decide +kernel
theorem dC5_114 : decode cX5_init 114 = .ok (.aload_n 0, 1) := by decide +kernel
theorem dC5_115 : decode cX5_init 115 = .ok (.sipush 200, 3) := by decide +kernel
theorem dC5_118 : decode cX5_init 118 = .ok (.newarray .int, 2) := by decide +kernel
theorem dC5_120 : decode cX5_init 120 = .ok (.putfield 58, 3) := by decide +kernel
theorem dC5_123 : decode cX5_init 123 = .ok (.aload_n 0, 1) := by decide +kernel
theorem dC5_124 : decode cX5_init 124 = .ok (.iconst 0, 1) := by decide +kernel
theorem dC5_125 : decode cX5_init 125 = .ok (.putfield 61, 3) := by decide +kernel
theorem dC5_128 : decode cX5_init 128 = .ok (.return_, 1) := by decide +kernel
set_option maxRecDepth 20000 in
set_option maxHeartbeats 4000000 in
theorem ct_X5 (l : Launch) (D : va_G) (cy : Nat → Nat) (h0 sz : Nat) : Met l yX5_init (qwc yX5_init cX5_init 1) ({ frames := 1, cells := 12, slots := 1036, locals := 12 }) (cPc D cy [.ref h0] [(h0, .inr (5, [.int 0, .int 0, .int 0, .int 0, .null, .null, .null, .null, .null, .null, .null, .null, .null, .null, .null, .null, .int 0]))] sz) (cQc D [(h0, .inr (5, [.int 0, .int 0, .int 0, .int 0, .null, .null, .null, .null, .null, .null, .null, .null, .null, .null, .null, .null, .int 0]))] sz (fun u => ∃ q1 q2 q3 q4 q5 q6 q7 q8 q9 q10 q11 q12 : Nat, u = [(h0, .inr (5, [.int (nI 0), .int (nI 0), .int (nI 0), .int (nI 0), .ref q1, .ref q2, .ref q3, .ref q4, .ref q5, .ref q6, .ref q7, .ref q8, .ref q9, .ref q10, .ref q11, .ref q12, .int (nI 0)])), aI cy q1 8, aI cy q2 8, aI cy q3 60, aI cy q4 60, aI cy q5 60, aI cy q6 60, aI cy q7 60, aI cy q8 60, aI cy q9 60, aI cy q10 200, aI cy q11 200, aI cy q12 200])) 12 1036 (va_A [(h0, .inr (5, [.int 0, .int 0, .int 0, .int 0, .null, .null, .null, .null, .null, .null, .null, .null, .null, .null, .null, .null, .int 0]))] sz) := by
  refine ct_intro (by decide) (Nat.le_of_ble_eq_true rfl) ?_
  intro p e s m below meth c A hsz hx hb hml hown hin hr hlocks hq hK hN hP hD hS hA hAe ls hl
  have hl : lv_has ls 1 [(0, .ref h0)] := hl
  subst hsz
  have hP : va_P D vwCl [(h0, .inr (5, [.int 0, .int 0, .int 0, .int 0, .null, .null, .null, .null, .null, .null, .null, .null, .null, .null, .null, .null, .int 0]))] s.heap := hP
  refine lv_aload_n hx hb dC5_0 rfl (lv_at hl 0 rfl) ?_
  refine W.objInit hx hb hown (hq _ cM5_3) (hq _ cO_inst) (hq _ cO_code) rfl (by rw [hml]; exact hl.1) rfl dC5_1 (Nat.le_of_ble_eq_true rfl) (Nat.le_of_ble_eq_true rfl) ?_
  refine W.eq (g2 := F0 m 4 ls []) rfl ?_
  refine lv_aload_n hx hb dC5_4 rfl (lv_at hl 0 rfl) ?_
  refine lv_iconst (v := nI 0) hx hb dC5_5 (by decide) ?_
  refine va_put (D := D) (ci := 5) (v := .int (nI 0)) (ty := tyX5 0) (C := RX5) (T := TX5) (N := 17) hx hb hq qlayX5 tyX5 tyX5_ok nmX5 hown hK hP hD hS 0 rfl rfl 0 (by decide) (hq _ cF5_9) (fun _ h9 => h9) rfl (tyX5_ok 0 (by decide)) rfl rfl (Nat.le_of_ble_eq_true rfl) dC5_6 (fun H locs hP hD hS => ?_)
  have hP : va_P D vwCl [(h0, .inr (5, [.int (nI 0), .int 0, .int 0, .int 0, .null, .null, .null, .null, .null, .null, .null, .null, .null, .null, .null, .null, .int 0]))] H := hP
  have hD : va_D A [(h0, .inr (5, [.int (nI 0), .int 0, .int 0, .int 0, .null, .null, .null, .null, .null, .null, .null, .null, .null, .null, .null, .null, .int 0]))] := hD
  refine lv_aload_n hx hb dC5_9 rfl (lv_at hl 0 rfl) ?_
  refine lv_iconst (v := nI 0) hx hb dC5_10 (by decide) ?_
  refine va_put (D := D) (ci := 5) (v := .int (nI 0)) (ty := tyX5 1) (C := RX5) (T := TX5) (N := 17) hx hb hq qlayX5 tyX5 tyX5_ok nmX5 hown hK hP hD hS 0 rfl rfl 1 (by decide) (hq _ cF5_15) (fun _ h9 => h9) rfl (tyX5_ok 1 (by decide)) rfl rfl (Nat.le_of_ble_eq_true rfl) dC5_11 (fun H locs hP hD hS => ?_)
  have hP : va_P D vwCl [(h0, .inr (5, [.int (nI 0), .int (nI 0), .int 0, .int 0, .null, .null, .null, .null, .null, .null, .null, .null, .null, .null, .null, .null, .int 0]))] H := hP
  have hD : va_D A [(h0, .inr (5, [.int (nI 0), .int (nI 0), .int 0, .int 0, .null, .null, .null, .null, .null, .null, .null, .null, .null, .null, .null, .null, .int 0]))] := hD
  refine lv_aload_n hx hb dC5_14 rfl (lv_at hl 0 rfl) ?_
  refine lv_iconst (v := nI 0) hx hb dC5_15 (by decide) ?_
  refine va_put (D := D) (ci := 5) (v := .int (nI 0)) (ty := tyX5 2) (C := RX5) (T := TX5) (N := 17) hx hb hq qlayX5 tyX5 tyX5_ok nmX5 hown hK hP hD hS 0 rfl rfl 2 (by decide) (hq _ cF5_18) (fun _ h9 => h9) rfl (tyX5_ok 2 (by decide)) rfl rfl (Nat.le_of_ble_eq_true rfl) dC5_16 (fun H locs hP hD hS => ?_)
  have hP : va_P D vwCl [(h0, .inr (5, [.int (nI 0), .int (nI 0), .int (nI 0), .int 0, .null, .null, .null, .null, .null, .null, .null, .null, .null, .null, .null, .null, .int 0]))] H := hP
  have hD : va_D A [(h0, .inr (5, [.int (nI 0), .int (nI 0), .int (nI 0), .int 0, .null, .null, .null, .null, .null, .null, .null, .null, .null, .null, .null, .null, .int 0]))] := hD
  refine lv_aload_n hx hb dC5_19 rfl (lv_at hl 0 rfl) ?_
  refine lv_iconst (v := nI 0) hx hb dC5_20 (by decide) ?_
  refine va_put (D := D) (ci := 5) (v := .int (nI 0)) (ty := tyX5 3) (C := RX5) (T := TX5) (N := 17) hx hb hq qlayX5 tyX5 tyX5_ok nmX5 hown hK hP hD hS 0 rfl rfl 3 (by decide) (hq _ cF5_21) (fun _ h9 => h9) rfl (tyX5_ok 3 (by decide)) rfl rfl (Nat.le_of_ble_eq_true rfl) dC5_21 (fun H locs hP hD hS => ?_)
  have hP : va_P D vwCl [(h0, .inr (5, [.int (nI 0), .int (nI 0), .int (nI 0), .int (nI 0), .null, .null, .null, .null, .null, .null, .null, .null, .null, .null, .null, .null, .int 0]))] H := hP
  have hD : va_D A [(h0, .inr (5, [.int (nI 0), .int (nI 0), .int (nI 0), .int (nI 0), .null, .null, .null, .null, .null, .null, .null, .null, .null, .null, .null, .null, .int 0]))] := hD
  refine lv_aload_n hx hb dC5_24 rfl (lv_at hl 0 rfl) ?_
  refine lv_bipush (v := nI 8) hx hb dC5_25 (by decide) ?_
  refine cn_newI hx hb hq hK hP hD hS hA (Nat.le_of_ble_eq_true rfl) (Nat.le_of_ble_eq_true rfl) (Nat.le_of_ble_eq_true rfl) dC5_27 (fun q1 H hP hD hS => ?_)
  have hP : va_P D vwCl [(h0, .inr (5, [.int (nI 0), .int (nI 0), .int (nI 0), .int (nI 0), .null, .null, .null, .null, .null, .null, .null, .null, .null, .null, .null, .null, .int 0])), aI cy q1 8] H := hP
  have hD : va_D A [(h0, .inr (5, [.int (nI 0), .int (nI 0), .int (nI 0), .int (nI 0), .null, .null, .null, .null, .null, .null, .null, .null, .null, .null, .null, .null, .int 0])), aI cy q1 8] := hD
  refine W.widen (k := 1) (n := 8) (Nat.le_refl _) (Nat.le_refl _) ?_
  refine va_putF (D := D) (ci := 5) (v := .ref q1) (ty := tyX5 4) (C := RX5) (T := TX5) (N := 17) hx hb hq qlayX5 tyX5 tyX5_ok nmX5 hown hK hP hD hS 0 rfl rfl 4 (by decide) (hq _ cF5_24) (fun _ h9 => h9) rfl hin rfl (tyX5_ok 4 (by decide)) rfl rfl (Nat.le_of_ble_eq_true rfl) dC5_29 (fun H locs hP hD hS => ?_)
  have hP : va_P D vwCl [(h0, .inr (5, [.int (nI 0), .int (nI 0), .int (nI 0), .int (nI 0), .ref q1, .null, .null, .null, .null, .null, .null, .null, .null, .null, .null, .null, .int 0])), aI cy q1 8] H := hP
  have hD : va_D A [(h0, .inr (5, [.int (nI 0), .int (nI 0), .int (nI 0), .int (nI 0), .ref q1, .null, .null, .null, .null, .null, .null, .null, .null, .null, .null, .null, .int 0])), aI cy q1 8] := hD
  refine lv_aload_n hx hb dC5_32 rfl (lv_at hl 0 rfl) ?_
  refine lv_bipush (v := nI 8) hx hb dC5_33 (by decide) ?_
  refine cn_newI hx hb hq hK hP hD hS hA (Nat.le_of_ble_eq_true rfl) (Nat.le_of_ble_eq_true rfl) (Nat.le_of_ble_eq_true rfl) dC5_35 (fun q2 H hP hD hS => ?_)
  have hP : va_P D vwCl [(h0, .inr (5, [.int (nI 0), .int (nI 0), .int (nI 0), .int (nI 0), .ref q1, .null, .null, .null, .null, .null, .null, .null, .null, .null, .null, .null, .int 0])), aI cy q1 8, aI cy q2 8] H := hP
  have hD : va_D A [(h0, .inr (5, [.int (nI 0), .int (nI 0), .int (nI 0), .int (nI 0), .ref q1, .null, .null, .null, .null, .null, .null, .null, .null, .null, .null, .null, .int 0])), aI cy q1 8, aI cy q2 8] := hD
  refine W.widen (k := 2) (n := 16) (Nat.le_refl _) (Nat.le_refl _) ?_
  refine va_putF (D := D) (ci := 5) (v := .ref q2) (ty := tyX5 5) (C := RX5) (T := TX5) (N := 17) hx hb hq qlayX5 tyX5 tyX5_ok nmX5 hown hK hP hD hS 0 rfl rfl 5 (by decide) (hq _ cF5_28) (fun _ h9 => h9) rfl hin rfl (tyX5_ok 5 (by decide)) rfl rfl (Nat.le_of_ble_eq_true rfl) dC5_37 (fun H locs hP hD hS => ?_)
  have hP : va_P D vwCl [(h0, .inr (5, [.int (nI 0), .int (nI 0), .int (nI 0), .int (nI 0), .ref q1, .ref q2, .null, .null, .null, .null, .null, .null, .null, .null, .null, .null, .int 0])), aI cy q1 8, aI cy q2 8] H := hP
  have hD : va_D A [(h0, .inr (5, [.int (nI 0), .int (nI 0), .int (nI 0), .int (nI 0), .ref q1, .ref q2, .null, .null, .null, .null, .null, .null, .null, .null, .null, .null, .int 0])), aI cy q1 8, aI cy q2 8] := hD
  refine lv_aload_n hx hb dC5_40 rfl (lv_at hl 0 rfl) ?_
  refine lv_bipush (v := nI 60) hx hb dC5_41 (by decide) ?_
  refine cn_newI hx hb hq hK hP hD hS hA (Nat.le_of_ble_eq_true rfl) (Nat.le_of_ble_eq_true rfl) (Nat.le_of_ble_eq_true rfl) dC5_43 (fun q3 H hP hD hS => ?_)
  have hP : va_P D vwCl [(h0, .inr (5, [.int (nI 0), .int (nI 0), .int (nI 0), .int (nI 0), .ref q1, .ref q2, .null, .null, .null, .null, .null, .null, .null, .null, .null, .null, .int 0])), aI cy q1 8, aI cy q2 8, aI cy q3 60] H := hP
  have hD : va_D A [(h0, .inr (5, [.int (nI 0), .int (nI 0), .int (nI 0), .int (nI 0), .ref q1, .ref q2, .null, .null, .null, .null, .null, .null, .null, .null, .null, .null, .int 0])), aI cy q1 8, aI cy q2 8, aI cy q3 60] := hD
  refine W.widen (k := 3) (n := 76) (Nat.le_refl _) (Nat.le_refl _) ?_
  refine va_putF (D := D) (ci := 5) (v := .ref q3) (ty := tyX5 6) (C := RX5) (T := TX5) (N := 17) hx hb hq qlayX5 tyX5 tyX5_ok nmX5 hown hK hP hD hS 0 rfl rfl 6 (by decide) (hq _ cF5_31) (fun _ h9 => h9) rfl hin rfl (tyX5_ok 6 (by decide)) rfl rfl (Nat.le_of_ble_eq_true rfl) dC5_45 (fun H locs hP hD hS => ?_)
  have hP : va_P D vwCl [(h0, .inr (5, [.int (nI 0), .int (nI 0), .int (nI 0), .int (nI 0), .ref q1, .ref q2, .ref q3, .null, .null, .null, .null, .null, .null, .null, .null, .null, .int 0])), aI cy q1 8, aI cy q2 8, aI cy q3 60] H := hP
  have hD : va_D A [(h0, .inr (5, [.int (nI 0), .int (nI 0), .int (nI 0), .int (nI 0), .ref q1, .ref q2, .ref q3, .null, .null, .null, .null, .null, .null, .null, .null, .null, .int 0])), aI cy q1 8, aI cy q2 8, aI cy q3 60] := hD
  refine lv_aload_n hx hb dC5_48 rfl (lv_at hl 0 rfl) ?_
  refine lv_bipush (v := nI 60) hx hb dC5_49 (by decide) ?_
  refine cn_newI hx hb hq hK hP hD hS hA (Nat.le_of_ble_eq_true rfl) (Nat.le_of_ble_eq_true rfl) (Nat.le_of_ble_eq_true rfl) dC5_51 (fun q4 H hP hD hS => ?_)
  have hP : va_P D vwCl [(h0, .inr (5, [.int (nI 0), .int (nI 0), .int (nI 0), .int (nI 0), .ref q1, .ref q2, .ref q3, .null, .null, .null, .null, .null, .null, .null, .null, .null, .int 0])), aI cy q1 8, aI cy q2 8, aI cy q3 60, aI cy q4 60] H := hP
  have hD : va_D A [(h0, .inr (5, [.int (nI 0), .int (nI 0), .int (nI 0), .int (nI 0), .ref q1, .ref q2, .ref q3, .null, .null, .null, .null, .null, .null, .null, .null, .null, .int 0])), aI cy q1 8, aI cy q2 8, aI cy q3 60, aI cy q4 60] := hD
  refine W.widen (k := 4) (n := 136) (Nat.le_refl _) (Nat.le_refl _) ?_
  refine va_putF (D := D) (ci := 5) (v := .ref q4) (ty := tyX5 7) (C := RX5) (T := TX5) (N := 17) hx hb hq qlayX5 tyX5 tyX5_ok nmX5 hown hK hP hD hS 0 rfl rfl 7 (by decide) (hq _ cF5_34) (fun _ h9 => h9) rfl hin rfl (tyX5_ok 7 (by decide)) rfl rfl (Nat.le_of_ble_eq_true rfl) dC5_53 (fun H locs hP hD hS => ?_)
  have hP : va_P D vwCl [(h0, .inr (5, [.int (nI 0), .int (nI 0), .int (nI 0), .int (nI 0), .ref q1, .ref q2, .ref q3, .ref q4, .null, .null, .null, .null, .null, .null, .null, .null, .int 0])), aI cy q1 8, aI cy q2 8, aI cy q3 60, aI cy q4 60] H := hP
  have hD : va_D A [(h0, .inr (5, [.int (nI 0), .int (nI 0), .int (nI 0), .int (nI 0), .ref q1, .ref q2, .ref q3, .ref q4, .null, .null, .null, .null, .null, .null, .null, .null, .int 0])), aI cy q1 8, aI cy q2 8, aI cy q3 60, aI cy q4 60] := hD
  refine lv_aload_n hx hb dC5_56 rfl (lv_at hl 0 rfl) ?_
  refine lv_bipush (v := nI 60) hx hb dC5_57 (by decide) ?_
  refine cn_newI hx hb hq hK hP hD hS hA (Nat.le_of_ble_eq_true rfl) (Nat.le_of_ble_eq_true rfl) (Nat.le_of_ble_eq_true rfl) dC5_59 (fun q5 H hP hD hS => ?_)
  have hP : va_P D vwCl [(h0, .inr (5, [.int (nI 0), .int (nI 0), .int (nI 0), .int (nI 0), .ref q1, .ref q2, .ref q3, .ref q4, .null, .null, .null, .null, .null, .null, .null, .null, .int 0])), aI cy q1 8, aI cy q2 8, aI cy q3 60, aI cy q4 60, aI cy q5 60] H := hP
  have hD : va_D A [(h0, .inr (5, [.int (nI 0), .int (nI 0), .int (nI 0), .int (nI 0), .ref q1, .ref q2, .ref q3, .ref q4, .null, .null, .null, .null, .null, .null, .null, .null, .int 0])), aI cy q1 8, aI cy q2 8, aI cy q3 60, aI cy q4 60, aI cy q5 60] := hD
  refine W.widen (k := 5) (n := 196) (Nat.le_refl _) (Nat.le_refl _) ?_
  refine va_putF (D := D) (ci := 5) (v := .ref q5) (ty := tyX5 8) (C := RX5) (T := TX5) (N := 17) hx hb hq qlayX5 tyX5 tyX5_ok nmX5 hown hK hP hD hS 0 rfl rfl 8 (by decide) (hq _ cF5_37) (fun _ h9 => h9) rfl hin rfl (tyX5_ok 8 (by decide)) rfl rfl (Nat.le_of_ble_eq_true rfl) dC5_61 (fun H locs hP hD hS => ?_)
  have hP : va_P D vwCl [(h0, .inr (5, [.int (nI 0), .int (nI 0), .int (nI 0), .int (nI 0), .ref q1, .ref q2, .ref q3, .ref q4, .ref q5, .null, .null, .null, .null, .null, .null, .null, .int 0])), aI cy q1 8, aI cy q2 8, aI cy q3 60, aI cy q4 60, aI cy q5 60] H := hP
  have hD : va_D A [(h0, .inr (5, [.int (nI 0), .int (nI 0), .int (nI 0), .int (nI 0), .ref q1, .ref q2, .ref q3, .ref q4, .ref q5, .null, .null, .null, .null, .null, .null, .null, .int 0])), aI cy q1 8, aI cy q2 8, aI cy q3 60, aI cy q4 60, aI cy q5 60] := hD
  refine lv_aload_n hx hb dC5_64 rfl (lv_at hl 0 rfl) ?_
  refine lv_bipush (v := nI 60) hx hb dC5_65 (by decide) ?_
  refine cn_newI hx hb hq hK hP hD hS hA (Nat.le_of_ble_eq_true rfl) (Nat.le_of_ble_eq_true rfl) (Nat.le_of_ble_eq_true rfl) dC5_67 (fun q6 H hP hD hS => ?_)
  have hP : va_P D vwCl [(h0, .inr (5, [.int (nI 0), .int (nI 0), .int (nI 0), .int (nI 0), .ref q1, .ref q2, .ref q3, .ref q4, .ref q5, .null, .null, .null, .null, .null, .null, .null, .int 0])), aI cy q1 8, aI cy q2 8, aI cy q3 60, aI cy q4 60, aI cy q5 60, aI cy q6 60] H := hP
  have hD : va_D A [(h0, .inr (5, [.int (nI 0), .int (nI 0), .int (nI 0), .int (nI 0), .ref q1, .ref q2, .ref q3, .ref q4, .ref q5, .null, .null, .null, .null, .null, .null, .null, .int 0])), aI cy q1 8, aI cy q2 8, aI cy q3 60, aI cy q4 60, aI cy q5 60, aI cy q6 60] := hD
  refine W.widen (k := 6) (n := 256) (Nat.le_refl _) (Nat.le_refl _) ?_
  refine va_putF (D := D) (ci := 5) (v := .ref q6) (ty := tyX5 9) (C := RX5) (T := TX5) (N := 17) hx hb hq qlayX5 tyX5 tyX5_ok nmX5 hown hK hP hD hS 0 rfl rfl 9 (by decide) (hq _ cF5_40) (fun _ h9 => h9) rfl hin rfl (tyX5_ok 9 (by decide)) rfl rfl (Nat.le_of_ble_eq_true rfl) dC5_69 (fun H locs hP hD hS => ?_)
  have hP : va_P D vwCl [(h0, .inr (5, [.int (nI 0), .int (nI 0), .int (nI 0), .int (nI 0), .ref q1, .ref q2, .ref q3, .ref q4, .ref q5, .ref q6, .null, .null, .null, .null, .null, .null, .int 0])), aI cy q1 8, aI cy q2 8, aI cy q3 60, aI cy q4 60, aI cy q5 60, aI cy q6 60] H := hP
  have hD : va_D A [(h0, .inr (5, [.int (nI 0), .int (nI 0), .int (nI 0), .int (nI 0), .ref q1, .ref q2, .ref q3, .ref q4, .ref q5, .ref q6, .null, .null, .null, .null, .null, .null, .int 0])), aI cy q1 8, aI cy q2 8, aI cy q3 60, aI cy q4 60, aI cy q5 60, aI cy q6 60] := hD
  refine lv_aload_n hx hb dC5_72 rfl (lv_at hl 0 rfl) ?_
  refine lv_bipush (v := nI 60) hx hb dC5_73 (by decide) ?_
  refine cn_newI hx hb hq hK hP hD hS hA (Nat.le_of_ble_eq_true rfl) (Nat.le_of_ble_eq_true rfl) (Nat.le_of_ble_eq_true rfl) dC5_75 (fun q7 H hP hD hS => ?_)
  have hP : va_P D vwCl [(h0, .inr (5, [.int (nI 0), .int (nI 0), .int (nI 0), .int (nI 0), .ref q1, .ref q2, .ref q3, .ref q4, .ref q5, .ref q6, .null, .null, .null, .null, .null, .null, .int 0])), aI cy q1 8, aI cy q2 8, aI cy q3 60, aI cy q4 60, aI cy q5 60, aI cy q6 60, aI cy q7 60] H := hP
  have hD : va_D A [(h0, .inr (5, [.int (nI 0), .int (nI 0), .int (nI 0), .int (nI 0), .ref q1, .ref q2, .ref q3, .ref q4, .ref q5, .ref q6, .null, .null, .null, .null, .null, .null, .int 0])), aI cy q1 8, aI cy q2 8, aI cy q3 60, aI cy q4 60, aI cy q5 60, aI cy q6 60, aI cy q7 60] := hD
  refine W.widen (k := 7) (n := 316) (Nat.le_refl _) (Nat.le_refl _) ?_
  refine va_putF (D := D) (ci := 5) (v := .ref q7) (ty := tyX5 10) (C := RX5) (T := TX5) (N := 17) hx hb hq qlayX5 tyX5 tyX5_ok nmX5 hown hK hP hD hS 0 rfl rfl 10 (by decide) (hq _ cF5_43) (fun _ h9 => h9) rfl hin rfl (tyX5_ok 10 (by decide)) rfl rfl (Nat.le_of_ble_eq_true rfl) dC5_77 (fun H locs hP hD hS => ?_)
  have hP : va_P D vwCl [(h0, .inr (5, [.int (nI 0), .int (nI 0), .int (nI 0), .int (nI 0), .ref q1, .ref q2, .ref q3, .ref q4, .ref q5, .ref q6, .ref q7, .null, .null, .null, .null, .null, .int 0])), aI cy q1 8, aI cy q2 8, aI cy q3 60, aI cy q4 60, aI cy q5 60, aI cy q6 60, aI cy q7 60] H := hP
  have hD : va_D A [(h0, .inr (5, [.int (nI 0), .int (nI 0), .int (nI 0), .int (nI 0), .ref q1, .ref q2, .ref q3, .ref q4, .ref q5, .ref q6, .ref q7, .null, .null, .null, .null, .null, .int 0])), aI cy q1 8, aI cy q2 8, aI cy q3 60, aI cy q4 60, aI cy q5 60, aI cy q6 60, aI cy q7 60] := hD
  refine lv_aload_n hx hb dC5_80 rfl (lv_at hl 0 rfl) ?_
  refine lv_bipush (v := nI 60) hx hb dC5_81 (by decide) ?_
  refine cn_newI hx hb hq hK hP hD hS hA (Nat.le_of_ble_eq_true rfl) (Nat.le_of_ble_eq_true rfl) (Nat.le_of_ble_eq_true rfl) dC5_83 (fun q8 H hP hD hS => ?_)
  have hP : va_P D vwCl [(h0, .inr (5, [.int (nI 0), .int (nI 0), .int (nI 0), .int (nI 0), .ref q1, .ref q2, .ref q3, .ref q4, .ref q5, .ref q6, .ref q7, .null, .null, .null, .null, .null, .int 0])), aI cy q1 8, aI cy q2 8, aI cy q3 60, aI cy q4 60, aI cy q5 60, aI cy q6 60, aI cy q7 60, aI cy q8 60] H := hP
  have hD : va_D A [(h0, .inr (5, [.int (nI 0), .int (nI 0), .int (nI 0), .int (nI 0), .ref q1, .ref q2, .ref q3, .ref q4, .ref q5, .ref q6, .ref q7, .null, .null, .null, .null, .null, .int 0])), aI cy q1 8, aI cy q2 8, aI cy q3 60, aI cy q4 60, aI cy q5 60, aI cy q6 60, aI cy q7 60, aI cy q8 60] := hD
  refine W.widen (k := 8) (n := 376) (Nat.le_refl _) (Nat.le_refl _) ?_
  refine va_putF (D := D) (ci := 5) (v := .ref q8) (ty := tyX5 11) (C := RX5) (T := TX5) (N := 17) hx hb hq qlayX5 tyX5 tyX5_ok nmX5 hown hK hP hD hS 0 rfl rfl 11 (by decide) (hq _ cF5_46) (fun _ h9 => h9) rfl hin rfl (tyX5_ok 11 (by decide)) rfl rfl (Nat.le_of_ble_eq_true rfl) dC5_85 (fun H locs hP hD hS => ?_)
  have hP : va_P D vwCl [(h0, .inr (5, [.int (nI 0), .int (nI 0), .int (nI 0), .int (nI 0), .ref q1, .ref q2, .ref q3, .ref q4, .ref q5, .ref q6, .ref q7, .ref q8, .null, .null, .null, .null, .int 0])), aI cy q1 8, aI cy q2 8, aI cy q3 60, aI cy q4 60, aI cy q5 60, aI cy q6 60, aI cy q7 60, aI cy q8 60] H := hP
  have hD : va_D A [(h0, .inr (5, [.int (nI 0), .int (nI 0), .int (nI 0), .int (nI 0), .ref q1, .ref q2, .ref q3, .ref q4, .ref q5, .ref q6, .ref q7, .ref q8, .null, .null, .null, .null, .int 0])), aI cy q1 8, aI cy q2 8, aI cy q3 60, aI cy q4 60, aI cy q5 60, aI cy q6 60, aI cy q7 60, aI cy q8 60] := hD
  refine lv_aload_n hx hb dC5_88 rfl (lv_at hl 0 rfl) ?_
  refine lv_bipush (v := nI 60) hx hb dC5_89 (by decide) ?_
  refine cn_newI hx hb hq hK hP hD hS hA (Nat.le_of_ble_eq_true rfl) (Nat.le_of_ble_eq_true rfl) (Nat.le_of_ble_eq_true rfl) dC5_91 (fun q9 H hP hD hS => ?_)
  have hP : va_P D vwCl [(h0, .inr (5, [.int (nI 0), .int (nI 0), .int (nI 0), .int (nI 0), .ref q1, .ref q2, .ref q3, .ref q4, .ref q5, .ref q6, .ref q7, .ref q8, .null, .null, .null, .null, .int 0])), aI cy q1 8, aI cy q2 8, aI cy q3 60, aI cy q4 60, aI cy q5 60, aI cy q6 60, aI cy q7 60, aI cy q8 60, aI cy q9 60] H := hP
  have hD : va_D A [(h0, .inr (5, [.int (nI 0), .int (nI 0), .int (nI 0), .int (nI 0), .ref q1, .ref q2, .ref q3, .ref q4, .ref q5, .ref q6, .ref q7, .ref q8, .null, .null, .null, .null, .int 0])), aI cy q1 8, aI cy q2 8, aI cy q3 60, aI cy q4 60, aI cy q5 60, aI cy q6 60, aI cy q7 60, aI cy q8 60, aI cy q9 60] := hD
  refine W.widen (k := 9) (n := 436) (Nat.le_refl _) (Nat.le_refl _) ?_
  refine va_putF (D := D) (ci := 5) (v := .ref q9) (ty := tyX5 12) (C := RX5) (T := TX5) (N := 17) hx hb hq qlayX5 tyX5 tyX5_ok nmX5 hown hK hP hD hS 0 rfl rfl 12 (by decide) (hq _ cF5_49) (fun _ h9 => h9) rfl hin rfl (tyX5_ok 12 (by decide)) rfl rfl (Nat.le_of_ble_eq_true rfl) dC5_93 (fun H locs hP hD hS => ?_)
  have hP : va_P D vwCl [(h0, .inr (5, [.int (nI 0), .int (nI 0), .int (nI 0), .int (nI 0), .ref q1, .ref q2, .ref q3, .ref q4, .ref q5, .ref q6, .ref q7, .ref q8, .ref q9, .null, .null, .null, .int 0])), aI cy q1 8, aI cy q2 8, aI cy q3 60, aI cy q4 60, aI cy q5 60, aI cy q6 60, aI cy q7 60, aI cy q8 60, aI cy q9 60] H := hP
  have hD : va_D A [(h0, .inr (5, [.int (nI 0), .int (nI 0), .int (nI 0), .int (nI 0), .ref q1, .ref q2, .ref q3, .ref q4, .ref q5, .ref q6, .ref q7, .ref q8, .ref q9, .null, .null, .null, .int 0])), aI cy q1 8, aI cy q2 8, aI cy q3 60, aI cy q4 60, aI cy q5 60, aI cy q6 60, aI cy q7 60, aI cy q8 60, aI cy q9 60] := hD
  refine lv_aload_n hx hb dC5_96 rfl (lv_at hl 0 rfl) ?_
  refine lv_sipush (v := nI 200) hx hb dC5_97 (by decide) ?_
  refine cn_newI hx hb hq hK hP hD hS hA (Nat.le_of_ble_eq_true rfl) (Nat.le_of_ble_eq_true rfl) (Nat.le_of_ble_eq_true rfl) dC5_100 (fun q10 H hP hD hS => ?_)
  have hP : va_P D vwCl [(h0, .inr (5, [.int (nI 0), .int (nI 0), .int (nI 0), .int (nI 0), .ref q1, .ref q2, .ref q3, .ref q4, .ref q5, .ref q6, .ref q7, .ref q8, .ref q9, .null, .null, .null, .int 0])), aI cy q1 8, aI cy q2 8, aI cy q3 60, aI cy q4 60, aI cy q5 60, aI cy q6 60, aI cy q7 60, aI cy q8 60, aI cy q9 60, aI cy q10 200] H := hP
  have hD : va_D A [(h0, .inr (5, [.int (nI 0), .int (nI 0), .int (nI 0), .int (nI 0), .ref q1, .ref q2, .ref q3, .ref q4, .ref q5, .ref q6, .ref q7, .ref q8, .ref q9, .null, .null, .null, .int 0])), aI cy q1 8, aI cy q2 8, aI cy q3 60, aI cy q4 60, aI cy q5 60, aI cy q6 60, aI cy q7 60, aI cy q8 60, aI cy q9 60, aI cy q10 200] := hD
  refine W.widen (k := 10) (n := 636) (Nat.le_refl _) (Nat.le_refl _) ?_
  refine va_putF (D := D) (ci := 5) (v := .ref q10) (ty := tyX5 13) (C := RX5) (T := TX5) (N := 17) hx hb hq qlayX5 tyX5 tyX5_ok nmX5 hown hK hP hD hS 0 rfl rfl 13 (by decide) (hq _ cF5_52) (fun _ h9 => h9) rfl hin rfl (tyX5_ok 13 (by decide)) rfl rfl (Nat.le_of_ble_eq_true rfl) dC5_102 (fun H locs hP hD hS => ?_)
  have hP : va_P D vwCl [(h0, .inr (5, [.int (nI 0), .int (nI 0), .int (nI 0), .int (nI 0), .ref q1, .ref q2, .ref q3, .ref q4, .ref q5, .ref q6, .ref q7, .ref q8, .ref q9, .ref q10, .null, .null, .int 0])), aI cy q1 8, aI cy q2 8, aI cy q3 60, aI cy q4 60, aI cy q5 60, aI cy q6 60, aI cy q7 60, aI cy q8 60, aI cy q9 60, aI cy q10 200] H := hP
  have hD : va_D A [(h0, .inr (5, [.int (nI 0), .int (nI 0), .int (nI 0), .int (nI 0), .ref q1, .ref q2, .ref q3, .ref q4, .ref q5, .ref q6, .ref q7, .ref q8, .ref q9, .ref q10, .null, .null, .int 0])), aI cy q1 8, aI cy q2 8, aI cy q3 60, aI cy q4 60, aI cy q5 60, aI cy q6 60, aI cy q7 60, aI cy q8 60, aI cy q9 60, aI cy q10 200] := hD
  refine lv_aload_n hx hb dC5_105 rfl (lv_at hl 0 rfl) ?_
  refine lv_sipush (v := nI 200) hx hb dC5_106 (by decide) ?_
  refine cn_newI hx hb hq hK hP hD hS hA (Nat.le_of_ble_eq_true rfl) (Nat.le_of_ble_eq_true rfl) (Nat.le_of_ble_eq_true rfl) dC5_109 (fun q11 H hP hD hS => ?_)
  have hP : va_P D vwCl [(h0, .inr (5, [.int (nI 0), .int (nI 0), .int (nI 0), .int (nI 0), .ref q1, .ref q2, .ref q3, .ref q4, .ref q5, .ref q6, .ref q7, .ref q8, .ref q9, .ref q10, .null, .null, .int 0])), aI cy q1 8, aI cy q2 8, aI cy q3 60, aI cy q4 60, aI cy q5 60, aI cy q6 60, aI cy q7 60, aI cy q8 60, aI cy q9 60, aI cy q10 200, aI cy q11 200] H := hP
  have hD : va_D A [(h0, .inr (5, [.int (nI 0), .int (nI 0), .int (nI 0), .int (nI 0), .ref q1, .ref q2, .ref q3, .ref q4, .ref q5, .ref q6, .ref q7, .ref q8, .ref q9, .ref q10, .null, .null, .int 0])), aI cy q1 8, aI cy q2 8, aI cy q3 60, aI cy q4 60, aI cy q5 60, aI cy q6 60, aI cy q7 60, aI cy q8 60, aI cy q9 60, aI cy q10 200, aI cy q11 200] := hD
  refine W.widen (k := 11) (n := 836) (Nat.le_refl _) (Nat.le_refl _) ?_
  refine va_putF (D := D) (ci := 5) (v := .ref q11) (ty := tyX5 14) (C := RX5) (T := TX5) (N := 17) hx hb hq qlayX5 tyX5 tyX5_ok nmX5 hown hK hP hD hS 0 rfl rfl 14 (by decide) (hq _ cF5_55) (fun _ h9 => h9) rfl hin rfl (tyX5_ok 14 (by decide)) rfl rfl (Nat.le_of_ble_eq_true rfl) dC5_111 (fun H locs hP hD hS => ?_)
  have hP : va_P D vwCl [(h0, .inr (5, [.int (nI 0), .int (nI 0), .int (nI 0), .int (nI 0), .ref q1, .ref q2, .ref q3, .ref q4, .ref q5, .ref q6, .ref q7, .ref q8, .ref q9, .ref q10, .ref q11, .null, .int 0])), aI cy q1 8, aI cy q2 8, aI cy q3 60, aI cy q4 60, aI cy q5 60, aI cy q6 60, aI cy q7 60, aI cy q8 60, aI cy q9 60, aI cy q10 200, aI cy q11 200] H := hP
  have hD : va_D A [(h0, .inr (5, [.int (nI 0), .int (nI 0), .int (nI 0), .int (nI 0), .ref q1, .ref q2, .ref q3, .ref q4, .ref q5, .ref q6, .ref q7, .ref q8, .ref q9, .ref q10, .ref q11, .null, .int 0])), aI cy q1 8, aI cy q2 8, aI cy q3 60, aI cy q4 60, aI cy q5 60, aI cy q6 60, aI cy q7 60, aI cy q8 60, aI cy q9 60, aI cy q10 200, aI cy q11 200] := hD
  refine lv_aload_n hx hb dC5_114 rfl (lv_at hl 0 rfl) ?_
  refine lv_sipush (v := nI 200) hx hb dC5_115 (by decide) ?_
  refine cn_newI hx hb hq hK hP hD hS hA (Nat.le_of_ble_eq_true rfl) (Nat.le_of_ble_eq_true rfl) (Nat.le_of_ble_eq_true rfl) dC5_118 (fun q12 H hP hD hS => ?_)
  have hP : va_P D vwCl [(h0, .inr (5, [.int (nI 0), .int (nI 0), .int (nI 0), .int (nI 0), .ref q1, .ref q2, .ref q3, .ref q4, .ref q5, .ref q6, .ref q7, .ref q8, .ref q9, .ref q10, .ref q11, .null, .int 0])), aI cy q1 8, aI cy q2 8, aI cy q3 60, aI cy q4 60, aI cy q5 60, aI cy q6 60, aI cy q7 60, aI cy q8 60, aI cy q9 60, aI cy q10 200, aI cy q11 200, aI cy q12 200] H := hP
  have hD : va_D A [(h0, .inr (5, [.int (nI 0), .int (nI 0), .int (nI 0), .int (nI 0), .ref q1, .ref q2, .ref q3, .ref q4, .ref q5, .ref q6, .ref q7, .ref q8, .ref q9, .ref q10, .ref q11, .null, .int 0])), aI cy q1 8, aI cy q2 8, aI cy q3 60, aI cy q4 60, aI cy q5 60, aI cy q6 60, aI cy q7 60, aI cy q8 60, aI cy q9 60, aI cy q10 200, aI cy q11 200, aI cy q12 200] := hD
  refine W.widen (k := 12) (n := 1036) (Nat.le_refl _) (Nat.le_refl _) ?_
  refine va_putF (D := D) (ci := 5) (v := .ref q12) (ty := tyX5 15) (C := RX5) (T := TX5) (N := 17) hx hb hq qlayX5 tyX5 tyX5_ok nmX5 hown hK hP hD hS 0 rfl rfl 15 (by decide) (hq _ cF5_58) (fun _ h9 => h9) rfl hin rfl (tyX5_ok 15 (by decide)) rfl rfl (Nat.le_of_ble_eq_true rfl) dC5_120 (fun H locs hP hD hS => ?_)
  have hP : va_P D vwCl [(h0, .inr (5, [.int (nI 0), .int (nI 0), .int (nI 0), .int (nI 0), .ref q1, .ref q2, .ref q3, .ref q4, .ref q5, .ref q6, .ref q7, .ref q8, .ref q9, .ref q10, .ref q11, .ref q12, .int 0])), aI cy q1 8, aI cy q2 8, aI cy q3 60, aI cy q4 60, aI cy q5 60, aI cy q6 60, aI cy q7 60, aI cy q8 60, aI cy q9 60, aI cy q10 200, aI cy q11 200, aI cy q12 200] H := hP
  have hD : va_D A [(h0, .inr (5, [.int (nI 0), .int (nI 0), .int (nI 0), .int (nI 0), .ref q1, .ref q2, .ref q3, .ref q4, .ref q5, .ref q6, .ref q7, .ref q8, .ref q9, .ref q10, .ref q11, .ref q12, .int 0])), aI cy q1 8, aI cy q2 8, aI cy q3 60, aI cy q4 60, aI cy q5 60, aI cy q6 60, aI cy q7 60, aI cy q8 60, aI cy q9 60, aI cy q10 200, aI cy q11 200, aI cy q12 200] := hD
  refine lv_aload_n hx hb dC5_123 rfl (lv_at hl 0 rfl) ?_
  refine lv_iconst (v := nI 0) hx hb dC5_124 (by decide) ?_
  refine va_put (D := D) (ci := 5) (v := .int (nI 0)) (ty := tyX5 16) (C := RX5) (T := TX5) (N := 17) hx hb hq qlayX5 tyX5 tyX5_ok nmX5 hown hK hP hD hS 0 rfl rfl 16 (by decide) (hq _ cF5_61) (fun _ h9 => h9) rfl (tyX5_ok 16 (by decide)) rfl rfl (Nat.le_of_ble_eq_true rfl) dC5_125 (fun H locs hP hD hS => ?_)
  have hP : va_P D vwCl [(h0, .inr (5, [.int (nI 0), .int (nI 0), .int (nI 0), .int (nI 0), .ref q1, .ref q2, .ref q3, .ref q4, .ref q5, .ref q6, .ref q7, .ref q8, .ref q9, .ref q10, .ref q11, .ref q12, .int (nI 0)])), aI cy q1 8, aI cy q2 8, aI cy q3 60, aI cy q4 60, aI cy q5 60, aI cy q6 60, aI cy q7 60, aI cy q8 60, aI cy q9 60, aI cy q10 200, aI cy q11 200, aI cy q12 200] H := hP
  have hD : va_D A [(h0, .inr (5, [.int (nI 0), .int (nI 0), .int (nI 0), .int (nI 0), .ref q1, .ref q2, .ref q3, .ref q4, .ref q5, .ref q6, .ref q7, .ref q8, .ref q9, .ref q10, .ref q11, .ref q12, .int (nI 0)])), aI cy q1 8, aI cy q2 8, aI cy q3 60, aI cy q4 60, aI cy q5 60, aI cy q6 60, aI cy q7 60, aI cy q8 60, aI cy q9 60, aI cy q10 200, aI cy q11 200, aI cy q12 200] := hD
  rw [hAe] at hD hS
  exact W.vret hx hb hr (fun t ht hW => ⟨⟨_, rfl, ⟨q1, q2, q3, q4, q5, q6, q7, q8, q9, q10, q11, q12, rfl⟩, by rw [ht]; exact hP, hD⟩, hS.F ht⟩) hS.2.2 dC5_128 hlocks
