theorem cM2_3 : Jvm.Cond.methodLink RX2 3 objectInit ∈ qTB := qw1 176 rfl rfl
theorem cF2_9 : (Jvm.Cond.fieldLink "UsedUp$Meter" (9 : Nat) "UsedUp$Meter" "figures" "[J") ∈ qTB := qw1 177 rfl rfl
theorem cF2_15 : (Jvm.Cond.fieldLink "UsedUp$Meter" (15 : Nat) "UsedUp$Meter" "inside" "[J") ∈ qTB := qw1 178 rfl rfl
theorem cF2_18 : (Jvm.Cond.fieldLink "UsedUp$Meter" (18 : Nat) "UsedUp$Meter" "whole" "[J") ∈ qTB := qw1 179 rfl rfl
theorem cF2_21 : (Jvm.Cond.fieldLink "UsedUp$Meter" (21 : Nat) "UsedUp$Meter" "partBrings" "[J") ∈ qTB := qw1 180 rfl rfl
theorem cF2_24 : (Jvm.Cond.fieldLink "UsedUp$Meter" (24 : Nat) "UsedUp$Meter" "comings" "[J") ∈ qTB := qw1 181 rfl rfl
theorem cF2_27 : (Jvm.Cond.fieldLink "UsedUp$Meter" (27 : Nat) "UsedUp$Meter" "partComings" "[J") ∈ qTB := qw1 182 rfl rfl
theorem dC2_0 : decode cX2_init 0 = .ok (.aload_n 0, 1) := by decide +kernel
theorem dC2_1 : decode cX2_init 1 = .ok (.invokespecial 3, 3) := by decide +kernel
theorem dC2_4 : decode cX2_init 4 = .ok (.aload_n 0, 1) := by decide +kernel
theorem dC2_5 : decode cX2_init 5 = .ok (.bipush 60, 2) := by decide +kernel
theorem dC2_7 : decode cX2_init 7 = .ok (.newarray .long, 2) := by decide +kernel
theorem dC2_9 : decode cX2_init 9 = .ok (.putfield 9, 3) := by decide +kernel
theorem dC2_12 : decode cX2_init 12 = .ok (.aload_n 0, 1) := by decide +kernel
theorem dC2_13 : decode cX2_init 13 = .ok (.bipush 60, 2) := by decide +kernel
theorem dC2_15 : decode cX2_init 15 = .ok (.newarray .long, 2) := by decide +kernel
theorem dC2_17 : decode cX2_init 17 = .ok (.putfield 15, 3) := by decide +kernel
theorem dC2_20 : decode cX2_init 20 = .ok (.aload_n 0, 1) := by decide +kernel
theorem dC2_21 : decode cX2_init 21 = .ok (.bipush 60, 2) := by decide +kernel
theorem dC2_23 : decode cX2_init 23 = .ok (.newarray .long, 2) := by decide +kernel
theorem dC2_25 : decode cX2_init 25 = .ok (.putfield 18, 3) := by decide +kernel
theorem dC2_28 : decode cX2_init 28 = .ok (.aload_n 0, 1) := by decide +kernel
theorem dC2_29 : decode cX2_init 29 = .ok (.bipush 7, 2) := by decide +kernel
theorem dC2_31 : decode cX2_init 31 = .ok (.newarray .long, 2) := by decide +kernel
theorem dC2_33 : decode cX2_init 33 = .ok (.putfield 21, 3) := by decide +kernel
theorem dC2_36 : decode cX2_init 36 = .ok (.aload_n 0, 1) := by decide +kernel
theorem dC2_37 : decode cX2_init 37 = .ok (.bipush 60, 2) := by decide +kernel
theorem dC2_39 : decode cX2_init 39 = .ok (.newarray .long, 2) := by decide +kernel
theorem dC2_41 : decode cX2_init 41 = .ok (.putfield 24, 3) := by decide +kernel
theorem dC2_44 : decode cX2_init 44 = .ok (.aload_n 0, 1) := by decide +kernel
theorem dC2_45 : decode cX2_init 45 = .ok (.bipush 7, 2) := by decide +kernel
theorem dC2_47 : decode cX2_init 47 = .ok (.newarray .long, 2) := by decide +kernel
theorem dC2_49 : decode cX2_init 49 = .ok (.putfield 27, 3) := by decide +kernel
theorem dC2_52 : decode cX2_init 52 = .ok (.return_, 1) := by decide +kernel
set_option maxRecDepth 20000 in
set_option maxHeartbeats 4000000 in
theorem ct_X2 (l : Launch) (D : va_G) (cy : Nat → Nat) (h0 sz : Nat) : Met l yX2_init (qwc yX2_init cX2_init 1) ({ frames := 1, cells := 6, slots := 254, locals := 12 }) (cPc D cy [.ref h0] [(h0, .inr (2, [.null, .null, .null, .null, .null, .null]))] sz) (cQc D [(h0, .inr (2, [.null, .null, .null, .null, .null, .null]))] sz (fun u => ∃ q1 q2 q3 q4 q5 q6 : Nat, u = [(h0, .inr (2, [.ref q1, .ref q2, .ref q3, .ref q4, .ref q5, .ref q6])), aJ cy q1 60, aJ cy q2 60, aJ cy q3 60, aJ cy q4 7, aJ cy q5 60, aJ cy q6 7])) 6 254 (va_A [(h0, .inr (2, [.null, .null, .null, .null, .null, .null]))] sz) := by
  refine ct_intro (by decide) (Nat.le_of_ble_eq_true rfl) ?_
  intro p e s m below meth c A hsz hx hb hml hown hin hr hlocks hq hK hN hP hD hS hA hAe ls hl
  have hl : lv_has ls 1 [(0, .ref h0)] := hl
  subst hsz
  have hP : va_P D vwCl [(h0, .inr (2, [.null, .null, .null, .null, .null, .null]))] s.heap := hP
  refine lv_aload_n hx hb dC2_0 rfl (lv_at hl 0 rfl) ?_
  refine W.objInit hx hb hown (hq _ cM2_3) (hq _ cO_inst) (hq _ cO_code) rfl (by rw [hml]; exact hl.1) rfl dC2_1 (Nat.le_of_ble_eq_true rfl) (Nat.le_of_ble_eq_true rfl) ?_
  refine W.eq (g2 := F0 m 4 ls []) rfl ?_
  refine lv_aload_n hx hb dC2_4 rfl (lv_at hl 0 rfl) ?_
  refine lv_bipush (v := nI 60) hx hb dC2_5 (by decide) ?_
  refine cn_newJ hx hb hq hK hP hD hS hA (Nat.le_of_ble_eq_true rfl) (Nat.le_of_ble_eq_true rfl) (Nat.le_of_ble_eq_true rfl) dC2_7 (fun q1 H hP hD hS => ?_)
  have hP : va_P D vwCl [(h0, .inr (2, [.null, .null, .null, .null, .null, .null])), aJ cy q1 60] H := hP
  have hD : va_D A [(h0, .inr (2, [.null, .null, .null, .null, .null, .null])), aJ cy q1 60] := hD
  refine W.widen (k := 1) (n := 60) (Nat.le_refl _) (Nat.le_refl _) ?_
  refine va_putF (D := D) (ci := 2) (v := .ref q1) (ty := tyX2 0) (C := RX2) (T := TX2) (N := 6) hx hb hq qlayX2 tyX2 tyX2_ok nmX2 hown hK hP hD hS 0 rfl rfl 0 (by decide) (hq _ cF2_9) (fun _ h9 => h9) rfl hin rfl (tyX2_ok 0 (by decide)) rfl rfl (Nat.le_of_ble_eq_true rfl) dC2_9 (fun H locs hP hD hS => ?_)
  have hP : va_P D vwCl [(h0, .inr (2, [.ref q1, .null, .null, .null, .null, .null])), aJ cy q1 60] H := hP
  have hD : va_D A [(h0, .inr (2, [.ref q1, .null, .null, .null, .null, .null])), aJ cy q1 60] := hD
  refine lv_aload_n hx hb dC2_12 rfl (lv_at hl 0 rfl) ?_
  refine lv_bipush (v := nI 60) hx hb dC2_13 (by decide) ?_
  refine cn_newJ hx hb hq hK hP hD hS hA (Nat.le_of_ble_eq_true rfl) (Nat.le_of_ble_eq_true rfl) (Nat.le_of_ble_eq_true rfl) dC2_15 (fun q2 H hP hD hS => ?_)
  have hP : va_P D vwCl [(h0, .inr (2, [.ref q1, .null, .null, .null, .null, .null])), aJ cy q1 60, aJ cy q2 60] H := hP
  have hD : va_D A [(h0, .inr (2, [.ref q1, .null, .null, .null, .null, .null])), aJ cy q1 60, aJ cy q2 60] := hD
  refine W.widen (k := 2) (n := 120) (Nat.le_refl _) (Nat.le_refl _) ?_
  refine va_putF (D := D) (ci := 2) (v := .ref q2) (ty := tyX2 1) (C := RX2) (T := TX2) (N := 6) hx hb hq qlayX2 tyX2 tyX2_ok nmX2 hown hK hP hD hS 0 rfl rfl 1 (by decide) (hq _ cF2_15) (fun _ h9 => h9) rfl hin rfl (tyX2_ok 1 (by decide)) rfl rfl (Nat.le_of_ble_eq_true rfl) dC2_17 (fun H locs hP hD hS => ?_)
  have hP : va_P D vwCl [(h0, .inr (2, [.ref q1, .ref q2, .null, .null, .null, .null])), aJ cy q1 60, aJ cy q2 60] H := hP
  have hD : va_D A [(h0, .inr (2, [.ref q1, .ref q2, .null, .null, .null, .null])), aJ cy q1 60, aJ cy q2 60] := hD
  refine lv_aload_n hx hb dC2_20 rfl (lv_at hl 0 rfl) ?_
  refine lv_bipush (v := nI 60) hx hb dC2_21 (by decide) ?_
  refine cn_newJ hx hb hq hK hP hD hS hA (Nat.le_of_ble_eq_true rfl) (Nat.le_of_ble_eq_true rfl) (Nat.le_of_ble_eq_true rfl) dC2_23 (fun q3 H hP hD hS => ?_)
  have hP : va_P D vwCl [(h0, .inr (2, [.ref q1, .ref q2, .null, .null, .null, .null])), aJ cy q1 60, aJ cy q2 60, aJ cy q3 60] H := hP
  have hD : va_D A [(h0, .inr (2, [.ref q1, .ref q2, .null, .null, .null, .null])), aJ cy q1 60, aJ cy q2 60, aJ cy q3 60] := hD
  refine W.widen (k := 3) (n := 180) (Nat.le_refl _) (Nat.le_refl _) ?_
  refine va_putF (D := D) (ci := 2) (v := .ref q3) (ty := tyX2 2) (C := RX2) (T := TX2) (N := 6) hx hb hq qlayX2 tyX2 tyX2_ok nmX2 hown hK hP hD hS 0 rfl rfl 2 (by decide) (hq _ cF2_18) (fun _ h9 => h9) rfl hin rfl (tyX2_ok 2 (by decide)) rfl rfl (Nat.le_of_ble_eq_true rfl) dC2_25 (fun H locs hP hD hS => ?_)
  have hP : va_P D vwCl [(h0, .inr (2, [.ref q1, .ref q2, .ref q3, .null, .null, .null])), aJ cy q1 60, aJ cy q2 60, aJ cy q3 60] H := hP
  have hD : va_D A [(h0, .inr (2, [.ref q1, .ref q2, .ref q3, .null, .null, .null])), aJ cy q1 60, aJ cy q2 60, aJ cy q3 60] := hD
  refine lv_aload_n hx hb dC2_28 rfl (lv_at hl 0 rfl) ?_
  refine lv_bipush (v := nI 7) hx hb dC2_29 (by decide) ?_
  refine cn_newJ hx hb hq hK hP hD hS hA (Nat.le_of_ble_eq_true rfl) (Nat.le_of_ble_eq_true rfl) (Nat.le_of_ble_eq_true rfl) dC2_31 (fun q4 H hP hD hS => ?_)
  have hP : va_P D vwCl [(h0, .inr (2, [.ref q1, .ref q2, .ref q3, .null, .null, .null])), aJ cy q1 60, aJ cy q2 60, aJ cy q3 60, aJ cy q4 7] H := hP
  have hD : va_D A [(h0, .inr (2, [.ref q1, .ref q2, .ref q3, .null, .null, .null])), aJ cy q1 60, aJ cy q2 60, aJ cy q3 60, aJ cy q4 7] := hD
  refine W.widen (k := 4) (n := 187) (Nat.le_refl _) (Nat.le_refl _) ?_
  refine va_putF (D := D) (ci := 2) (v := .ref q4) (ty := tyX2 3) (C := RX2) (T := TX2) (N := 6) hx hb hq qlayX2 tyX2 tyX2_ok nmX2 hown hK hP hD hS 0 rfl rfl 3 (by decide) (hq _ cF2_21) (fun _ h9 => h9) rfl hin rfl (tyX2_ok 3 (by decide)) rfl rfl (Nat.le_of_ble_eq_true rfl) dC2_33 (fun H locs hP hD hS => ?_)
  have hP : va_P D vwCl [(h0, .inr (2, [.ref q1, .ref q2, .ref q3, .ref q4, .null, .null])), aJ cy q1 60, aJ cy q2 60, aJ cy q3 60, aJ cy q4 7] H := hP
  have hD : va_D A [(h0, .inr (2, [.ref q1, .ref q2, .ref q3, .ref q4, .null, .null])), aJ cy q1 60, aJ cy q2 60, aJ cy q3 60, aJ cy q4 7] := hD
  refine lv_aload_n hx hb dC2_36 rfl (lv_at hl 0 rfl) ?_
  refine lv_bipush (v := nI 60) hx hb dC2_37 (by decide) ?_
  refine cn_newJ hx hb hq hK hP hD hS hA (Nat.le_of_ble_eq_true rfl) (Nat.le_of_ble_eq_true rfl) (Nat.le_of_ble_eq_true rfl) dC2_39 (fun q5 H hP hD hS => ?_)
  have hP : va_P D vwCl [(h0, .inr (2, [.ref q1, .ref q2, .ref q3, .ref q4, .null, .null])), aJ cy q1 60, aJ cy q2 60, aJ cy q3 60, aJ cy q4 7, aJ cy q5 60] H := hP
  have hD : va_D A [(h0, .inr (2, [.ref q1, .ref q2, .ref q3, .ref q4, .null, .null])), aJ cy q1 60, aJ cy q2 60, aJ cy q3 60, aJ cy q4 7, aJ cy q5 60] := hD
  refine W.widen (k := 5) (n := 247) (Nat.le_refl _) (Nat.le_refl _) ?_
  refine va_putF (D := D) (ci := 2) (v := .ref q5) (ty := tyX2 4) (C := RX2) (T := TX2) (N := 6) hx hb hq qlayX2 tyX2 tyX2_ok nmX2 hown hK hP hD hS 0 rfl rfl 4 (by decide) (hq _ cF2_24) (fun _ h9 => h9) rfl hin rfl (tyX2_ok 4 (by decide)) rfl rfl (Nat.le_of_ble_eq_true rfl) dC2_41 (fun H locs hP hD hS => ?_)
  have hP : va_P D vwCl [(h0, .inr (2, [.ref q1, .ref q2, .ref q3, .ref q4, .ref q5, .null])), aJ cy q1 60, aJ cy q2 60, aJ cy q3 60, aJ cy q4 7, aJ cy q5 60] H := hP
  have hD : va_D A [(h0, .inr (2, [.ref q1, .ref q2, .ref q3, .ref q4, .ref q5, .null])), aJ cy q1 60, aJ cy q2 60, aJ cy q3 60, aJ cy q4 7, aJ cy q5 60] := hD
  refine lv_aload_n hx hb dC2_44 rfl (lv_at hl 0 rfl) ?_
  refine lv_bipush (v := nI 7) hx hb dC2_45 (by decide) ?_
  refine cn_newJ hx hb hq hK hP hD hS hA (Nat.le_of_ble_eq_true rfl) (Nat.le_of_ble_eq_true rfl) (Nat.le_of_ble_eq_true rfl) dC2_47 (fun q6 H hP hD hS => ?_)
  have hP : va_P D vwCl [(h0, .inr (2, [.ref q1, .ref q2, .ref q3, .ref q4, .ref q5, .null])), aJ cy q1 60, aJ cy q2 60, aJ cy q3 60, aJ cy q4 7, aJ cy q5 60, aJ cy q6 7] H := hP
  have hD : va_D A [(h0, .inr (2, [.ref q1, .ref q2, .ref q3, .ref q4, .ref q5, .null])), aJ cy q1 60, aJ cy q2 60, aJ cy q3 60, aJ cy q4 7, aJ cy q5 60, aJ cy q6 7] := hD
  refine W.widen (k := 6) (n := 254) (Nat.le_refl _) (Nat.le_refl _) ?_
  refine va_putF (D := D) (ci := 2) (v := .ref q6) (ty := tyX2 5) (C := RX2) (T := TX2) (N := 6) hx hb hq qlayX2 tyX2 tyX2_ok nmX2 hown hK hP hD hS 0 rfl rfl 5 (by decide) (hq _ cF2_27) (fun _ h9 => h9) rfl hin rfl (tyX2_ok 5 (by decide)) rfl rfl (Nat.le_of_ble_eq_true rfl) dC2_49 (fun H locs hP hD hS => ?_)
  have hP : va_P D vwCl [(h0, .inr (2, [.ref q1, .ref q2, .ref q3, .ref q4, .ref q5, .ref q6])), aJ cy q1 60, aJ cy q2 60, aJ cy q3 60, aJ cy q4 7, aJ cy q5 60, aJ cy q6 7] H := hP
  have hD : va_D A [(h0, .inr (2, [.ref q1, .ref q2, .ref q3, .ref q4, .ref q5, .ref q6])), aJ cy q1 60, aJ cy q2 60, aJ cy q3 60, aJ cy q4 7, aJ cy q5 60, aJ cy q6 7] := hD
  rw [hAe] at hD hS
  exact W.vret hx hb hr (fun t ht hW => ⟨⟨_, rfl, ⟨q1, q2, q3, q4, q5, q6, rfl⟩, by rw [ht]; exact hP, hD⟩, hS.F ht⟩) hS.2.2 dC2_52 hlocks
theorem cM1_3 : Jvm.Cond.methodLink RX1 3 objectInit ∈ qTB := qw1 202 rfl rfl
theorem cF1_9 : (Jvm.Cond.fieldLink "UsedUp$Locks" (9 : Nat) "UsedUp$Locks" "heldAhead" "[I") ∈ qTB := qw1 203 rfl rfl
theorem cF1_15 : (Jvm.Cond.fieldLink "UsedUp$Locks" (15 : Nat) "UsedUp$Locks" "ledBack" "I") ∈ qTB := qw1 205 rfl rfl
theorem cF1_19 : (Jvm.Cond.fieldLink "UsedUp$Locks" (19 : Nat) "UsedUp$Locks" "partLocks" "[I") ∈ qTB := qw1 207 rfl rfl
theorem cF1_22 : (Jvm.Cond.fieldLink "UsedUp$Locks" (22 : Nat) "UsedUp$Locks" "leadsTo" "[I") ∈ qTB := qw1 208 rfl rfl
theorem dC1_0 : decode cX1_init 0 = .ok (.aload_n 0, 1) := by decide +kernel
theorem dC1_1 : decode cX1_init 1 = .ok (.invokespecial 3, 3) := by decide +kernel
theorem dC1_4 : decode cX1_init 4 = .ok (.aload_n 0, 1) := by decide +kernel
theorem dC1_5 : decode cX1_init 5 = .ok (.bipush 8, 2) := by decide +kernel
theorem dC1_7 : decode cX1_init 7 = .ok (.newarray .int, 2) := by decide +kernel
theorem dC1_9 : decode cX1_init 9 = .ok (.putfield 9, 3) := by decide +kernel
theorem dC1_12 : decode cX1_init 12 = .ok (.aload_n 0, 1) := by decide +kernel
theorem dC1_13 : decode cX1_init 13 = .ok (.iconst 0, 1) := by decide +kernel
theorem dC1_14 : decode cX1_init 14 = .ok (.putfield 15, 3) := by decide +kernel
theorem dC1_17 : decode cX1_init 17 = .ok (.aload_n 0, 1) := by decide +kernel
theorem dC1_18 : decode cX1_init 18 = .ok (.bipush 7, 2) := by decide +kernel
theorem dC1_20 : decode cX1_init 20 = .ok (.newarray .int, 2) := by decide +kernel
theorem dC1_22 : decode cX1_init 22 = .ok (.putfield 19, 3) := by decide +kernel
theorem dC1_25 : decode cX1_init 25 = .ok (.aload_n 0, 1) := by decide +kernel
theorem dC1_26 : decode cX1_init 26 = .ok (.bipush 8, 2) := by decide +kernel
theorem dC1_28 : decode cX1_init 28 = .ok (.newarray .int, 2) := by decide +kernel
theorem dC1_30 : decode cX1_init 30 = .ok (.putfield 22, 3) := by decide +kernel
theorem dC1_33 : decode cX1_init 33 = .ok (.return_, 1) := by decide +kernel
set_option maxRecDepth 20000 in
set_option maxHeartbeats 4000000 in
theorem ct_X1 (l : Launch) (D : va_G) (cy : Nat → Nat) (h0 sz : Nat) : Met l yX1_init (qwc yX1_init cX1_init 1) ({ frames := 1, cells := 3, slots := 23, locals := 12 }) (cPc D cy [.ref h0] [(h0, .inr (1, [.null, .int 0, .null, .null]))] sz) (cQc D [(h0, .inr (1, [.null, .int 0, .null, .null]))] sz (fun u => ∃ q1 q2 q3 : Nat, u = [(h0, .inr (1, [.ref q1, .int (nI 0), .ref q2, .ref q3])), aI cy q1 8, aI cy q2 7, aI cy q3 8])) 3 23 (va_A [(h0, .inr (1, [.null, .int 0, .null, .null]))] sz) := by
  refine ct_intro (by decide) (Nat.le_of_ble_eq_true rfl) ?_
  intro p e s m below meth c A hsz hx hb hml hown hin hr hlocks hq hK hN hP hD hS hA hAe ls hl
  have hl : lv_has ls 1 [(0, .ref h0)] := hl
  subst hsz
  have hP : va_P D vwCl [(h0, .inr (1, [.null, .int 0, .null, .null]))] s.heap := hP
  refine lv_aload_n hx hb dC1_0 rfl (lv_at hl 0 rfl) ?_
  refine W.objInit hx hb hown (hq _ cM1_3) (hq _ cO_inst) (hq _ cO_code) rfl (by rw [hml]; exact hl.1) rfl dC1_1 (Nat.le_of_ble_eq_true rfl) (Nat.le_of_ble_eq_true rfl) ?_
  refine W.eq (g2 := F0 m 4 ls []) rfl ?_
  refine lv_aload_n hx hb dC1_4 rfl (lv_at hl 0 rfl) ?_
  refine lv_bipush (v := nI 8) hx hb dC1_5 (by decide) ?_
  refine cn_newI hx hb hq hK hP hD hS hA (Nat.le_of_ble_eq_true rfl) (Nat.le_of_ble_eq_true rfl) (Nat.le_of_ble_eq_true rfl) dC1_7 (fun q1 H hP hD hS => ?_)
  have hP : va_P D vwCl [(h0, .inr (1, [.null, .int 0, .null, .null])), aI cy q1 8] H := hP
  have hD : va_D A [(h0, .inr (1, [.null, .int 0, .null, .null])), aI cy q1 8] := hD
  refine W.widen (k := 1) (n := 8) (Nat.le_refl _) (Nat.le_refl _) ?_
  refine va_putF (D := D) (ci := 1) (v := .ref q1) (ty := tyX1 0) (C := RX1) (T := TX1) (N := 4) hx hb hq qlayX1 tyX1 tyX1_ok nmX1 hown hK hP hD hS 0 rfl rfl 0 (by decide) (hq _ cF1_9) (fun _ h9 => h9) rfl hin rfl (tyX1_ok 0 (by decide)) rfl rfl (Nat.le_of_ble_eq_true rfl) dC1_9 (fun H locs hP hD hS => ?_)
  have hP : va_P D vwCl [(h0, .inr (1, [.ref q1, .int 0, .null, .null])), aI cy q1 8] H := hP
  have hD : va_D A [(h0, .inr (1, [.ref q1, .int 0, .null, .null])), aI cy q1 8] := hD
  refine lv_aload_n hx hb dC1_12 rfl (lv_at hl 0 rfl) ?_
  refine lv_iconst (v := nI 0) hx hb dC1_13 (by decide) ?_
  refine va_put (D := D) (ci := 1) (v := .int (nI 0)) (ty := tyX1 1) (C := RX1) (T := TX1) (N := 4) hx hb hq qlayX1 tyX1 tyX1_ok nmX1 hown hK hP hD hS 0 rfl rfl 1 (by decide) (hq _ cF1_15) (fun _ h9 => h9) rfl (tyX1_ok 1 (by decide)) rfl rfl (Nat.le_of_ble_eq_true rfl) dC1_14 (fun H locs hP hD hS => ?_)
  have hP : va_P D vwCl [(h0, .inr (1, [.ref q1, .int (nI 0), .null, .null])), aI cy q1 8] H := hP
  have hD : va_D A [(h0, .inr (1, [.ref q1, .int (nI 0), .null, .null])), aI cy q1 8] := hD
  refine lv_aload_n hx hb dC1_17 rfl (lv_at hl 0 rfl) ?_
  refine lv_bipush (v := nI 7) hx hb dC1_18 (by decide) ?_
  refine cn_newI hx hb hq hK hP hD hS hA (Nat.le_of_ble_eq_true rfl) (Nat.le_of_ble_eq_true rfl) (Nat.le_of_ble_eq_true rfl) dC1_20 (fun q2 H hP hD hS => ?_)
  have hP : va_P D vwCl [(h0, .inr (1, [.ref q1, .int (nI 0), .null, .null])), aI cy q1 8, aI cy q2 7] H := hP
  have hD : va_D A [(h0, .inr (1, [.ref q1, .int (nI 0), .null, .null])), aI cy q1 8, aI cy q2 7] := hD
  refine W.widen (k := 2) (n := 15) (Nat.le_refl _) (Nat.le_refl _) ?_
  refine va_putF (D := D) (ci := 1) (v := .ref q2) (ty := tyX1 2) (C := RX1) (T := TX1) (N := 4) hx hb hq qlayX1 tyX1 tyX1_ok nmX1 hown hK hP hD hS 0 rfl rfl 2 (by decide) (hq _ cF1_19) (fun _ h9 => h9) rfl hin rfl (tyX1_ok 2 (by decide)) rfl rfl (Nat.le_of_ble_eq_true rfl) dC1_22 (fun H locs hP hD hS => ?_)
  have hP : va_P D vwCl [(h0, .inr (1, [.ref q1, .int (nI 0), .ref q2, .null])), aI cy q1 8, aI cy q2 7] H := hP
  have hD : va_D A [(h0, .inr (1, [.ref q1, .int (nI 0), .ref q2, .null])), aI cy q1 8, aI cy q2 7] := hD
  refine lv_aload_n hx hb dC1_25 rfl (lv_at hl 0 rfl) ?_
  refine lv_bipush (v := nI 8) hx hb dC1_26 (by decide) ?_
  refine cn_newI hx hb hq hK hP hD hS hA (Nat.le_of_ble_eq_true rfl) (Nat.le_of_ble_eq_true rfl) (Nat.le_of_ble_eq_true rfl) dC1_28 (fun q3 H hP hD hS => ?_)
  have hP : va_P D vwCl [(h0, .inr (1, [.ref q1, .int (nI 0), .ref q2, .null])), aI cy q1 8, aI cy q2 7, aI cy q3 8] H := hP
  have hD : va_D A [(h0, .inr (1, [.ref q1, .int (nI 0), .ref q2, .null])), aI cy q1 8, aI cy q2 7, aI cy q3 8] := hD
  refine W.widen (k := 3) (n := 23) (Nat.le_refl _) (Nat.le_refl _) ?_
  refine va_putF (D := D) (ci := 1) (v := .ref q3) (ty := tyX1 3) (C := RX1) (T := TX1) (N := 4) hx hb hq qlayX1 tyX1 tyX1_ok nmX1 hown hK hP hD hS 0 rfl rfl 3 (by decide) (hq _ cF1_22) (fun _ h9 => h9) rfl hin rfl (tyX1_ok 3 (by decide)) rfl rfl (Nat.le_of_ble_eq_true rfl) dC1_30 (fun H locs hP hD hS => ?_)
  have hP : va_P D vwCl [(h0, .inr (1, [.ref q1, .int (nI 0), .ref q2, .ref q3])), aI cy q1 8, aI cy q2 7, aI cy q3 8] H := hP
  have hD : va_D A [(h0, .inr (1, [.ref q1, .int (nI 0), .ref q2, .ref q3])), aI cy q1 8, aI cy q2 7, aI cy q3 8] := hD
  rw [hAe] at hD hS
  exact W.vret hx hb hr (fun t ht hW => ⟨⟨_, rfl, ⟨q1, q2, q3, rfl⟩, by rw [ht]; exact hP, hD⟩, hS.F ht⟩) hS.2.2 dC1_33 hlocks
theorem cM0_3 : Jvm.Cond.methodLink RX0 3 objectInit ∈ qTB := qw1 223 rfl rfl
theorem cF0_9 : (Jvm.Cond.fieldLink "UsedUp$Asks" (9 : Nat) "UsedUp$Asks" "sizes" "[I") ∈ qTB := qw1 227 rfl rfl
theorem cF0_15 : (Jvm.Cond.fieldLink "UsedUp$Asks" (15 : Nat) "UsedUp$Asks" "weights" "[I") ∈ qTB := qw1 228 rfl rfl
theorem cF0_18 : (Jvm.Cond.fieldLink "UsedUp$Asks" (18 : Nat) "UsedUp$Asks" "reach" "[I") ∈ qTB := qw1 229 rfl rfl
theorem cF0_21 : (Jvm.Cond.fieldLink "UsedUp$Asks" (21 : Nat) "UsedUp$Asks" "numbers" "[I") ∈ qTB := qw1 230 rfl rfl
theorem cM0_24 : Jvm.Cond.methodLinkNest RX0 24 yX8_fillWith "UsedUp" ∈ qnest := qn1 224 rfl rfl
theorem cT8 : (Jvm.Cond.initialized "UsedUp") ∈ qTB := qw1 1 rfl rfl
theorem cCf : Jvm.Cond.code yX8_fillWith cX8_fillWith 3 none ∈ qTB := qw1 226 rfl rfl
theorem cNf : Jvm.Cond.static yX8_fillWith ∈ qTB := qw1 225 rfl rfl
theorem dC0_0 : decode cX0_init 0 = .ok (.aload_n 0, 1) := by decide +kernel
theorem dC0_1 : decode cX0_init 1 = .ok (.invokespecial 3, 3) := by decide +kernel
theorem dC0_4 : decode cX0_init 4 = .ok (.aload_n 0, 1) := by decide +kernel
theorem dC0_5 : decode cX0_init 5 = .ok (.iconst 4, 1) := by decide +kernel
theorem dC0_6 : decode cX0_init 6 = .ok (.newarray .int, 2) := by decide +kernel
theorem dC0_8 : decode cX0_init 8 = .ok (.putfield 9, 3) := by decide +kernel
theorem dC0_11 : decode cX0_init 11 = .ok (.aload_n 0, 1) := by decide +kernel
theorem dC0_12 : decode cX0_init 12 = .ok (.iconst 4, 1) := by decide +kernel
theorem dC0_13 : decode cX0_init 13 = .ok (.newarray .int, 2) := by decide +kernel
theorem dC0_15 : decode cX0_init 15 = .ok (.putfield 15, 3) := by decide +kernel
theorem dC0_18 : decode cX0_init 18 = .ok (.aload_n 0, 1) := by decide +kernel
theorem dC0_19 : decode cX0_init 19 = .ok (.iconst 4, 1) := by decide +kernel
theorem dC0_20 : decode cX0_init 20 = .ok (.newarray .int, 2) := by decide +kernel
theorem dC0_22 : decode cX0_init 22 = .ok (.putfield 18, 3) := by decide +kernel
theorem dC0_25 : decode cX0_init 25 = .ok (.aload_n 0, 1) := by decide +kernel
theorem dC0_26 : decode cX0_init 26 = .ok (.iconst 4, 1) := by decide +kernel
theorem dC0_27 : decode cX0_init 27 = .ok (.newarray .int, 2) := by decide +kernel
theorem dC0_29 : decode cX0_init 29 = .ok (.putfield 21, 3) := by decide +kernel
theorem dC0_32 : decode cX0_init 32 = .ok (.aload_n 0, 1) := by decide +kernel
theorem dC0_33 : decode cX0_init 33 = .ok (.getfield 9, 3) := by decide +kernel
theorem dC0_36 : decode cX0_init 36 = .ok (.iconst 5, 1) := by decide +kernel
theorem dC0_37 : decode cX0_init 37 = .ok (.invokestatic 24, 3) := by decide +kernel
theorem dC0_40 : decode cX0_init 40 = .ok (.aload_n 0, 1) := by decide +kernel
theorem dC0_41 : decode cX0_init 41 = .ok (.getfield 15, 3) := by decide +kernel
theorem dC0_44 : decode cX0_init 44 = .ok (.iconst 1, 1) := by decide +kernel
theorem dC0_45 : decode cX0_init 45 = .ok (.invokestatic 24, 3) := by decide +kernel
theorem dC0_48 : decode cX0_init 48 = .ok (.return_, 1) := by decide +kernel
set_option maxRecDepth 20000 in
set_option maxHeartbeats 4000000 in
theorem ct_X0 (l : Launch) (D : va_G) (cy : Nat → Nat) (h0 sz : Nat) : Met l yX0_init (qwc yX0_init cX0_init 1) ({ frames := 1, cells := 4, slots := 16, locals := 22 }) (cPc D cy [.ref h0] [(h0, .inr (0, [.null, .null, .null, .null]))] sz) (cQc D [(h0, .inr (0, [.null, .null, .null, .null]))] sz (fun u => ∃ q1 q2 q3 q4 : Nat, u = [(h0, .inr (0, [.ref q1, .ref q2, .ref q3, .ref q4])), aI cy q3 4, aI cy q4 4, aV cy q1 4 (nI 5), aV cy q2 4 (nI 1)])) 4 16 (va_A [(h0, .inr (0, [.null, .null, .null, .null]))] sz) := by
  refine ct_intro (by decide) (Nat.le_of_ble_eq_true rfl) ?_
  intro p e s m below meth c A hsz hx hb hml hown hin hr hlocks hq hK hN hP hD hS hA hAe ls hl
  have hl : lv_has ls 1 [(0, .ref h0)] := hl
  subst hsz
  have hP : va_P D vwCl [(h0, .inr (0, [.null, .null, .null, .null]))] s.heap := hP
  refine lv_aload_n hx hb dC0_0 rfl (lv_at hl 0 rfl) ?_
  refine W.objInit hx hb hown (hq _ cM0_3) (hq _ cO_inst) (hq _ cO_code) rfl (by rw [hml]; exact hl.1) rfl dC0_1 (Nat.le_of_ble_eq_true rfl) (Nat.le_of_ble_eq_true rfl) ?_
  refine W.eq (g2 := F0 m 4 ls []) rfl ?_
  refine lv_aload_n hx hb dC0_4 rfl (lv_at hl 0 rfl) ?_
  refine lv_iconst (v := nI 4) hx hb dC0_5 (by decide) ?_
  refine cn_newI hx hb hq hK hP hD hS hA (Nat.le_of_ble_eq_true rfl) (Nat.le_of_ble_eq_true rfl) (Nat.le_of_ble_eq_true rfl) dC0_6 (fun q1 H hP hD hS => ?_)
  have hP : va_P D vwCl [(h0, .inr (0, [.null, .null, .null, .null])), aI cy q1 4] H := hP
  have hD : va_D A [(h0, .inr (0, [.null, .null, .null, .null])), aI cy q1 4] := hD
  refine W.widen (k := 1) (n := 4) (Nat.le_refl _) (Nat.le_refl _) ?_
  refine va_putF (D := D) (ci := 0) (v := .ref q1) (ty := tyX0 0) (C := RX0) (T := TX0) (N := 4) hx hb hq qlayX0 tyX0 tyX0_ok nmX0 hown hK hP hD hS 0 rfl rfl 0 (by decide) (hq _ cF0_9) (fun _ h9 => h9) rfl hin rfl (tyX0_ok 0 (by decide)) rfl rfl (Nat.le_of_ble_eq_true rfl) dC0_8 (fun H locs hP hD hS => ?_)
  have hP : va_P D vwCl [(h0, .inr (0, [.ref q1, .null, .null, .null])), aI cy q1 4] H := hP
  have hD : va_D A [(h0, .inr (0, [.ref q1, .null, .null, .null])), aI cy q1 4] := hD
  refine lv_aload_n hx hb dC0_11 rfl (lv_at hl 0 rfl) ?_
  refine lv_iconst (v := nI 4) hx hb dC0_12 (by decide) ?_
  refine cn_newI hx hb hq hK hP hD hS hA (Nat.le_of_ble_eq_true rfl) (Nat.le_of_ble_eq_true rfl) (Nat.le_of_ble_eq_true rfl) dC0_13 (fun q2 H hP hD hS => ?_)
  have hP : va_P D vwCl [(h0, .inr (0, [.ref q1, .null, .null, .null])), aI cy q1 4, aI cy q2 4] H := hP
  have hD : va_D A [(h0, .inr (0, [.ref q1, .null, .null, .null])), aI cy q1 4, aI cy q2 4] := hD
  refine W.widen (k := 2) (n := 8) (Nat.le_refl _) (Nat.le_refl _) ?_
  refine va_putF (D := D) (ci := 0) (v := .ref q2) (ty := tyX0 1) (C := RX0) (T := TX0) (N := 4) hx hb hq qlayX0 tyX0 tyX0_ok nmX0 hown hK hP hD hS 0 rfl rfl 1 (by decide) (hq _ cF0_15) (fun _ h9 => h9) rfl hin rfl (tyX0_ok 1 (by decide)) rfl rfl (Nat.le_of_ble_eq_true rfl) dC0_15 (fun H locs hP hD hS => ?_)
  have hP : va_P D vwCl [(h0, .inr (0, [.ref q1, .ref q2, .null, .null])), aI cy q1 4, aI cy q2 4] H := hP
  have hD : va_D A [(h0, .inr (0, [.ref q1, .ref q2, .null, .null])), aI cy q1 4, aI cy q2 4] := hD
  refine lv_aload_n hx hb dC0_18 rfl (lv_at hl 0 rfl) ?_
  refine lv_iconst (v := nI 4) hx hb dC0_19 (by decide) ?_
  refine cn_newI hx hb hq hK hP hD hS hA (Nat.le_of_ble_eq_true rfl) (Nat.le_of_ble_eq_true rfl) (Nat.le_of_ble_eq_true rfl) dC0_20 (fun q3 H hP hD hS => ?_)
  have hP : va_P D vwCl [(h0, .inr (0, [.ref q1, .ref q2, .null, .null])), aI cy q1 4, aI cy q2 4, aI cy q3 4] H := hP
  have hD : va_D A [(h0, .inr (0, [.ref q1, .ref q2, .null, .null])), aI cy q1 4, aI cy q2 4, aI cy q3 4] := hD
  refine W.widen (k := 3) (n := 12) (Nat.le_refl _) (Nat.le_refl _) ?_
  refine va_putF (D := D) (ci := 0) (v := .ref q3) (ty := tyX0 2) (C := RX0) (T := TX0) (N := 4) hx hb hq qlayX0 tyX0 tyX0_ok nmX0 hown hK hP hD hS 0 rfl rfl 2 (by decide) (hq _ cF0_18) (fun _ h9 => h9) rfl hin rfl (tyX0_ok 2 (by decide)) rfl rfl (Nat.le_of_ble_eq_true rfl) dC0_22 (fun H locs hP hD hS => ?_)
  have hP : va_P D vwCl [(h0, .inr (0, [.ref q1, .ref q2, .ref q3, .null])), aI cy q1 4, aI cy q2 4, aI cy q3 4] H := hP
  have hD : va_D A [(h0, .inr (0, [.ref q1, .ref q2, .ref q3, .null])), aI cy q1 4, aI cy q2 4, aI cy q3 4] := hD
  refine lv_aload_n hx hb dC0_25 rfl (lv_at hl 0 rfl) ?_
  refine lv_iconst (v := nI 4) hx hb dC0_26 (by decide) ?_
  refine cn_newI hx hb hq hK hP hD hS hA (Nat.le_of_ble_eq_true rfl) (Nat.le_of_ble_eq_true rfl) (Nat.le_of_ble_eq_true rfl) dC0_27 (fun q4 H hP hD hS => ?_)
  have hP : va_P D vwCl [(h0, .inr (0, [.ref q1, .ref q2, .ref q3, .null])), aI cy q1 4, aI cy q2 4, aI cy q3 4, aI cy q4 4] H := hP
  have hD : va_D A [(h0, .inr (0, [.ref q1, .ref q2, .ref q3, .null])), aI cy q1 4, aI cy q2 4, aI cy q3 4, aI cy q4 4] := hD
  refine W.widen (k := 4) (n := 16) (Nat.le_refl _) (Nat.le_refl _) ?_
  refine va_putF (D := D) (ci := 0) (v := .ref q4) (ty := tyX0 3) (C := RX0) (T := TX0) (N := 4) hx hb hq qlayX0 tyX0 tyX0_ok nmX0 hown hK hP hD hS 0 rfl rfl 3 (by decide) (hq _ cF0_21) (fun _ h9 => h9) rfl hin rfl (tyX0_ok 3 (by decide)) rfl rfl (Nat.le_of_ble_eq_true rfl) dC0_29 (fun H locs hP hD hS => ?_)
  have hP : va_P D vwCl [(h0, .inr (0, [.ref q1, .ref q2, .ref q3, .ref q4])), aI cy q1 4, aI cy q2 4, aI cy q3 4, aI cy q4 4] H := hP
  have hD : va_D A [(h0, .inr (0, [.ref q1, .ref q2, .ref q3, .ref q4])), aI cy q1 4, aI cy q2 4, aI cy q3 4, aI cy q4 4] := hD
  refine lv_aload_n hx hb dC0_32 rfl (lv_at hl 0 rfl) ?_
  refine va_get (D := D) (ci := 0) (v := .ref q1) (C := RX0) (T := TX0) (N := 4) hx hb hq qlayX0 hown hK hP 0 rfl rfl 0 (by decide) (hq _ cF0_9) (fun _ h9 => h9) rfl dC0_33 ?_
  refine lv_iconst (v := nI 5) hx hb dC0_36 (by decide) ?_
  have hPc := hP.sub (ws' := [aI cy q1 4]) [1] rfl
  have hDc := hD.sub (ws' := [aI cy q1 4]) [1] (by decide) rfl
  refine cn_go (wr := [(h0, .inr (0, [.ref q1, .ref q2, .ref q3, .ref q4])), aI cy q2 4, aI cy q3 4, aI cy q4 4]) (va_runSN (As := [.ref q1, .int (nI 5)]) (rest := []) ⟨hx, hb, hml, hown, hq⟩ (ct_fill l D cy q1 4 H.size (nI 5) _ (Nat.le_of_ble_eq_true rfl)) ⟨va_cnB 2 hq (qTB_goodc (fun _ h => h) cCf) rfl rfl rfl (hN _ cM0_24) (hq _ cT8) (by decide +kernel) ⟨Nat.le_of_ble_eq_true rfl, Nat.le_of_ble_eq_true rfl⟩, hq _ cNf, trivial⟩ ⟨cPc_blind, fun U hU hW => ⟨rfl, by rw [hU], by rw [hU]; exact hPc, va_K.moved hW.alike hK, hDc.weaken (fun _ _ _ _ => trivial), va_Nw_warm hW hN⟩⟩ rfl rfl hl.1 rfl (lv_room (Nat.le_of_ble_eq_true rfl)) dC0_37 ⟨show 4 + 0 ≤ 4 by omega, show 16 + 0 ≤ 16 by omega⟩) hP hD hS hA [1] [0, 2, 3, 4] rfl rfl (by decide +kernel) (by decide +kernel) (fun u H locs hB hP hD hS => ?_)
  subst hB
  have hP : va_P D vwCl [(h0, .inr (0, [.ref q1, .ref q2, .ref q3, .ref q4])), aI cy q2 4, aI cy q3 4, aI cy q4 4, aV cy q1 4 (nI 5)] H := hP
  have hD : va_D A [(h0, .inr (0, [.ref q1, .ref q2, .ref q3, .ref q4])), aI cy q2 4, aI cy q3 4, aI cy q4 4, aV cy q1 4 (nI 5)] := hD
  refine W.widen (k := 4) (n := 16) (by omega) (by omega) ?_
  refine lv_aload_n hx hb dC0_40 rfl (lv_at hl 0 rfl) ?_
  refine va_get (D := D) (ci := 0) (v := .ref q2) (C := RX0) (T := TX0) (N := 4) hx hb hq qlayX0 hown hK hP 0 rfl rfl 1 (by decide) (hq _ cF0_15) (fun _ h9 => h9) rfl dC0_41 ?_
  refine lv_iconst (v := nI 1) hx hb dC0_44 (by decide) ?_
  have hPc := hP.sub (ws' := [aI cy q2 4]) [1] rfl
  have hDc := hD.sub (ws' := [aI cy q2 4]) [1] (by decide) rfl
  refine cn_go (wr := [(h0, .inr (0, [.ref q1, .ref q2, .ref q3, .ref q4])), aI cy q3 4, aI cy q4 4, aV cy q1 4 (nI 5)]) (va_runSN (As := [.ref q2, .int (nI 1)]) (rest := []) ⟨hx, hb, hml, hown, hq⟩ (ct_fill l D cy q2 4 H.size (nI 1) _ (Nat.le_of_ble_eq_true rfl)) ⟨va_cnB 2 hq (qTB_goodc (fun _ h => h) cCf) rfl rfl rfl (hN _ cM0_24) (hq _ cT8) (by decide +kernel) ⟨Nat.le_of_ble_eq_true rfl, Nat.le_of_ble_eq_true rfl⟩, hq _ cNf, trivial⟩ ⟨cPc_blind, fun U hU hW => ⟨rfl, by rw [hU], by rw [hU]; exact hPc, va_K.moved hW.alike hK, hDc.weaken (fun _ _ _ _ => trivial), va_Nw_warm hW hN⟩⟩ rfl rfl hl.1 rfl (lv_room (Nat.le_of_ble_eq_true rfl)) dC0_45 ⟨show 4 + 0 ≤ 4 by omega, show 16 + 0 ≤ 16 by omega⟩) hP hD hS hA [1] [0, 2, 3, 4] rfl rfl (by decide +kernel) (by decide +kernel) (fun u H locs hB hP hD hS => ?_)
  subst hB
  have hP : va_P D vwCl [(h0, .inr (0, [.ref q1, .ref q2, .ref q3, .ref q4])), aI cy q3 4, aI cy q4 4, aV cy q1 4 (nI 5), aV cy q2 4 (nI 1)] H := hP
  have hD : va_D A [(h0, .inr (0, [.ref q1, .ref q2, .ref q3, .ref q4])), aI cy q3 4, aI cy q4 4, aV cy q1 4 (nI 5), aV cy q2 4 (nI 1)] := hD
  refine W.widen (k := 4) (n := 16) (by omega) (by omega) ?_
  rw [hAe] at hD hS
  exact W.vret hx hb hr (fun t ht hW => ⟨⟨_, rfl, ⟨q1, q2, q3, q4, rfl⟩, by rw [ht]; exact hP, hD⟩, hS.F ht⟩) hS.2.2 dC0_48 hlocks
theorem cM4_3 : Jvm.Cond.methodLink RX4 3 objectInit ∈ qTB := qw1 128 rfl rfl
theorem cF4_9 : (Jvm.Cond.fieldLink "UsedUp$Reader" (9 : Nat) "UsedUp$Reader" "openSteps" "[I") ∈ qTB := qw1 148 rfl rfl
theorem cF4_15 : (Jvm.Cond.fieldLink "UsedUp$Reader" (15 : Nat) "UsedUp$Reader" "openBlocks" "[I") ∈ qTB := qw1 149 rfl rfl
theorem cF4_18 : (Jvm.Cond.fieldLink "UsedUp$Reader" (18 : Nat) "UsedUp$Reader" "open" "I") ∈ qTB := qw1 150 rfl rfl
theorem cF4_22 : (Jvm.Cond.fieldLink "UsedUp$Reader" (22 : Nat) "UsedUp$Reader" "bare" "Z") ∈ qTB := qw1 151 rfl rfl
theorem cF4_26 : (Jvm.Cond.fieldLink "UsedUp$Reader" (26 : Nat) "UsedUp$Reader" "defParts" "[I") ∈ qTB := qw1 152 rfl rfl
theorem cF4_29 : (Jvm.Cond.fieldLink "UsedUp$Reader" (29 : Nat) "UsedUp$Reader" "letter" "I") ∈ qTB := qw1 153 rfl rfl
theorem cK4_32 : (Jvm.Cond.classLink "UsedUp$Reader" (32 : Nat) "UsedUp$Tokens") ∈ qTB := qw1 129 rfl rfl
theorem cI7 : (Jvm.Cond.instantiable "UsedUp$Tokens" (3 : Nat)) ∈ qTB := qw1 130 rfl rfl
theorem cT7 : (Jvm.Cond.initialized "UsedUp$Tokens") ∈ qTB := qw1 5 rfl rfl
theorem cM4_34 : Jvm.Cond.methodLink RX4 34 yX7_init ∈ qTB := qw1 131 rfl rfl
theorem cC7 : Jvm.Cond.code yX7_init cX7_init 2 none ∈ qTB := qw1 133 rfl rfl
theorem cN7 : Jvm.Cond.instanceMethod yX7_init ∈ qTB := qw1 132 rfl rfl
theorem cF4_37 : (Jvm.Cond.fieldLink "UsedUp$Reader" (37 : Nat) "UsedUp$Reader" "tokens" "LUsedUp$Tokens;") ∈ qTB := qw1 146 rfl rfl
theorem cF4_41 : (Jvm.Cond.fieldLink "UsedUp$Reader" (41 : Nat) "UsedUp$Reader" "into" "LUsedUp$Script;") ∈ qTB := qw1 147 rfl rfl
theorem dC4_0 : decode cX4_init 0 = .ok (.aload_n 0, 1) := by decide +kernel
theorem dC4_1 : decode cX4_init 1 = .ok (.invokespecial 3, 3) := by decide +kernel
theorem dC4_4 : decode cX4_init 4 = .ok (.aload_n 0, 1) := by decide +kernel
theorem dC4_5 : decode cX4_init 5 = .ok (.bipush 8, 2) := by decide +kernel
theorem dC4_7 : decode cX4_init 7 = .ok (.newarray .int, 2) := by decide +kernel
theorem dC4_9 : decode cX4_init 9 = .ok (.putfield 9, 3) := by decide +kernel
theorem dC4_12 : decode cX4_init 12 = .ok (.aload_n 0, 1) := by decide +kernel
theorem dC4_13 : decode cX4_init 13 = .ok (.bipush 8, 2) := by decide +kernel
theorem dC4_15 : decode cX4_init 15 = .ok (.newarray .int, 2) := by decide +kernel
theorem dC4_17 : decode cX4_init 17 = .ok (.putfield 15, 3) := by decide +kernel
theorem dC4_20 : decode cX4_init 20 = .ok (.aload_n 0, 1) := by decide +kernel
theorem dC4_21 : decode cX4_init 21 = .ok (.iconst 0, 1) := by decide +kernel
theorem dC4_22 : decode cX4_init 22 = .ok (.putfield 18, 3) := by decide +kernel
theorem dC4_25 : decode cX4_init 25 = .ok (.aload_n 0, 1) := by decide +kernel
theorem dC4_26 : decode cX4_init 26 = .ok (.iconst 1, 1) := by decide +kernel
theorem dC4_27 : decode cX4_init 27 = .ok (.putfield 22, 3) := by decide +kernel
theorem dC4_30 : decode cX4_init 30 = .ok (.aload_n 0, 1) := by decide +kernel
theorem dC4_31 : decode cX4_init 31 = .ok (.bipush 6, 2) := by decide +kernel
theorem dC4_33 : decode cX4_init 33 = .ok (.newarray .int, 2) := by decide +kernel
theorem dC4_35 : decode cX4_init 35 = .ok (.putfield 26, 3) := by decide +kernel
theorem dC4_38 : decode cX4_init 38 = .ok (.aload_n 0, 1) := by decide +kernel
theorem dC4_39 : decode cX4_init 39 = .ok (.iconst (-1), 1) := by decide +kernel
theorem dC4_40 : decode cX4_init 40 = .ok (.putfield 29, 3) := by decide +kernel
theorem dC4_43 : decode cX4_init 43 = .ok (.aload_n 0, 1) := by decide +kernel
theorem dC4_44 : decode cX4_init 44 = .ok (.new 32, 3) := by decide +kernel
theorem dC4_47 : decode cX4_init 47 = .ok (.dup, 1) := by decide +kernel
theorem dC4_48 : decode cX4_init 48 = .ok (.aload_n 1, 1) := by decide +kernel
theorem dC4_49 : decode cX4_init 49 = .ok (.invokespecial 34, 3) := by decide +kernel
theorem dC4_52 : decode cX4_init 52 = .ok (.putfield 37, 3) := by decide +kernel
theorem dC4_55 : decode cX4_init 55 = .ok (.aload_n 0, 1) := by decide +kernel
theorem dC4_56 : decode cX4_init 56 = .ok (.aload_n 2, 1) := by decide +kernel
theorem dC4_57 : decode cX4_init 57 = .ok (.putfield 41, 3) := by decide +kernel
theorem dC4_60 : decode cX4_init 60 = .ok (.return_, 1) := by decide +kernel
set_option maxRecDepth 20000 in
set_option maxHeartbeats 4000000 in
theorem ct_X4 (l : Launch) (D : va_G) (cy : Nat → Nat) (h0 h1 h2 sz : Nat) : Met l yX4_init (qwc yX4_init cX4_init 3) ({ frames := 2, cells := 4, slots := 25, locals := 33 }) (cPc D cy [.ref h0, .ref h1, .ref h2] [(h0, .inr (4, [.null, .null, .null, .null, .int 0, .int 0, .null, .int 0]))] sz) (cQc D [(h0, .inr (4, [.null, .null, .null, .null, .int 0, .int 0, .null, .int 0]))] sz (fun u => ∃ q1 q2 q3 q4 : Nat, u = [(h0, .inr (4, [.ref q4, .ref h2, .ref q1, .ref q2, .int (nI 0), .int (nI 1), .ref q3, .int (-1)])), aI cy q1 8, aI cy q2 8, aI cy q3 6, (q4, .inr (7, [.ref h1, .int (nI 0), .int (nI 0)]))])) 4 25 (va_A [(h0, .inr (4, [.null, .null, .null, .null, .int 0, .int 0, .null, .int 0]))] sz) := by
  refine ct_intro (by decide) (Nat.le_of_ble_eq_true rfl) ?_
  intro p e s m below meth c A hsz hx hb hml hown hin hr hlocks hq hK hN hP hD hS hA hAe ls hl
  have hl : lv_has ls 3 [(0, .ref h0), (1, .ref h1), (2, .ref h2)] := hl
  subst hsz
  have hP : va_P D vwCl [(h0, .inr (4, [.null, .null, .null, .null, .int 0, .int 0, .null, .int 0]))] s.heap := hP
  refine lv_aload_n hx hb dC4_0 rfl (lv_at hl 0 rfl) ?_
  refine W.objInit hx hb hown (hq _ cM4_3) (hq _ cO_inst) (hq _ cO_code) rfl (by rw [hml]; exact hl.1) rfl dC4_1 (Nat.le_of_ble_eq_true rfl) (Nat.le_of_ble_eq_true rfl) ?_
  refine W.eq (g2 := F0 m 4 ls []) rfl ?_
  refine lv_aload_n hx hb dC4_4 rfl (lv_at hl 0 rfl) ?_
  refine lv_bipush (v := nI 8) hx hb dC4_5 (by decide) ?_
  refine cn_newI hx hb hq hK hP hD hS hA (Nat.le_of_ble_eq_true rfl) (Nat.le_of_ble_eq_true rfl) (Nat.le_of_ble_eq_true rfl) dC4_7 (fun q1 H hP hD hS => ?_)
  have hP : va_P D vwCl [(h0, .inr (4, [.null, .null, .null, .null, .int 0, .int 0, .null, .int 0])), aI cy q1 8] H := hP
  have hD : va_D A [(h0, .inr (4, [.null, .null, .null, .null, .int 0, .int 0, .null, .int 0])), aI cy q1 8] := hD
  refine W.widen (k := 1) (n := 8) (Nat.le_refl _) (Nat.le_refl _) ?_
  refine va_putF (D := D) (ci := 4) (v := .ref q1) (ty := tyX4 2) (C := RX4) (T := TX4) (N := 8) hx hb hq qlayX4 tyX4 tyX4_ok nmX4 hown hK hP hD hS 0 rfl rfl 2 (by decide) (hq _ cF4_9) (fun _ h9 => h9) rfl hin rfl (tyX4_ok 2 (by decide)) rfl rfl (Nat.le_of_ble_eq_true rfl) dC4_9 (fun H locs hP hD hS => ?_)
  have hP : va_P D vwCl [(h0, .inr (4, [.null, .null, .ref q1, .null, .int 0, .int 0, .null, .int 0])), aI cy q1 8] H := hP
  have hD : va_D A [(h0, .inr (4, [.null, .null, .ref q1, .null, .int 0, .int 0, .null, .int 0])), aI cy q1 8] := hD
  refine lv_aload_n hx hb dC4_12 rfl (lv_at hl 0 rfl) ?_
  refine lv_bipush (v := nI 8) hx hb dC4_13 (by decide) ?_
  refine cn_newI hx hb hq hK hP hD hS hA (Nat.le_of_ble_eq_true rfl) (Nat.le_of_ble_eq_true rfl) (Nat.le_of_ble_eq_true rfl) dC4_15 (fun q2 H hP hD hS => ?_)
  have hP : va_P D vwCl [(h0, .inr (4, [.null, .null, .ref q1, .null, .int 0, .int 0, .null, .int 0])), aI cy q1 8, aI cy q2 8] H := hP
  have hD : va_D A [(h0, .inr (4, [.null, .null, .ref q1, .null, .int 0, .int 0, .null, .int 0])), aI cy q1 8, aI cy q2 8] := hD
  refine W.widen (k := 2) (n := 16) (Nat.le_refl _) (Nat.le_refl _) ?_
  refine va_putF (D := D) (ci := 4) (v := .ref q2) (ty := tyX4 3) (C := RX4) (T := TX4) (N := 8) hx hb hq qlayX4 tyX4 tyX4_ok nmX4 hown hK hP hD hS 0 rfl rfl 3 (by decide) (hq _ cF4_15) (fun _ h9 => h9) rfl hin rfl (tyX4_ok 3 (by decide)) rfl rfl (Nat.le_of_ble_eq_true rfl) dC4_17 (fun H locs hP hD hS => ?_)
  have hP : va_P D vwCl [(h0, .inr (4, [.null, .null, .ref q1, .ref q2, .int 0, .int 0, .null, .int 0])), aI cy q1 8, aI cy q2 8] H := hP
  have hD : va_D A [(h0, .inr (4, [.null, .null, .ref q1, .ref q2, .int 0, .int 0, .null, .int 0])), aI cy q1 8, aI cy q2 8] := hD
  refine lv_aload_n hx hb dC4_20 rfl (lv_at hl 0 rfl) ?_
  refine lv_iconst (v := nI 0) hx hb dC4_21 (by decide) ?_
  refine va_put (D := D) (ci := 4) (v := .int (nI 0)) (ty := tyX4 4) (C := RX4) (T := TX4) (N := 8) hx hb hq qlayX4 tyX4 tyX4_ok nmX4 hown hK hP hD hS 0 rfl rfl 4 (by decide) (hq _ cF4_18) (fun _ h9 => h9) rfl (tyX4_ok 4 (by decide)) rfl rfl (Nat.le_of_ble_eq_true rfl) dC4_22 (fun H locs hP hD hS => ?_)
  have hP : va_P D vwCl [(h0, .inr (4, [.null, .null, .ref q1, .ref q2, .int (nI 0), .int 0, .null, .int 0])), aI cy q1 8, aI cy q2 8] H := hP
  have hD : va_D A [(h0, .inr (4, [.null, .null, .ref q1, .ref q2, .int (nI 0), .int 0, .null, .int 0])), aI cy q1 8, aI cy q2 8] := hD
  refine lv_aload_n hx hb dC4_25 rfl (lv_at hl 0 rfl) ?_
  refine lv_iconst (v := nI 1) hx hb dC4_26 (by decide) ?_
  refine va_put (D := D) (ci := 4) (v := .int (nI 1)) (ty := tyX4 5) (C := RX4) (T := TX4) (N := 8) hx hb hq qlayX4 tyX4 tyX4_ok nmX4 hown hK hP hD hS 0 rfl rfl 5 (by decide) (hq _ cF4_22) (fun _ h9 => h9) rfl (tyX4_ok 5 (by decide)) rfl rfl (Nat.le_of_ble_eq_true rfl) dC4_27 (fun H locs hP hD hS => ?_)
  have hP : va_P D vwCl [(h0, .inr (4, [.null, .null, .ref q1, .ref q2, .int (nI 0), .int (nI 1), .null, .int 0])), aI cy q1 8, aI cy q2 8] H := hP
  have hD : va_D A [(h0, .inr (4, [.null, .null, .ref q1, .ref q2, .int (nI 0), .int (nI 1), .null, .int 0])), aI cy q1 8, aI cy q2 8] := hD
  refine lv_aload_n hx hb dC4_30 rfl (lv_at hl 0 rfl) ?_
  refine lv_bipush (v := nI 6) hx hb dC4_31 (by decide) ?_
  refine cn_newI hx hb hq hK hP hD hS hA (Nat.le_of_ble_eq_true rfl) (Nat.le_of_ble_eq_true rfl) (Nat.le_of_ble_eq_true rfl) dC4_33 (fun q3 H hP hD hS => ?_)
  have hP : va_P D vwCl [(h0, .inr (4, [.null, .null, .ref q1, .ref q2, .int (nI 0), .int (nI 1), .null, .int 0])), aI cy q1 8, aI cy q2 8, aI cy q3 6] H := hP
  have hD : va_D A [(h0, .inr (4, [.null, .null, .ref q1, .ref q2, .int (nI 0), .int (nI 1), .null, .int 0])), aI cy q1 8, aI cy q2 8, aI cy q3 6] := hD
  refine W.widen (k := 3) (n := 22) (Nat.le_refl _) (Nat.le_refl _) ?_
  refine va_putF (D := D) (ci := 4) (v := .ref q3) (ty := tyX4 6) (C := RX4) (T := TX4) (N := 8) hx hb hq qlayX4 tyX4 tyX4_ok nmX4 hown hK hP hD hS 0 rfl rfl 6 (by decide) (hq _ cF4_26) (fun _ h9 => h9) rfl hin rfl (tyX4_ok 6 (by decide)) rfl rfl (Nat.le_of_ble_eq_true rfl) dC4_35 (fun H locs hP hD hS => ?_)
  have hP : va_P D vwCl [(h0, .inr (4, [.null, .null, .ref q1, .ref q2, .int (nI 0), .int (nI 1), .ref q3, .int 0])), aI cy q1 8, aI cy q2 8, aI cy q3 6] H := hP
  have hD : va_D A [(h0, .inr (4, [.null, .null, .ref q1, .ref q2, .int (nI 0), .int (nI 1), .ref q3, .int 0])), aI cy q1 8, aI cy q2 8, aI cy q3 6] := hD
  refine lv_aload_n hx hb dC4_38 rfl (lv_at hl 0 rfl) ?_
  refine lv_iconst (v := -1) hx hb dC4_39 (by decide) ?_
  refine va_put (D := D) (ci := 4) (v := .int (-1)) (ty := tyX4 7) (C := RX4) (T := TX4) (N := 8) hx hb hq qlayX4 tyX4 tyX4_ok nmX4 hown hK hP hD hS 0 rfl rfl 7 (by decide) (hq _ cF4_29) (fun _ h9 => h9) rfl (tyX4_ok 7 (by decide)) rfl rfl (Nat.le_of_ble_eq_true rfl) dC4_40 (fun H locs hP hD hS => ?_)
  have hP : va_P D vwCl [(h0, .inr (4, [.null, .null, .ref q1, .ref q2, .int (nI 0), .int (nI 1), .ref q3, .int (-1)])), aI cy q1 8, aI cy q2 8, aI cy q3 6] H := hP
  have hD : va_D A [(h0, .inr (4, [.null, .null, .ref q1, .ref q2, .int (nI 0), .int (nI 1), .ref q3, .int (-1)])), aI cy q1 8, aI cy q2 8, aI cy q3 6] := hD
  refine lv_aload_n hx hb dC4_43 rfl (lv_at hl 0 rfl) ?_
  refine va_new (ci := 7) (fs := [.null, .int 0, .int 0]) (C := RX7) (T := TX7) (N := 3) hx hb hq qlayX7 tyX7 tyX7_ok hown (hq _ cK4_32) (hq _ cI7) (hq _ cT7) hK hP hD hS hA rfl (by decide +kernel) (Nat.le_of_ble_eq_true rfl) (Nat.le_of_ble_eq_true rfl) dC4_44 (fun q4 H hP hD hS => ?_)
  have hP : va_P D vwCl [(h0, .inr (4, [.null, .null, .ref q1, .ref q2, .int (nI 0), .int (nI 1), .ref q3, .int (-1)])), aI cy q1 8, aI cy q2 8, aI cy q3 6, (q4, .inr (7, [.null, .int 0, .int 0]))] H := hP
  have hD : va_D A [(h0, .inr (4, [.null, .null, .ref q1, .ref q2, .int (nI 0), .int (nI 1), .ref q3, .int (-1)])), aI cy q1 8, aI cy q2 8, aI cy q3 6, (q4, .inr (7, [.null, .int 0, .int 0]))] := hD
  refine W.widen (k := 4) (n := 25) (Nat.le_refl _) (Nat.le_refl _) ?_
  refine lv_dup hx hb dC4_47 rfl ?_
  refine lv_aload_n hx hb dC4_48 rfl (lv_at hl 1 rfl) ?_
  have hPc := hP.sub (ws' := [(q4, .inr (7, [.null, .int 0, .int 0]))]) [4] rfl
  have hDc := hD.sub (ws' := [(q4, .inr (7, [.null, .int 0, .int 0]))]) [4] (by decide) rfl
  refine cn_go (wr := [(h0, .inr (4, [.null, .null, .ref q1, .ref q2, .int (nI 0), .int (nI 1), .ref q3, .int (-1)])), aI cy q1 8, aI cy q2 8, aI cy q3 6]) (va_runI (As := [.ref h1]) (rest := [.ref q4, .ref h0]) ⟨hx, hb, hml, hown, hq⟩ (ct_X7 l D cy q4 h1 H.size) ⟨callB_of 1 hq (qTB_goodc (fun _ h => h) cC7) rfl rfl rfl (hq _ cT7) (hq _ cM4_34) (by decide +kernel) ⟨Nat.le_of_ble_eq_true rfl, Nat.le_of_ble_eq_true rfl⟩, rfl, hq _ cN7⟩ ⟨cPc_blind, fun U hU hW => ⟨rfl, by rw [hU], by rw [hU]; exact hPc, va_K.moved hW.alike hK, hDc.weaken (fun _ _ _ _ => trivial), va_Nw_warm hW hN⟩⟩ rfl rfl hl.1 rfl (lv_room (Nat.le_of_ble_eq_true rfl)) dC4_49 ⟨Nat.le_of_ble_eq_true rfl, Nat.le_of_ble_eq_true rfl⟩) hP hD hS hA [4] [0, 1, 2, 3] rfl rfl (by decide +kernel) (by decide +kernel) (fun u H locs hB hP hD hS => ?_)
  subst hB
  have hP : va_P D vwCl [(h0, .inr (4, [.null, .null, .ref q1, .ref q2, .int (nI 0), .int (nI 1), .ref q3, .int (-1)])), aI cy q1 8, aI cy q2 8, aI cy q3 6, (q4, .inr (7, [.ref h1, .int (nI 0), .int (nI 0)]))] H := hP
  have hD : va_D A [(h0, .inr (4, [.null, .null, .ref q1, .ref q2, .int (nI 0), .int (nI 1), .ref q3, .int (-1)])), aI cy q1 8, aI cy q2 8, aI cy q3 6, (q4, .inr (7, [.ref h1, .int (nI 0), .int (nI 0)]))] := hD
  refine W.widen (k := 4) (n := 25) (Nat.le_refl _) (Nat.le_refl _) ?_
  refine va_putF (D := D) (ci := 4) (v := .ref q4) (ty := tyX4 0) (C := RX4) (T := TX4) (N := 8) hx hb hq qlayX4 tyX4 tyX4_ok nmX4 hown hK hP hD hS 0 rfl rfl 0 (by decide) (hq _ cF4_37) (fun _ h9 => h9) rfl hin rfl (tyX4_ok 0 (by decide)) rfl rfl (Nat.le_of_ble_eq_true rfl) dC4_52 (fun H locs hP hD hS => ?_)
  have hP : va_P D vwCl [(h0, .inr (4, [.ref q4, .null, .ref q1, .ref q2, .int (nI 0), .int (nI 1), .ref q3, .int (-1)])), aI cy q1 8, aI cy q2 8, aI cy q3 6, (q4, .inr (7, [.ref h1, .int (nI 0), .int (nI 0)]))] H := hP
  have hD : va_D A [(h0, .inr (4, [.ref q4, .null, .ref q1, .ref q2, .int (nI 0), .int (nI 1), .ref q3, .int (-1)])), aI cy q1 8, aI cy q2 8, aI cy q3 6, (q4, .inr (7, [.ref h1, .int (nI 0), .int (nI 0)]))] := hD
  refine lv_aload_n hx hb dC4_55 rfl (lv_at hl 0 rfl) ?_
  refine lv_aload_n hx hb dC4_56 rfl (lv_at hl 2 rfl) ?_
  refine va_put (D := D) (ci := 4) (v := .ref h2) (ty := tyX4 1) (C := RX4) (T := TX4) (N := 8) hx hb hq qlayX4 tyX4 tyX4_ok nmX4 hown hK hP hD hS 0 rfl rfl 1 (by decide) (hq _ cF4_41) (fun _ h9 => h9) rfl (tyX4_ok 1 (by decide)) rfl rfl (Nat.le_of_ble_eq_true rfl) dC4_57 (fun H locs hP hD hS => ?_)
  have hP : va_P D vwCl [(h0, .inr (4, [.ref q4, .ref h2, .ref q1, .ref q2, .int (nI 0), .int (nI 1), .ref q3, .int (-1)])), aI cy q1 8, aI cy q2 8, aI cy q3 6, (q4, .inr (7, [.ref h1, .int (nI 0), .int (nI 0)]))] H := hP
  have hD : va_D A [(h0, .inr (4, [.ref q4, .ref h2, .ref q1, .ref q2, .int (nI 0), .int (nI 1), .ref q3, .int (-1)])), aI cy q1 8, aI cy q2 8, aI cy q3 6, (q4, .inr (7, [.ref h1, .int (nI 0), .int (nI 0)]))] := hD
  rw [hAe] at hD hS
  exact W.vret hx hb hr (fun t ht hW => ⟨⟨_, rfl, ⟨q1, q2, q3, q4, rfl⟩, by rw [ht]; exact hP, hD⟩, hS.F ht⟩) hS.2.2 dC4_60 hlocks
theorem cM3_3 : Jvm.Cond.methodLink RX3 3 objectInit ∈ qTB := qw2 7 rfl rfl
theorem cF3_9 : (Jvm.Cond.fieldLink "UsedUp$Planner" (9 : Nat) "UsedUp$Planner" "ordinaries" "[I") ∈ qTB := qw2 10 rfl rfl
theorem cF3_15 : (Jvm.Cond.fieldLink "UsedUp$Planner" (15 : Nat) "UsedUp$Planner" "ordinaryCount" "I") ∈ qTB := qw2 11 rfl rfl
theorem cF3_19 : (Jvm.Cond.fieldLink "UsedUp$Planner" (19 : Nat) "UsedUp$Planner" "ordinaryAsk" "[I") ∈ qTB := qw2 13 rfl rfl
theorem cF3_22 : (Jvm.Cond.fieldLink "UsedUp$Planner" (22 : Nat) "UsedUp$Planner" "needs" "[J") ∈ qTB := qw2 14 rfl rfl
theorem cF3_26 : (Jvm.Cond.fieldLink "UsedUp$Planner" (26 : Nat) "UsedUp$Planner" "trialCaps" "[I") ∈ qTB := qw2 15 rfl rfl
theorem cF3_29 : (Jvm.Cond.fieldLink "UsedUp$Planner" (29 : Nat) "UsedUp$Planner" "risky" "[I") ∈ qTB := qw2 16 rfl rfl
theorem cF3_32 : (Jvm.Cond.fieldLink "UsedUp$Planner" (32 : Nat) "UsedUp$Planner" "riskyCount" "I") ∈ qTB := qw2 17 rfl rfl
theorem cF3_35 : (Jvm.Cond.fieldLink "UsedUp$Planner" (35 : Nat) "UsedUp$Planner" "meter" "LUsedUp$Meter;") ∈ qTB := qw2 8 rfl rfl
theorem cF3_39 : (Jvm.Cond.fieldLink "UsedUp$Planner" (39 : Nat) "UsedUp$Planner" "asks" "LUsedUp$Asks;") ∈ qTB := qw2 9 rfl rfl
theorem dC3_0 : decode cX3_init 0 = .ok (.aload_n 0, 1) := by decide +kernel
theorem dC3_1 : decode cX3_init 1 = .ok (.invokespecial 3, 3) := by decide +kernel
theorem dC3_4 : decode cX3_init 4 = .ok (.aload_n 0, 1) := by decide +kernel
theorem dC3_5 : decode cX3_init 5 = .ok (.bipush 48, 2) := by decide +kernel
theorem dC3_7 : decode cX3_init 7 = .ok (.newarray .int, 2) := by decide +kernel
theorem dC3_9 : decode cX3_init 9 = .ok (.putfield 9, 3) := by decide +kernel
theorem dC3_12 : decode cX3_init 12 = .ok (.aload_n 0, 1) := by decide +kernel
theorem dC3_13 : decode cX3_init 13 = .ok (.iconst 0, 1) := by decide +kernel
theorem dC3_14 : decode cX3_init 14 = .ok (.putfield 15, 3) := by decide +kernel
theorem dC3_17 : decode cX3_init 17 = .ok (.aload_n 0, 1) := by decide +kernel
theorem dC3_18 : decode cX3_init 18 = .ok (.iconst 4, 1) := by decide +kernel
theorem dC3_19 : decode cX3_init 19 = .ok (.newarray .int, 2) := by decide +kernel
theorem dC3_21 : decode cX3_init 21 = .ok (.putfield 19, 3) := by decide +kernel
theorem dC3_24 : decode cX3_init 24 = .ok (.aload_n 0, 1) := by decide +kernel
theorem dC3_25 : decode cX3_init 25 = .ok (.bipush 8, 2) := by decide +kernel
theorem dC3_27 : decode cX3_init 27 = .ok (.newarray .long, 2) := by decide +kernel
theorem dC3_29 : decode cX3_init 29 = .ok (.putfield 22, 3) := by decide +kernel
theorem dC3_32 : decode cX3_init 32 = .ok (.aload_n 0, 1) := by decide +kernel
theorem dC3_33 : decode cX3_init 33 = .ok (.bipush 8, 2) := by decide +kernel
theorem dC3_35 : decode cX3_init 35 = .ok (.newarray .int, 2) := by decide +kernel
theorem dC3_37 : decode cX3_init 37 = .ok (.putfield 26, 3) := by decide +kernel
theorem dC3_40 : decode cX3_init 40 = .ok (.aload_n 0, 1) := by decide +kernel
theorem dC3_41 : decode cX3_init 41 = .ok (.sipush 1296, 3) := by decide +kernel
theorem dC3_44 : decode cX3_init 44 = .ok (.newarray .int, 2) := by decide +kernel
theorem dC3_46 : decode cX3_init 46 = .ok (.putfield 29, 3) := by decide +kernel
theorem dC3_49 : decode cX3_init 49 = .ok (.aload_n 0, 1) := by decide +kernel
theorem dC3_50 : decode cX3_init 50 = .ok (.iconst 0, 1) := by decide +kernel
theorem dC3_51 : decode cX3_init 51 = .ok (.putfield 32, 3) := by decide +kernel
theorem dC3_54 : decode cX3_init 54 = .ok (.aload_n 0, 1) := by decide +kernel
theorem dC3_55 : decode cX3_init 55 = .ok (.aload_n 1, 1) := by decide +kernel
theorem dC3_56 : decode cX3_init 56 = .ok (.putfield 35, 3) := by decide +kernel
theorem dC3_59 : decode cX3_init 59 = .ok (.aload_n 0, 1) := by decide +kernel
theorem dC3_60 : decode cX3_init 60 = .ok (.aload_n 2, 1) := by decide +kernel
theorem dC3_61 : decode cX3_init 61 = .ok (.putfield 39, 3) := by decide +kernel
theorem dC3_64 : decode cX3_init 64 = .ok (.return_, 1) := by decide +kernel
set_option maxRecDepth 20000 in
set_option maxHeartbeats 4000000 in
theorem ct_X3 (l : Launch) (D : va_G) (cy : Nat → Nat) (h0 h1 h2 sz : Nat) : Met l yX3_init (qwc yX3_init cX3_init 3) ({ frames := 1, cells := 5, slots := 1364, locals := 12 }) (cPc D cy [.ref h0, .ref h1, .ref h2] [(h0, .inr (3, [.null, .null, .null, .int 0, .null, .null, .null, .null, .int 0]))] sz) (cQc D [(h0, .inr (3, [.null, .null, .null, .int 0, .null, .null, .null, .null, .int 0]))] sz (fun u => ∃ q1 q2 q3 q4 q5 : Nat, u = [(h0, .inr (3, [.ref h1, .ref h2, .ref q1, .int (nI 0), .ref q2, .ref q3, .ref q4, .ref q5, .int (nI 0)])), aI cy q1 48, aI cy q2 4, aJ cy q3 8, aI cy q4 8, aI cy q5 1296])) 5 1364 (va_A [(h0, .inr (3, [.null, .null, .null, .int 0, .null, .null, .null, .null, .int 0]))] sz) := by
  refine ct_intro (by decide) (Nat.le_of_ble_eq_true rfl) ?_
  intro p e s m below meth c A hsz hx hb hml hown hin hr hlocks hq hK hN hP hD hS hA hAe ls hl
  have hl : lv_has ls 3 [(0, .ref h0), (1, .ref h1), (2, .ref h2)] := hl
  subst hsz
  have hP : va_P D vwCl [(h0, .inr (3, [.null, .null, .null, .int 0, .null, .null, .null, .null, .int 0]))] s.heap := hP
  refine lv_aload_n hx hb dC3_0 rfl (lv_at hl 0 rfl) ?_
  refine W.objInit hx hb hown (hq _ cM3_3) (hq _ cO_inst) (hq _ cO_code) rfl (by rw [hml]; exact hl.1) rfl dC3_1 (Nat.le_of_ble_eq_true rfl) (Nat.le_of_ble_eq_true rfl) ?_
  refine W.eq (g2 := F0 m 4 ls []) rfl ?_
  refine lv_aload_n hx hb dC3_4 rfl (lv_at hl 0 rfl) ?_
  refine lv_bipush (v := nI 48) hx hb dC3_5 (by decide) ?_
  refine cn_newI hx hb hq hK hP hD hS hA (Nat.le_of_ble_eq_true rfl) (Nat.le_of_ble_eq_true rfl) (Nat.le_of_ble_eq_true rfl) dC3_7 (fun q1 H hP hD hS => ?_)
  have hP : va_P D vwCl [(h0, .inr (3, [.null, .null, .null, .int 0, .null, .null, .null, .null, .int 0])), aI cy q1 48] H := hP
  have hD : va_D A [(h0, .inr (3, [.null, .null, .null, .int 0, .null, .null, .null, .null, .int 0])), aI cy q1 48] := hD
  refine W.widen (k := 1) (n := 48) (Nat.le_refl _) (Nat.le_refl _) ?_
  refine va_putF (D := D) (ci := 3) (v := .ref q1) (ty := tyX3 2) (C := RX3) (T := TX3) (N := 9) hx hb hq qlayX3 tyX3 tyX3_ok nmX3 hown hK hP hD hS 0 rfl rfl 2 (by decide) (hq _ cF3_9) (fun _ h9 => h9) rfl hin rfl (tyX3_ok 2 (by decide)) rfl rfl (Nat.le_of_ble_eq_true rfl) dC3_9 (fun H locs hP hD hS => ?_)
  have hP : va_P D vwCl [(h0, .inr (3, [.null, .null, .ref q1, .int 0, .null, .null, .null, .null, .int 0])), aI cy q1 48] H := hP
  have hD : va_D A [(h0, .inr (3, [.null, .null, .ref q1, .int 0, .null, .null, .null, .null, .int 0])), aI cy q1 48] := hD
  refine lv_aload_n hx hb dC3_12 rfl (lv_at hl 0 rfl) ?_
  refine lv_iconst (v := nI 0) hx hb dC3_13 (by decide) ?_
  refine va_put (D := D) (ci := 3) (v := .int (nI 0)) (ty := tyX3 3) (C := RX3) (T := TX3) (N := 9) hx hb hq qlayX3 tyX3 tyX3_ok nmX3 hown hK hP hD hS 0 rfl rfl 3 (by decide) (hq _ cF3_15) (fun _ h9 => h9) rfl (tyX3_ok 3 (by decide)) rfl rfl (Nat.le_of_ble_eq_true rfl) dC3_14 (fun H locs hP hD hS => ?_)
  have hP : va_P D vwCl [(h0, .inr (3, [.null, .null, .ref q1, .int (nI 0), .null, .null, .null, .null, .int 0])), aI cy q1 48] H := hP
  have hD : va_D A [(h0, .inr (3, [.null, .null, .ref q1, .int (nI 0), .null, .null, .null, .null, .int 0])), aI cy q1 48] := hD
  refine lv_aload_n hx hb dC3_17 rfl (lv_at hl 0 rfl) ?_
  refine lv_iconst (v := nI 4) hx hb dC3_18 (by decide) ?_
  refine cn_newI hx hb hq hK hP hD hS hA (Nat.le_of_ble_eq_true rfl) (Nat.le_of_ble_eq_true rfl) (Nat.le_of_ble_eq_true rfl) dC3_19 (fun q2 H hP hD hS => ?_)
  have hP : va_P D vwCl [(h0, .inr (3, [.null, .null, .ref q1, .int (nI 0), .null, .null, .null, .null, .int 0])), aI cy q1 48, aI cy q2 4] H := hP
  have hD : va_D A [(h0, .inr (3, [.null, .null, .ref q1, .int (nI 0), .null, .null, .null, .null, .int 0])), aI cy q1 48, aI cy q2 4] := hD
  refine W.widen (k := 2) (n := 52) (Nat.le_refl _) (Nat.le_refl _) ?_
  refine va_putF (D := D) (ci := 3) (v := .ref q2) (ty := tyX3 4) (C := RX3) (T := TX3) (N := 9) hx hb hq qlayX3 tyX3 tyX3_ok nmX3 hown hK hP hD hS 0 rfl rfl 4 (by decide) (hq _ cF3_19) (fun _ h9 => h9) rfl hin rfl (tyX3_ok 4 (by decide)) rfl rfl (Nat.le_of_ble_eq_true rfl) dC3_21 (fun H locs hP hD hS => ?_)
  have hP : va_P D vwCl [(h0, .inr (3, [.null, .null, .ref q1, .int (nI 0), .ref q2, .null, .null, .null, .int 0])), aI cy q1 48, aI cy q2 4] H := hP
  have hD : va_D A [(h0, .inr (3, [.null, .null, .ref q1, .int (nI 0), .ref q2, .null, .null, .null, .int 0])), aI cy q1 48, aI cy q2 4] := hD
  refine lv_aload_n hx hb dC3_24 rfl (lv_at hl 0 rfl) ?_
  refine lv_bipush (v := nI 8) hx hb dC3_25 (by decide) ?_
  refine cn_newJ hx hb hq hK hP hD hS hA (Nat.le_of_ble_eq_true rfl) (Nat.le_of_ble_eq_true rfl) (Nat.le_of_ble_eq_true rfl) dC3_27 (fun q3 H hP hD hS => ?_)
  have hP : va_P D vwCl [(h0, .inr (3, [.null, .null, .ref q1, .int (nI 0), .ref q2, .null, .null, .null, .int 0])), aI cy q1 48, aI cy q2 4, aJ cy q3 8] H := hP
  have hD : va_D A [(h0, .inr (3, [.null, .null, .ref q1, .int (nI 0), .ref q2, .null, .null, .null, .int 0])), aI cy q1 48, aI cy q2 4, aJ cy q3 8] := hD
  refine W.widen (k := 3) (n := 60) (Nat.le_refl _) (Nat.le_refl _) ?_
  refine va_putF (D := D) (ci := 3) (v := .ref q3) (ty := tyX3 5) (C := RX3) (T := TX3) (N := 9) hx hb hq qlayX3 tyX3 tyX3_ok nmX3 hown hK hP hD hS 0 rfl rfl 5 (by decide) (hq _ cF3_22) (fun _ h9 => h9) rfl hin rfl (tyX3_ok 5 (by decide)) rfl rfl (Nat.le_of_ble_eq_true rfl) dC3_29 (fun H locs hP hD hS => ?_)
  have hP : va_P D vwCl [(h0, .inr (3, [.null, .null, .ref q1, .int (nI 0), .ref q2, .ref q3, .null, .null, .int 0])), aI cy q1 48, aI cy q2 4, aJ cy q3 8] H := hP
  have hD : va_D A [(h0, .inr (3, [.null, .null, .ref q1, .int (nI 0), .ref q2, .ref q3, .null, .null, .int 0])), aI cy q1 48, aI cy q2 4, aJ cy q3 8] := hD
  refine lv_aload_n hx hb dC3_32 rfl (lv_at hl 0 rfl) ?_
  refine lv_bipush (v := nI 8) hx hb dC3_33 (by decide) ?_
  refine cn_newI hx hb hq hK hP hD hS hA (Nat.le_of_ble_eq_true rfl) (Nat.le_of_ble_eq_true rfl) (Nat.le_of_ble_eq_true rfl) dC3_35 (fun q4 H hP hD hS => ?_)
  have hP : va_P D vwCl [(h0, .inr (3, [.null, .null, .ref q1, .int (nI 0), .ref q2, .ref q3, .null, .null, .int 0])), aI cy q1 48, aI cy q2 4, aJ cy q3 8, aI cy q4 8] H := hP
  have hD : va_D A [(h0, .inr (3, [.null, .null, .ref q1, .int (nI 0), .ref q2, .ref q3, .null, .null, .int 0])), aI cy q1 48, aI cy q2 4, aJ cy q3 8, aI cy q4 8] := hD
  refine W.widen (k := 4) (n := 68) (Nat.le_refl _) (Nat.le_refl _) ?_
  refine va_putF (D := D) (ci := 3) (v := .ref q4) (ty := tyX3 6) (C := RX3) (T := TX3) (N := 9) hx hb hq qlayX3 tyX3 tyX3_ok nmX3 hown hK hP hD hS 0 rfl rfl 6 (by decide) (hq _ cF3_26) (fun _ h9 => h9) rfl hin rfl (tyX3_ok 6 (by decide)) rfl rfl (Nat.le_of_ble_eq_true rfl) dC3_37 (fun H locs hP hD hS => ?_)
  have hP : va_P D vwCl [(h0, .inr (3, [.null, .null, .ref q1, .int (nI 0), .ref q2, .ref q3, .ref q4, .null, .int 0])), aI cy q1 48, aI cy q2 4, aJ cy q3 8, aI cy q4 8] H := hP
  have hD : va_D A [(h0, .inr (3, [.null, .null, .ref q1, .int (nI 0), .ref q2, .ref q3, .ref q4, .null, .int 0])), aI cy q1 48, aI cy q2 4, aJ cy q3 8, aI cy q4 8] := hD
  refine lv_aload_n hx hb dC3_40 rfl (lv_at hl 0 rfl) ?_
  refine lv_sipush (v := nI 1296) hx hb dC3_41 (by decide) ?_
  refine cn_newI hx hb hq hK hP hD hS hA (Nat.le_of_ble_eq_true rfl) (Nat.le_of_ble_eq_true rfl) (Nat.le_of_ble_eq_true rfl) dC3_44 (fun q5 H hP hD hS => ?_)
  have hP : va_P D vwCl [(h0, .inr (3, [.null, .null, .ref q1, .int (nI 0), .ref q2, .ref q3, .ref q4, .null, .int 0])), aI cy q1 48, aI cy q2 4, aJ cy q3 8, aI cy q4 8, aI cy q5 1296] H := hP
  have hD : va_D A [(h0, .inr (3, [.null, .null, .ref q1, .int (nI 0), .ref q2, .ref q3, .ref q4, .null, .int 0])), aI cy q1 48, aI cy q2 4, aJ cy q3 8, aI cy q4 8, aI cy q5 1296] := hD
  refine W.widen (k := 5) (n := 1364) (Nat.le_refl _) (Nat.le_refl _) ?_
  refine va_putF (D := D) (ci := 3) (v := .ref q5) (ty := tyX3 7) (C := RX3) (T := TX3) (N := 9) hx hb hq qlayX3 tyX3 tyX3_ok nmX3 hown hK hP hD hS 0 rfl rfl 7 (by decide) (hq _ cF3_29) (fun _ h9 => h9) rfl hin rfl (tyX3_ok 7 (by decide)) rfl rfl (Nat.le_of_ble_eq_true rfl) dC3_46 (fun H locs hP hD hS => ?_)
  have hP : va_P D vwCl [(h0, .inr (3, [.null, .null, .ref q1, .int (nI 0), .ref q2, .ref q3, .ref q4, .ref q5, .int 0])), aI cy q1 48, aI cy q2 4, aJ cy q3 8, aI cy q4 8, aI cy q5 1296] H := hP
  have hD : va_D A [(h0, .inr (3, [.null, .null, .ref q1, .int (nI 0), .ref q2, .ref q3, .ref q4, .ref q5, .int 0])), aI cy q1 48, aI cy q2 4, aJ cy q3 8, aI cy q4 8, aI cy q5 1296] := hD
  refine lv_aload_n hx hb dC3_49 rfl (lv_at hl 0 rfl) ?_
  refine lv_iconst (v := nI 0) hx hb dC3_50 (by decide) ?_
  refine va_put (D := D) (ci := 3) (v := .int (nI 0)) (ty := tyX3 8) (C := RX3) (T := TX3) (N := 9) hx hb hq qlayX3 tyX3 tyX3_ok nmX3 hown hK hP hD hS 0 rfl rfl 8 (by decide) (hq _ cF3_32) (fun _ h9 => h9) rfl (tyX3_ok 8 (by decide)) rfl rfl (Nat.le_of_ble_eq_true rfl) dC3_51 (fun H locs hP hD hS => ?_)
  have hP : va_P D vwCl [(h0, .inr (3, [.null, .null, .ref q1, .int (nI 0), .ref q2, .ref q3, .ref q4, .ref q5, .int (nI 0)])), aI cy q1 48, aI cy q2 4, aJ cy q3 8, aI cy q4 8, aI cy q5 1296] H := hP
  have hD : va_D A [(h0, .inr (3, [.null, .null, .ref q1, .int (nI 0), .ref q2, .ref q3, .ref q4, .ref q5, .int (nI 0)])), aI cy q1 48, aI cy q2 4, aJ cy q3 8, aI cy q4 8, aI cy q5 1296] := hD
  refine lv_aload_n hx hb dC3_54 rfl (lv_at hl 0 rfl) ?_
  refine lv_aload_n hx hb dC3_55 rfl (lv_at hl 1 rfl) ?_
  refine va_putF (D := D) (ci := 3) (v := .ref h1) (ty := tyX3 0) (C := RX3) (T := TX3) (N := 9) hx hb hq qlayX3 tyX3 tyX3_ok nmX3 hown hK hP hD hS 0 rfl rfl 0 (by decide) (hq _ cF3_35) (fun _ h9 => h9) rfl hin rfl (tyX3_ok 0 (by decide)) rfl rfl (Nat.le_of_ble_eq_true rfl) dC3_56 (fun H locs hP hD hS => ?_)
  have hP : va_P D vwCl [(h0, .inr (3, [.ref h1, .null, .ref q1, .int (nI 0), .ref q2, .ref q3, .ref q4, .ref q5, .int (nI 0)])), aI cy q1 48, aI cy q2 4, aJ cy q3 8, aI cy q4 8, aI cy q5 1296] H := hP
  have hD : va_D A [(h0, .inr (3, [.ref h1, .null, .ref q1, .int (nI 0), .ref q2, .ref q3, .ref q4, .ref q5, .int (nI 0)])), aI cy q1 48, aI cy q2 4, aJ cy q3 8, aI cy q4 8, aI cy q5 1296] := hD
  refine lv_aload_n hx hb dC3_59 rfl (lv_at hl 0 rfl) ?_
  refine lv_aload_n hx hb dC3_60 rfl (lv_at hl 2 rfl) ?_
  refine va_putF (D := D) (ci := 3) (v := .ref h2) (ty := tyX3 1) (C := RX3) (T := TX3) (N := 9) hx hb hq qlayX3 tyX3 tyX3_ok nmX3 hown hK hP hD hS 0 rfl rfl 1 (by decide) (hq _ cF3_39) (fun _ h9 => h9) rfl hin rfl (tyX3_ok 1 (by decide)) rfl rfl (Nat.le_of_ble_eq_true rfl) dC3_61 (fun H locs hP hD hS => ?_)
  have hP : va_P D vwCl [(h0, .inr (3, [.ref h1, .ref h2, .ref q1, .int (nI 0), .ref q2, .ref q3, .ref q4, .ref q5, .int (nI 0)])), aI cy q1 48, aI cy q2 4, aJ cy q3 8, aI cy q4 8, aI cy q5 1296] H := hP
  have hD : va_D A [(h0, .inr (3, [.ref h1, .ref h2, .ref q1, .int (nI 0), .ref q2, .ref q3, .ref q4, .ref q5, .int (nI 0)])), aI cy q1 48, aI cy q2 4, aJ cy q3 8, aI cy q4 8, aI cy q5 1296] := hD
  rw [hAe] at hD hS
  exact W.vret hx hb hr (fun t ht hW => ⟨⟨_, rfl, ⟨q1, q2, q3, q4, q5, rfl⟩, by rw [ht]; exact hP, hD⟩, hS.F ht⟩) hS.2.2 dC3_64 hlocks
