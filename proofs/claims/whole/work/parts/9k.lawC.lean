/-! the law's loop (mk9k.py) -/
theorem l_and31 (x : Int32) : ∃ k, k < 32 ∧ x &&& nI 31 = nI k := by
  refine ⟨x.toBitVec.toNat &&& 31, Nat.lt_of_le_of_lt Nat.and_le_right (by omega), ?_⟩
  apply b_ext
  intro i hi
  rw [b_and, b_nI hi, b_nI hi, Nat.testBit_and]
  rfl
theorem l_sub6 {a : Nat} (h : a ≤ 3072) : (nI a - nI 6).toInt = (a : Int) - 6 := by
  rw [Int32.toInt_sub, nI_toInt (by omega), nI_toInt (by omega)]
  exact Int.bmod_eq_of_le (by omega) (by omega)
section LAWLOOP
variable {p : Program} {l : Launch} {e : Env} {s : State} {m : MethodId} {args : Array Value} {below : List Frame} {meth : Method} {c : Code} {A : Nat → Prop} {D : va_G} {cy ad sv : Nat → Nat} {Qs : State → Prop} {b L : Nat} {xs : Nat → Int32}
set_option maxHeartbeats 1000000 in
theorem l_loop (F : lR p s m args c A D cy ad sv b L xs) (fin : ∀ (H : Heap) (locs : List Loc) (ls : Array Slot), va_S A s.heap H locs → W p l e room_1 s m args below meth c H locs 101 7052 Qs (F0 m 761 ls [])) :
    ∀ (n i : Nat) (h : HP) (H : Heap) (locs : List Loc) (ls : Array Slot), L < i + n → i ≤ L + 6 → lv_has ls 4 [(3, .int (nI i)), (2, .ref (ad 0)), (1, .ref (ad 100)), (0, .ref b)] → Rel h → va_P D vwCl (qwld cy ad h) H → va_D A (qwld cy ad h) → va_S A s.heap H locs → W p l e room_1 s m args below meth c H locs 101 7052 Qs (F0 m 18 ls []) := by
  intro n
  obtain ⟨hx, hb, hml, hown, hq, hK, hE, hA, hX, hbl, hbA, hL⟩ := id F
  induction n with
  | zero =>
    intro i h H locs ls h1 h2 hl hr hP hD hS
    refine lv_iload_n hx hb dL_18 rfl (lv_at hl 0 rfl) ?_
    refine lv_aload_n hx hb dL_19 rfl (lv_at hl 3 rfl) ?_
    refine va_slen hx hb hX hbl hbA hS dL_20 ?_
    refine lv_bipush (v := nI 6) hx hb dL_21 (by decide) ?_
    refine lv_isub hx hb dL_23 ?_
    refine lv_icmp_gt (tgt := 761) hx hb dL_24 (by decide) (fun _ => fin _ _ _ hS) (fun c1 => absurd ?_ c1)
    show nI L - nI 6 < nI i
    rw [i32_lt, l_sub6 hL, nI_toInt (by omega)]
    omega
  | succ n ih =>
    intro i h H locs ls h1 h2 hl hr hP hD hS
    refine lv_iload_n hx hb dL_18 rfl (lv_at hl 0 rfl) ?_
    refine lv_aload_n hx hb dL_19 rfl (lv_at hl 3 rfl) ?_
    refine va_slen hx hb hX hbl hbA hS dL_20 ?_
    refine lv_bipush (v := nI 6) hx hb dL_21 (by decide) ?_
    refine lv_isub hx hb dL_23 ?_
    refine lv_icmp_gt (tgt := 761) hx hb dL_24 (by decide) (fun _ => fin _ _ _ hS) (fun c1 => ?_)
    have hi : i + 6 ≤ L := by
      have c1 : ¬ nI L - nI 6 < nI i := c1
      rw [i32_lt, l_sub6 hL, nI_toInt (by omega)] at c1
      omega
    have nx : lNx p l e s m args below meth c A D cy ad Qs ls 755 := by
      intro u H locs hr hP hD hS
      refine lv_iinc (v := nI (i + 6)) (lv' := [(3, .int (nI (i + 6))), (2, .ref (ad 0)), (1, .ref (ad 100)), (0, .ref b)]) hx hb dL_755 hl (k := 0) rfl (nI_add i 6) (by decide) rfl (fun ls hl => ?_)
      refine lv_goto (tgt := 18) hx hb dL_758 (by decide) ?_
      exact ih (i + 6) u H locs ls (by omega) (by omega) hl hr hP hD hS
    refine lv_aload_n hx hb dL_27 rfl (lv_at hl 3 rfl) ?_
    refine lv_iload_n hx hb dL_28 rfl (lv_at hl 0 rfl) ?_
    refine va_sld hx hb hX hbl hbA hS (vp_in_nI (by omega) (by omega)) dL_29 ?_
    refine lv_bipush (v := nI 31) hx hb dL_30 (by decide) ?_
    refine lv_iand hx hb dL_32 ?_
    obtain ⟨k, hk, ek⟩ := l_and31 (xs (nI i).toNatClampNeg)
    rw [ek]
    by_cases k18 : k < 19
    · match k, k18 with
      | 0, _ => exact lv_tableIn (off := 91) (tgt := 124) hx hb dL_33 (by decide) (by decide) (by decide) (by decide) (lcase_0 F hl hi nx h H locs hr hP hD hS)
      | 1, _ => exact lv_tableIn (off := 134) (tgt := 167) hx hb dL_33 (by decide) (by decide) (by decide) (by decide) (lcase_1 F hl hi nx h H locs hr hP hD hS)
      | 2, _ => exact lv_tableIn (off := 197) (tgt := 230) hx hb dL_33 (by decide) (by decide) (by decide) (by decide) (lcase_2 F hl hi nx h H locs hr hP hD hS)
      | 3, _ => exact lv_tableIn (off := 220) (tgt := 253) hx hb dL_33 (by decide) (by decide) (by decide) (by decide) (lcase_3 F hl hi nx h H locs hr hP hD hS)
      | 4, _ => exact lv_tableIn (off := 233) (tgt := 266) hx hb dL_33 (by decide) (by decide) (by decide) (by decide) (lcase_4 F hl hi nx h H locs hr hP hD hS)
      | 5, _ => exact lv_tableIn (off := 246) (tgt := 279) hx hb dL_33 (by decide) (by decide) (by decide) (by decide) (lcase_5 F hl hi nx h H locs hr hP hD hS)
      | 6, _ => exact lv_tableIn (off := 279) (tgt := 312) hx hb dL_33 (by decide) (by decide) (by decide) (by decide) (lcase_6 F hl hi nx h H locs hr hP hD hS)
      | 7, _ => exact lv_tableIn (off := 302) (tgt := 335) hx hb dL_33 (by decide) (by decide) (by decide) (by decide) (lcase_7 F hl hi nx h H locs hr hP hD hS)
      | 8, _ => exact lv_tableIn (off := 366) (tgt := 399) hx hb dL_33 (by decide) (by decide) (by decide) (by decide) (lcase_8 F hl hi nx h H locs hr hP hD hS)
      | 9, _ => exact lv_tableIn (off := 400) (tgt := 433) hx hb dL_33 (by decide) (by decide) (by decide) (by decide) (lcase_9 F hl hi nx h H locs hr hP hD hS)
      | 10, _ => exact lv_tableIn (off := 463) (tgt := 496) hx hb dL_33 (by decide) (by decide) (by decide) (by decide) (lcase_10 F hl hi nx h H locs hr hP hD hS)
      | 11, _ => exact lv_tableIn (off := 486) (tgt := 519) hx hb dL_33 (by decide) (by decide) (by decide) (by decide) (lcase_11 F hl hi nx h H locs hr hP hD hS)
      | 12, _ => exact lv_tableIn (off := 510) (tgt := 543) hx hb dL_33 (by decide) (by decide) (by decide) (by decide) (lcase_12 F hl hi nx h H locs hr hP hD hS)
      | 13, _ => exact lv_tableIn (off := 563) (tgt := 596) hx hb dL_33 (by decide) (by decide) (by decide) (by decide) (lcase_13 F hl hi nx h H locs hr hP hD hS)
      | 14, _ => exact lv_tableIn (off := 587) (tgt := 620) hx hb dL_33 (by decide) (by decide) (by decide) (by decide) (lcase_14 F hl hi nx h H locs hr hP hD hS)
      | 15, _ => exact lv_tableIn (off := 640) (tgt := 673) hx hb dL_33 (by decide) (by decide) (by decide) (by decide) (lcase_15 F hl hi nx h H locs hr hP hD hS)
      | 16, _ => exact lv_tableIn (off := 673) (tgt := 706) hx hb dL_33 (by decide) (by decide) (by decide) (by decide) (lcase_16 F hl hi nx h H locs hr hP hD hS)
      | 17, _ => exact lv_tableIn (off := 686) (tgt := 719) hx hb dL_33 (by decide) (by decide) (by decide) (by decide) (lcase_17 F hl hi nx h H locs hr hP hD hS)
      | 18, _ => exact lv_tableIn (off := 709) (tgt := 742) hx hb dL_33 (by decide) (by decide) (by decide) (by decide) (lcase_18 F hl hi nx h H locs hr hP hD hS)
      | k + 19, h9 => exact absurd h9 (by omega)
    · refine lv_tableOut (tgt := 755) hx hb dL_33 (Or.inr ?_) (by decide) (nx h H locs hr hP hD hS)
      rw [nI_toInt (by omega)]
      omega
end LAWLOOP
