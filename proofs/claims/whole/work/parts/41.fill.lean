def fillJ (J : Nat → Nat → Int64) (o n : Nat) : Nat → Nat → Int64 := fun a b => if a = o ∧ b < n then 0 else J a b
section FILL
variable {l : Launch} {D : va_G} {cy ad sv : Nat → Nat} {Q : Option Value → HP → Prop} {h : HP} {I : Nat → Nat → Int32} {J : Nat → Nat → Int64}
theorem k_fillWithNothing {o : Nat} (hk : (qkd o).1 = 11) (h1 : Q none (I, fillJ J o (qkd o).2, h.2.2)) : qC l D cy ad sv 100 [.ref o] (I, J, h.2.2) Q := by
  refine qC.intro ob_100 (by decide +kernel) (Nat.le_of_ble_eq_true rfl) (fun G hG => ?_)
  show G 0 [.ref o, qX] [] _
  have hlen := qkd_len o
  have lp : ∀ (m n : Nat), n + m = (qkd o).2 → G 2 [.ref o, .int (nI n)] [] (I, fillJ J o n, h.2.2) := by
    intro m
    induction m with
    | zero =>
      intro n hn
      refine bk_100_2 hG ?_
      simp only [b_100_2, f_nil, f_iconst, f_bipush, f_sipush, f_lconst, f_ldcS, f_ldcI, f_ldc2, f_iload_n, f_iload, f_istore_n, f_istore, f_lload_n, f_lload, f_lstore_n, f_lstore, f_aload_n, f_aload, f_astore_n, f_astore, f_iinc, f_iadd, f_isub, f_imul, f_iand, f_ior, f_ixor, f_ishl, f_ishr, f_iushr, f_ladd, f_lsub, f_lmul, f_land, f_lor, f_idiv, f_irem, f_ineg, f_ldiv, f_lshl, f_lcmp, f_i2l, f_l2i, f_i2c, f_dup, f_dup2, f_pop, f_pop2, f_arraylength, f_iaload, f_laload, f_baload, f_iastore, f_lastore, f_bastore, f_getI, f_getL, f_getR, f_getZ, f_putI, f_putL, f_putR, f_putZ, f_icmp_eq, f_if_eq, f_icmp_ne, f_if_ne, f_icmp_lt, f_if_lt, f_icmp_ge, f_if_ge, f_icmp_gt, f_if_gt, f_icmp_le, f_if_le, f_goto, f_tsw, f_lsw, f_ret, f_iret, f_zret, f_lret, f_mmin, f_mmax, f_mminl, f_mmaxl, f_cs0, f_cs1, f_cs2, f_cs3, f_cs4, f_cs5, f_cs6, f_cv0, f_cv1, f_cv2, f_cv3, f_cv4, f_cv5, f_cv6, f_cI, f_cL, f_cR, f_g0, f_s0, f_p0, f_g1, f_s1, f_p1, f_g2, f_s2, f_p2, f_g3, f_s3, f_p3, f_g4, f_s4, f_p4, f_g5, f_s5, f_p5, f_g6, f_s6, f_p6, f_g7, f_s7, f_p7, f_g8, f_s8, f_p8, f_g9, f_s9, f_p9, f_g10, f_s10, f_p10, f_g11, f_s11, f_p11, f_g12, f_s12, f_p12, f_nI, f_nR, f_nX, f_rS, f_pS, f_pN, f_l0, f_l1, f_l2, f_l3, f_l4, f_ctI, f_ctL, f_ctR, f_rc0, f_rc1, f_rc2, f_rc3, f_rc4, f_rc5, f_rc6, f_rc7, f_rc8, f_rc9, f_rc60, c_im8, c_im1, c_i0, c_i1, c_i2, c_i3, c_i4, c_i5, c_i1000000, c_bm6, c_bm5, c_bm2, c_b6, c_b7, c_b8, c_b9, c_b10, c_b12, c_b16, c_b20, c_b24, c_b26, c_b32, c_b40, c_b42, c_b43, c_b48, c_b50, c_b57, c_b59, c_b60, c_b61, c_b63, c_b97, c_b98, c_b99, c_b100, c_b101, c_b102, c_b104, c_b105, c_b107, c_b108, c_b109, c_b110, c_b111, c_b112, c_b115, c_b116, c_b117, c_b122, c_b123, c_b125, c_s200, c_s255, c_s400, c_s1000, c_s1001, c_s1296, c_l0, c_l1, c_Lm1, c_L2, c_L3, c_L5, c_L7, c_L9, c_L10, c_L32, c_L48, c_L96, c_L1000, c_L1000000, c_L1000000000000, Nat.reduceAdd, true_and, and_true, forall_const, eq_self_iff_true, not_true_eq_false, not_false_eq_true, false_implies, true_implies, hk, i32_le, qlen_toInt]
      refine ⟨by decide, fun _ => ?_, fun c1 => ?_⟩
      · refine bk_100_18 hG ?_
        simp only [b_100_18, f_nil, f_iconst, f_bipush, f_sipush, f_lconst, f_ldcS, f_ldcI, f_ldc2, f_iload_n, f_iload, f_istore_n, f_istore, f_lload_n, f_lload, f_lstore_n, f_lstore, f_aload_n, f_aload, f_astore_n, f_astore, f_iinc, f_iadd, f_isub, f_imul, f_iand, f_ior, f_ixor, f_ishl, f_ishr, f_iushr, f_ladd, f_lsub, f_lmul, f_land, f_lor, f_idiv, f_irem, f_ineg, f_ldiv, f_lshl, f_lcmp, f_i2l, f_l2i, f_i2c, f_dup, f_dup2, f_pop, f_pop2, f_arraylength, f_iaload, f_laload, f_baload, f_iastore, f_lastore, f_bastore, f_getI, f_getL, f_getR, f_getZ, f_putI, f_putL, f_putR, f_putZ, f_icmp_eq, f_if_eq, f_icmp_ne, f_if_ne, f_icmp_lt, f_if_lt, f_icmp_ge, f_if_ge, f_icmp_gt, f_if_gt, f_icmp_le, f_if_le, f_goto, f_tsw, f_lsw, f_ret, f_iret, f_zret, f_lret, f_mmin, f_mmax, f_mminl, f_mmaxl, f_cs0, f_cs1, f_cs2, f_cs3, f_cs4, f_cs5, f_cs6, f_cv0, f_cv1, f_cv2, f_cv3, f_cv4, f_cv5, f_cv6, f_cI, f_cL, f_cR, f_g0, f_s0, f_p0, f_g1, f_s1, f_p1, f_g2, f_s2, f_p2, f_g3, f_s3, f_p3, f_g4, f_s4, f_p4, f_g5, f_s5, f_p5, f_g6, f_s6, f_p6, f_g7, f_s7, f_p7, f_g8, f_s8, f_p8, f_g9, f_s9, f_p9, f_g10, f_s10, f_p10, f_g11, f_s11, f_p11, f_g12, f_s12, f_p12, f_nI, f_nR, f_nX, f_rS, f_pS, f_pN, f_l0, f_l1, f_l2, f_l3, f_l4, f_ctI, f_ctL, f_ctR, f_rc0, f_rc1, f_rc2, f_rc3, f_rc4, f_rc5, f_rc6, f_rc7, f_rc8, f_rc9, f_rc60, c_im8, c_im1, c_i0, c_i1, c_i2, c_i3, c_i4, c_i5, c_i1000000, c_bm6, c_bm5, c_bm2, c_b6, c_b7, c_b8, c_b9, c_b10, c_b12, c_b16, c_b20, c_b24, c_b26, c_b32, c_b40, c_b42, c_b43, c_b48, c_b50, c_b57, c_b59, c_b60, c_b61, c_b63, c_b97, c_b98, c_b99, c_b100, c_b101, c_b102, c_b104, c_b105, c_b107, c_b108, c_b109, c_b110, c_b111, c_b112, c_b115, c_b116, c_b117, c_b122, c_b123, c_b125, c_s200, c_s255, c_s400, c_s1000, c_s1001, c_s1296, c_l0, c_l1, c_Lm1, c_L2, c_L3, c_L5, c_L7, c_L9, c_L10, c_L32, c_L48, c_L96, c_L1000, c_L1000000, c_L1000000000000, Nat.reduceAdd, true_and, and_true, forall_const, eq_self_iff_true, not_true_eq_false, not_false_eq_true, false_implies, true_implies]
        have : n = (qkd o).2 := by omega
        rw [this]; exact h1
      · rw [nI_toInt (by omega)] at c1
        omega
    | succ m ih =>
      intro n hn
      refine bk_100_2 hG ?_
      simp only [b_100_2, f_nil, f_iconst, f_bipush, f_sipush, f_lconst, f_ldcS, f_ldcI, f_ldc2, f_iload_n, f_iload, f_istore_n, f_istore, f_lload_n, f_lload, f_lstore_n, f_lstore, f_aload_n, f_aload, f_astore_n, f_astore, f_iinc, f_iadd, f_isub, f_imul, f_iand, f_ior, f_ixor, f_ishl, f_ishr, f_iushr, f_ladd, f_lsub, f_lmul, f_land, f_lor, f_idiv, f_irem, f_ineg, f_ldiv, f_lshl, f_lcmp, f_i2l, f_l2i, f_i2c, f_dup, f_dup2, f_pop, f_pop2, f_arraylength, f_iaload, f_laload, f_baload, f_iastore, f_lastore, f_bastore, f_getI, f_getL, f_getR, f_getZ, f_putI, f_putL, f_putR, f_putZ, f_icmp_eq, f_if_eq, f_icmp_ne, f_if_ne, f_icmp_lt, f_if_lt, f_icmp_ge, f_if_ge, f_icmp_gt, f_if_gt, f_icmp_le, f_if_le, f_goto, f_tsw, f_lsw, f_ret, f_iret, f_zret, f_lret, f_mmin, f_mmax, f_mminl, f_mmaxl, f_cs0, f_cs1, f_cs2, f_cs3, f_cs4, f_cs5, f_cs6, f_cv0, f_cv1, f_cv2, f_cv3, f_cv4, f_cv5, f_cv6, f_cI, f_cL, f_cR, f_g0, f_s0, f_p0, f_g1, f_s1, f_p1, f_g2, f_s2, f_p2, f_g3, f_s3, f_p3, f_g4, f_s4, f_p4, f_g5, f_s5, f_p5, f_g6, f_s6, f_p6, f_g7, f_s7, f_p7, f_g8, f_s8, f_p8, f_g9, f_s9, f_p9, f_g10, f_s10, f_p10, f_g11, f_s11, f_p11, f_g12, f_s12, f_p12, f_nI, f_nR, f_nX, f_rS, f_pS, f_pN, f_l0, f_l1, f_l2, f_l3, f_l4, f_ctI, f_ctL, f_ctR, f_rc0, f_rc1, f_rc2, f_rc3, f_rc4, f_rc5, f_rc6, f_rc7, f_rc8, f_rc9, f_rc60, c_im8, c_im1, c_i0, c_i1, c_i2, c_i3, c_i4, c_i5, c_i1000000, c_bm6, c_bm5, c_bm2, c_b6, c_b7, c_b8, c_b9, c_b10, c_b12, c_b16, c_b20, c_b24, c_b26, c_b32, c_b40, c_b42, c_b43, c_b48, c_b50, c_b57, c_b59, c_b60, c_b61, c_b63, c_b97, c_b98, c_b99, c_b100, c_b101, c_b102, c_b104, c_b105, c_b107, c_b108, c_b109, c_b110, c_b111, c_b112, c_b115, c_b116, c_b117, c_b122, c_b123, c_b125, c_s200, c_s255, c_s400, c_s1000, c_s1001, c_s1296, c_l0, c_l1, c_Lm1, c_L2, c_L3, c_L5, c_L7, c_L9, c_L10, c_L32, c_L48, c_L96, c_L1000, c_L1000000, c_L1000000000000, Nat.reduceAdd, true_and, and_true, forall_const, eq_self_iff_true, not_true_eq_false, not_false_eq_true, false_implies, true_implies, hk, i32_le, qlen_toInt]
      refine ⟨by decide, fun c1 => ?_, fun c1 => ?_⟩
      · rw [nI_toInt (by omega)] at c1
        omega
      · refine ⟨qin_lit ⟨by rw [nI_toInt (by omega)]; omega, by rw [nI_toInt (by omega)]; omega⟩, ?_⟩
        have e1 : nI n + 1 = nI (n + 1) := nI_1 n
        have e2 : up2 (fillJ J o n) o (nI n).toNatClampNeg 0 = fillJ J o (n + 1) := by
          rw [nI_clamp (by omega)]
          funext a b
          unfold up2 fillJ
          by_cases ha : a = o
          · by_cases hb : b = n
            · simp [ha, hb]
            · by_cases hb2 : b < n
              · simp [ha, hb, hb2, Nat.lt_succ_of_lt hb2]
              · have : ¬ b < n + 1 := by omega
                simp [ha, hb, hb2, this]
          · simp [ha]
        rw [e1, e2]
        exact ih (n + 1) (by omega)
  refine bk_100_0 hG ?_
  simp only [b_100_0, f_nil, f_iconst, f_bipush, f_sipush, f_lconst, f_ldcS, f_ldcI, f_ldc2, f_iload_n, f_iload, f_istore_n, f_istore, f_lload_n, f_lload, f_lstore_n, f_lstore, f_aload_n, f_aload, f_astore_n, f_astore, f_iinc, f_iadd, f_isub, f_imul, f_iand, f_ior, f_ixor, f_ishl, f_ishr, f_iushr, f_ladd, f_lsub, f_lmul, f_land, f_lor, f_idiv, f_irem, f_ineg, f_ldiv, f_lshl, f_lcmp, f_i2l, f_l2i, f_i2c, f_dup, f_dup2, f_pop, f_pop2, f_arraylength, f_iaload, f_laload, f_baload, f_iastore, f_lastore, f_bastore, f_getI, f_getL, f_getR, f_getZ, f_putI, f_putL, f_putR, f_putZ, f_icmp_eq, f_if_eq, f_icmp_ne, f_if_ne, f_icmp_lt, f_if_lt, f_icmp_ge, f_if_ge, f_icmp_gt, f_if_gt, f_icmp_le, f_if_le, f_goto, f_tsw, f_lsw, f_ret, f_iret, f_zret, f_lret, f_mmin, f_mmax, f_mminl, f_mmaxl, f_cs0, f_cs1, f_cs2, f_cs3, f_cs4, f_cs5, f_cs6, f_cv0, f_cv1, f_cv2, f_cv3, f_cv4, f_cv5, f_cv6, f_cI, f_cL, f_cR, f_g0, f_s0, f_p0, f_g1, f_s1, f_p1, f_g2, f_s2, f_p2, f_g3, f_s3, f_p3, f_g4, f_s4, f_p4, f_g5, f_s5, f_p5, f_g6, f_s6, f_p6, f_g7, f_s7, f_p7, f_g8, f_s8, f_p8, f_g9, f_s9, f_p9, f_g10, f_s10, f_p10, f_g11, f_s11, f_p11, f_g12, f_s12, f_p12, f_nI, f_nR, f_nX, f_rS, f_pS, f_pN, f_l0, f_l1, f_l2, f_l3, f_l4, f_ctI, f_ctL, f_ctR, f_rc0, f_rc1, f_rc2, f_rc3, f_rc4, f_rc5, f_rc6, f_rc7, f_rc8, f_rc9, f_rc60, c_im8, c_im1, c_i0, c_i1, c_i2, c_i3, c_i4, c_i5, c_i1000000, c_bm6, c_bm5, c_bm2, c_b6, c_b7, c_b8, c_b9, c_b10, c_b12, c_b16, c_b20, c_b24, c_b26, c_b32, c_b40, c_b42, c_b43, c_b48, c_b50, c_b57, c_b59, c_b60, c_b61, c_b63, c_b97, c_b98, c_b99, c_b100, c_b101, c_b102, c_b104, c_b105, c_b107, c_b108, c_b109, c_b110, c_b111, c_b112, c_b115, c_b116, c_b117, c_b122, c_b123, c_b125, c_s200, c_s255, c_s400, c_s1000, c_s1001, c_s1296, c_l0, c_l1, c_Lm1, c_L2, c_L3, c_L5, c_L7, c_L9, c_L10, c_L32, c_L48, c_L96, c_L1000, c_L1000000, c_L1000000000000, Nat.reduceAdd, true_and, and_true, forall_const, eq_self_iff_true, not_true_eq_false, not_false_eq_true, false_implies, true_implies]
  have := lp (qkd o).2 0 (by omega)
  have e0 : fillJ J o 0 = J := by funext a b; simp [fillJ]
  rw [e0, nI_0] at this
  exact this
end FILL
