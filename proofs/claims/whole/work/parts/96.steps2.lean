def qCp (o k : Nat) : Bool := o == 110 || o == 22 || (o == 100 && k == 14) || (o == 0 && k == 1)
theorem qCp_sc {sc o k : Nat} (hsc : sc = 120 ∨ sc = 140) (h1 : sc ≤ o) (h2 : o ≤ sc + 16) : qCp o k = false := by
  unfold qCp
  simp
  omega
theorem qCp_mp {o k : Nat} (h : mpF o k = true) : qCp o k = false := by
  unfold mpF at h
  unfold qCp
  simp at h ⊢
  omega
def qNd (o k : Nat) : Bool := o == 215 || o == 23
theorem qNd_sc {sc o k : Nat} (hsc : sc = 120 ∨ sc = 140) (h1 : sc ≤ o) (h2 : o ≤ sc + 16) : qNd o k = false := by
  unfold qNd
  simp
  omega
theorem qNd_mp {o k : Nat} (h : mpF o k = true) : qNd o k = false := by
  unfold mpF at h
  unfold qNd
  simp at h ⊢
  omega
section STEPS2
variable {l : Launch} {D : va_G} {cy ad sv : Nat → Nat} {I : Nat → Nat → Int32} {J : Nat → Nat → Int64} {sc it : Nat} {h : HP}
set_option maxHeartbeats 200000 in
theorem byt_and (x : Int32) : ∃ m, m < 256 ∧ x &&& 255 = nI m := by
  refine ⟨x.toBitVec.toNat &&& 255, Nat.lt_of_le_of_lt Nat.and_le_right (by omega), ?_⟩
  apply b_ext
  intro i hi
  rw [b_and, b_nI hi, Nat.testBit_and]
  have : (255 : Int32) = nI 255 := by decide
  rw [this, b_nI hi]
  rfl
set_option maxHeartbeats 200000 in
theorem by4_b (v : Int32) (j : Nat) : ∃ m, m < 256 ∧ by4 v j = nI m := by
  unfold by4
  split <;> exact byt_and _
set_option maxHeartbeats 200000 in
theorem tap_ap {o lo ls n j : Nat} {v : Int32} {T : Nat → Nat} (hne : o ≠ lo) (h : tapT I o T n) : ∃ T', tapT (apK I o lo ls n v j) o T' (n + j) ∧ ∀ k, k < n → T' k = T k := by
  refine ⟨fun k => if k < n then T k else Classical.choose (by4_b v (k - n)), fun k hk => ?_, fun k hk => if_pos hk⟩
  by_cases c : k < n
  · show apK I o lo ls n v j o k = nI (if k < n then T k else _) ∧ (if k < n then T k else _) < 256
    rw [if_pos c]
    unfold apK
    rw [if_neg (by omega), if_neg (fun z => hne z.1)]
    exact h k c
  · show apK I o lo ls n v j o k = nI (if k < n then T k else _) ∧ (if k < n then T k else _) < 256
    rw [if_neg c]
    unfold apK
    rw [if_pos ⟨rfl, by omega, hk⟩]
    have q := Classical.choose_spec (by4_b v (k - n))
    exact ⟨q.2, q.1⟩
/-- the same bytes behind both tapes -/
noncomputable def apT (n : Nat) (v : Int32) (T : Nat → Nat) : Nat → Nat := fun k => if k < n then T k else Classical.choose (by4_b v (k - n))
set_option maxHeartbeats 200000 in
theorem tap_T {o lo ls n j : Nat} {v : Int32} {T : Nat → Nat} (hne : o ≠ lo) (h : tapT I o T n) : tapT (apK I o lo ls n v j) o (apT n v T) (n + j) := fun k hk => by
  unfold apT
  by_cases c : k < n
  · rw [if_pos c]
    unfold apK
    rw [if_neg (by omega), if_neg (fun z => hne z.1)]
    exact h k c
  · rw [if_neg c]
    unfold apK
    rw [if_pos ⟨rfl, by omega, hk⟩]
    have q := Classical.choose_spec (by4_b v (k - n))
    exact ⟨q.2, q.1⟩
set_option maxHeartbeats 200000 in
theorem ap_fr {q : Nat → Nat → Bool} {I' : Nat → Nat → Int32} {o lo ls n j : Nat} {v : Int32} (h : fr q I I') (h1 : ∀ k, q o k = true) (h2 : q lo ls = true) : fr q I (apK I' o lo ls n v j) := fun a b z => by
  unfold apK
  rw [if_neg (fun y => by rw [y.1, h1] at z; cases z), if_neg (fun y => by rw [y.1, y.2, h2] at z; cases z)]
  exact h a b z
set_option maxHeartbeats 200000 in
theorem fed_T {o lo ls n : Nat} {a b c d e : Int32} {T : Nat → Nat} (hne : o ≠ lo) (h : tapT I o T n) : tapT (fed I o lo ls n a b c d e) o (apT (n + 16) e (apT (n + 12) d (apT (n + 8) c (apT (n + 4) b (apT n a T))))) (n + 20) := tap_T hne (tap_T hne (tap_T hne (tap_T hne (tap_T hne h))))
set_option maxHeartbeats 200000 in
theorem fed_fr {q : Nat → Nat → Bool} {I' : Nat → Nat → Int32} {o lo ls n : Nat} {a b c d e : Int32} (h : fr q I I') (h1 : ∀ k, q o k = true) (h2 : q lo ls = true) : fr q I (fed I' o lo ls n a b c d e) := ap_fr (ap_fr (ap_fr (ap_fr (ap_fr h h1 h2) h1 h2) h1 h2) h1 h2) h1 h2
set_option maxHeartbeats 200000 in
theorem fed_len {o lo ls n : Nat} {a b c d e : Int32} (hne : lo ≠ o) : fed I o lo ls n a b c d e lo ls = nI (n + 20) := apK_len hne
set_option maxHeartbeats 400000 in
theorem st_feed {a b c d e : Int32} (hr : Rel h) : StepI l D cy ad sv 69 144 [.int a, .int b, .int c, .int d, .int e] h := by
  obtain ⟨I, J, sc, it, rfl, h⟩ := hr
  have h9 := h
  obtain ⟨hsc, h0, a1, a2, a3, a4, a5, a6, a7, a8, a9⟩ := h
  obtain ⟨T, n, n4, t1, t2, t3, t4⟩ := a1
  refine x_feed t1 n4 (fun z => ⟨_, rfl, ?_⟩) (fun z => ⟨_, rfl, ?_⟩)
  · have f1 : fr qTp I (fed I 161 160 1 n a b c d e) := fed_fr fr.rf (fun _ => rfl) rfl
    have g1 : fr (fun o k => o == 161 || (o == 160 && k == 1)) I (fed I 161 160 1 n a b c d e) := fed_fr fr.rf (fun _ => rfl) rfl
    have g2 : fr (fun o k => o == 57 || (o == 0 && k == 57)) (fed I 161 160 1 n a b c d e) (fed (fed I 161 160 1 n a b c d e) 57 0 57 n a b c d e) := fed_fr fr.rf (fun _ => rfl) rfl
    refine m_feed (by rw [g1 0 0 rfl]; exact h0) (by rw [g1 0 57 rfl]; exact t2) n4 (fun _ => ⟨rfl, ?_⟩) (fun y => absurd z y)
    have hf : fr qTp I (fed (fed I 161 160 1 n a b c d e) 57 0 57 n a b c d e) := fed_fr f1 (fun _ => rfl) rfl
    refine ⟨_, J, sc, it, rfl, hsc, by rw [hf 0 0 rfl]; exact h0, ?_, R_name_fr hf (fun _ => rfl) (fun _ => rfl) (fun _ => rfl) (fun _ => rfl) a2, R_stat_fr hf rfl rfl a3, R_faul_fr hf rfl rfl a4, R_ord_fr hf rfl rfl (fun _ => rfl) (fun _ => rfl) a5, R_lat_fr hf rfl rfl (fun _ => rfl) (fun _ => rfl) a6, R_prog_fr hf rfl (fun o k => qTp_mp) (fun o k => qTp_sc hsc) (fun _ => rfl) (fun _ => rfl) (fun _ => rfl) rfl a7, R_wi_fr hf (fun _ => rfl) a8, a9⟩
    refine ⟨apT (n + 16) e (apT (n + 12) d (apT (n + 8) c (apT (n + 4) b (apT n a T)))), n + 20, z, ?_, fed_len (by decide), fun k hk => ?_, fed_T (by decide) (fun k hk => by rw [g1 57 k rfl]; exact t4 k hk)⟩
    · rw [g2 160 1 rfl]; exact fed_len (by decide)
    · rw [g2 161 k rfl]; exact fed_T (by decide) t3 k hk
  · exact m_feed h0 t2 n4 (fun y => absurd y z) (fun _ => ⟨rfl, _, J, sc, it, rfl, h9⟩)
set_option maxHeartbeats 200000 in
theorem capT_up {o x : Nat} {v : Int32} {cp : Nat → Option Nat} (h : capT I o cp) (hv : -1 ≤ v.toInt ∧ v.toInt ≤ 1000000) : capT (up2 I o x v) o (upO cp x (if v = -1 then none else some v.toInt.toNat)) := fun q hq => by
  by_cases e : q = x
  · rw [e, up2_at, upO_at]
    by_cases z : v = -1
    · rw [if_pos z]; exact Or.inl ⟨rfl, z⟩
    · rw [if_neg z]
      have n0 : 0 ≤ v.toInt := by
        have : v.toInt ≠ -1 := fun w => z (i32_eq.mpr (by rw [n_m1]; exact w))
        omega
      exact Or.inr ⟨_, rfl, (nI_tn n0).symm, by omega⟩
  · rw [up2_nj e, upO_ne e]; exact h q hq
set_option maxHeartbeats 400000 in
theorem st_cap {a v : Int32} (hr : Rel h) : StepI l D cy ad sv 73 137 [.int a, .int v] h := by
  obtain ⟨I, J, sc, it, rfl, h⟩ := hr
  have h9 := h
  obtain ⟨hsc, h0, a1, a2, a3, a4, a5, a6, a7, a8, a9⟩ := h
  obtain ⟨np, n8, p1, p2, -, -, p5, p6, p7, -⟩ := pr_np a7
  have te : (nI np).toInt = np := nI_toInt (by omega)
  refine x_cap hsc (by rw [p1, te]; omega) (fun z => ⟨_, rfl, ?_⟩) (fun z y => ⟨_, rfl, ?_⟩) (fun z y => ⟨_, rfl, ?_⟩)
  · refine m_cap (by rw [up2_ne' (by decide)]; exact h0) (by rw [up2_ne' (by decide), p2, te]; omega) (fun _ => ⟨rfl, ?_⟩) (fun w => absurd w z) (fun w => absurd w z)
    refine ⟨_, J, sc, it, rfl, Rel_st h9 ((fr.rf.up rfl).up rfl) ?_⟩
    unfold R_stat
    rw [up2_ne' (by decide), up2_at, up2_at]
  · refine m_cap (by rw [up2_ne' (by decide)]; exact h0) (by rw [up2_ne' (by decide), p2, te]; omega) (fun w => absurd z w) (fun _ _ => ⟨rfl, ?_⟩) (fun _ w => absurd ⟨w.2.1, by have := w.2.2; rw [up2_ne' (by decide), p2] at this; rw [p1]; exact this⟩ y)
    refine ⟨_, J, sc, it, rfl, Rel_st h9 ((fr.rf.up rfl).up rfl) ?_⟩
    unfold R_stat
    rw [up2_ne' (by decide), up2_at, up2_at]
  · have y2 : a.toInt < np := by have := y.2; rw [p1, te] at this; exact this
    have n4 : ¬ I 0 4 = 0 := fun w => by have := p6 w; have := y.1; omega
    refine m_cap (by rw [up2_ne' (by decide), up2_ne' (by decide)]; exact h0) (by rw [up2_ne' (by decide), up2_ne' (by decide), p2, te]; omega) (fun w => absurd z w) (fun _ w => absurd ⟨by rw [up2_ne' (by decide), up2_ne' (by decide)]; exact n4, y.1, by rw [up2_ne' (by decide), up2_ne' (by decide), p2, te]; exact y2⟩ w) (fun _ _ => ⟨?_, ?_⟩)
    · rw [up2_ne' (by decide), up2_ne' (by decide), p7 _ (by have := y.1; omega)]
    · have hf : fr qCp I (up2 (up2 (up2 (up2 I 110 a.toInt.toNat v) 100 14 0) 22 a.toInt.toNat v) 0 1 0) := (((fr.rf.up rfl).up rfl).up rfl).up rfl
      refine ⟨_, J, sc, it, rfl, hsc, by rw [hf 0 0 rfl]; exact h0, R_tape_fr hf rfl rfl (fun _ => rfl) (fun _ => rfl) a1, R_name_fr hf (fun _ => rfl) (fun _ => rfl) (fun _ => rfl) (fun _ => rfl) a2, ?_, R_faul_fr hf rfl rfl a4, R_ord_fr hf rfl rfl (fun _ => rfl) (fun _ => rfl) a5, R_lat_fr hf rfl rfl (fun _ => rfl) (fun _ => rfl) a6, ?_, R_wi_fr hf (fun _ => rfl) a8, a9⟩
      · unfold R_stat
        rw [up2_ne' (by decide), up2_ne' (by decide), up2_at, up2_at]
      · rcases a7 with a7 | ⟨p, T, n, cp, g, b1, b2, b3, b4, b5, b6, b7, b8⟩
        · exact absurd a7.2.1 n4
        · refine Or.inr ⟨p, T, n, upO cp a.toInt.toNat (if v = -1 then none else some v.toInt.toNat), g, by rw [hf 100 8 rfl]; exact b1, cWh_eq b2 (fun o x1 x2 => funext (fun k => hf o k (qCp_sc hsc x1 x2))), mWh_fr hf (fun o k => qCp_mp) b3, ?_, ?_, fun q hq => ?_, fun k hk => by rw [hf 191 k rfl]; exact b7 k hk, by rw [hf 190 1 rfl]; exact b8⟩
          · have := capT_up (x := a.toInt.toNat) b4 z
            intro q hq
            rw [up2_ne' (by decide), up2_ne' (by decide), up2_ne' (by decide)]
            exact this q hq
          · have e5 : capT (up2 (up2 I 110 a.toInt.toNat v) 100 14 0) 22 cp := fun q hq => by rw [up2_ne' (by decide), up2_ne' (by decide)]; exact b5 q hq
            have := capT_up (x := a.toInt.toNat) e5 z
            intro q hq
            rw [up2_ne' (show (22 : Nat) ≠ 0 by decide)]
            exact this q hq
          · have e6 : np = p.np := by
              have := b2.2.1
              rw [p1] at this
              have n8' := g.2.1.np
              exact (nI_eq (by omega) (by omega)).mp this
            rw [upO_ne (by have := y.1; omega)]
            exact b6 q hq
set_option maxHeartbeats 200000 in
theorem ord_row {o n : Nat} {a b c d : Int32} {os : Nat → Nat → Nat} (h : ordT I o n os) (hn : num4 a b c d) : ordT (row4 I o (4 * n) a b c d) o (n + 1) (fun i k => if i = n then (if k = 0 then a.toInt.toNat else if k = 1 then b.toInt.toNat else if k = 2 then c.toInt.toNat else d.toInt.toNat) else os i k) := by
  intro i hi k hk
  show row4 I o (4 * n) a b c d o (4 * i + k) = nI (if i = n then _ else os i k) ∧ (if i = n then _ else os i k) ≤ 1000
  obtain ⟨n1, n2, n3, n4⟩ := hn
  unfold row4
  by_cases e : i = n
  · subst e
    rw [if_pos rfl]
    rcases (show k = 0 ∨ k = 1 ∨ k = 2 ∨ k = 3 by omega) with z | z | z | z <;> subst z
    · rw [up2_nj (by omega), up2_nj (by omega), up2_nj (by omega), Nat.add_zero, up2_at, if_pos rfl, nI_tn n1.1]
      exact ⟨rfl, by have := n1.2; omega⟩
    · rw [up2_nj (by omega), up2_nj (by omega), up2_at, if_neg (by omega), if_pos rfl, nI_tn n2.1]
      exact ⟨rfl, by have := n2.2; omega⟩
    · rw [up2_nj (by omega), up2_at, if_neg (by omega), if_neg (by omega), if_pos rfl, nI_tn n3.1]
      exact ⟨rfl, by have := n3.2; omega⟩
    · rw [up2_at, if_neg (by omega), if_neg (by omega), if_neg (by omega), nI_tn n4.1]
      exact ⟨rfl, by have := n4.2; omega⟩
  · rw [if_neg e, up2_nj (by omega), up2_nj (by omega), up2_nj (by omega), up2_nj (by omega)]
    exact h i (by omega) k hk
set_option maxHeartbeats 200000 in
theorem row4_fr {q : Nat → Nat → Bool} {I' : Nat → Nat → Int32} {o n : Nat} {a b c d : Int32} (h : fr q I I') (h1 : ∀ k, q o k = true) : fr q I (row4 I' o n a b c d) := (((h.up (h1 _)).up (h1 _)).up (h1 _)).up (h1 _)
set_option maxHeartbeats 400000 in
theorem st_ordinary {a b c d : Int32} (hr : Rel h) : StepI l D cy ad sv 80 129 [.int a, .int b, .int c, .int d] h := by
  obtain ⟨I, J, sc, it, rfl, h⟩ := hr
  have h9 := h
  obtain ⟨hsc, h0, a1, a2, a3, a4, a5, a6, a7, a8, a9⟩ := h
  obtain ⟨no, os, o1, o2, o3, o4, o5⟩ := a5
  refine x_ordinary o2 o1 (fun z => ⟨_, rfl, ?_⟩) (fun z y => ⟨_, rfl, ?_⟩) (fun z y => ⟨_, rfl, ?_⟩)
  · refine m_ordinary (by rw [up2_ne' (by decide)]; exact h0) (by rw [up2_ne' (by decide)]; exact o3) o1 (fun _ => ⟨rfl, ?_⟩) (fun w => absurd w z) (fun w => absurd w z)
    refine ⟨_, J, sc, it, rfl, Rel_st h9 ((fr.rf.up rfl).up rfl) ?_⟩
    unfold R_stat
    rw [up2_ne' (by decide), up2_at, up2_at]
  · refine m_ordinary (by rw [up2_ne' (by decide)]; exact h0) (by rw [up2_ne' (by decide)]; exact o3) o1 (fun w => absurd z w) (fun _ _ => ⟨rfl, ?_⟩) (fun _ w => absurd y (by omega))
    refine ⟨_, J, sc, it, rfl, Rel_st h9 ((fr.rf.up rfl).up rfl) ?_⟩
    unfold R_stat
    rw [up2_ne' (by decide), up2_at, up2_at]
  · have f1 : fr qOr I (up2 (up2 (row4 I 213 (4 * no) a b c d) 210 3 (nI (no + 1))) 100 14 0) := ((row4_fr fr.rf (fun _ => rfl)).up rfl).up rfl
    have g1 : fr (fun o k => o == 213 || (o == 210 && k == 3) || (o == 100 && k == 14)) I (up2 (up2 (row4 I 213 (4 * no) a b c d) 210 3 (nI (no + 1))) 100 14 0) := ((row4_fr fr.rf (fun _ => rfl)).up rfl).up rfl
    refine m_ordinary (by rw [g1 0 0 rfl]; exact h0) (by rw [g1 0 30 rfl]; exact o3) o1 (fun w => absurd z w) (fun _ w => absurd y (by omega)) (fun _ _ => ⟨rfl, ?_⟩)
    have x1 : (up2 (up2 (row4 I 213 (4 * no) a b c d) 210 3 (nI (no + 1))) 100 14 0) 210 3 = nI (no + 1) := by rw [up2_ne' (by decide), up2_at]
    have x2 : (up2 (up2 (row4 I 213 (4 * no) a b c d) 210 3 (nI (no + 1))) 100 14 0) 100 14 = 0 := up2_at
    have x3 : ordT (up2 (up2 (row4 I 213 (4 * no) a b c d) 210 3 (nI (no + 1))) 100 14 0) 213 (no + 1) (fun i k => if i = no then (if k = 0 then a.toInt.toNat else if k = 1 then b.toInt.toNat else if k = 2 then c.toInt.toNat else d.toInt.toNat) else os i k) := fun i hi k hk => by rw [up2_ne' (by decide), up2_ne' (by decide)]; exact ord_row o4 z i hi k hk
    have x4 : ordT (up2 (up2 (row4 I 213 (4 * no) a b c d) 210 3 (nI (no + 1))) 100 14 0) 32 no os := fun i hi k hk => by rw [g1 32 _ rfl]; exact o5 i hi k hk
    generalize up2 (up2 (row4 I 213 (4 * no) a b c d) 210 3 (nI (no + 1))) 100 14 0 = I1 at f1 g1 x1 x2 x3 x4 ⊢
    have hf : fr qOr I (up2 (up2 (row4 I1 32 (4 * no) a b c d) 0 30 (nI (no + 1))) 0 1 0) := ((row4_fr f1 (fun _ => rfl)).up rfl).up rfl
    have g2 : fr (fun o k => o == 32 || (o == 0 && (k == 30 || k == 1))) I1 (up2 (up2 (row4 I1 32 (4 * no) a b c d) 0 30 (nI (no + 1))) 0 1 0) := ((row4_fr fr.rf (fun _ => rfl)).up rfl).up rfl
    refine ⟨_, J, sc, it, rfl, hsc, by rw [hf 0 0 rfl]; exact h0, R_tape_fr hf rfl rfl (fun _ => rfl) (fun _ => rfl) a1, R_name_fr hf (fun _ => rfl) (fun _ => rfl) (fun _ => rfl) (fun _ => rfl) a2, ?_, R_faul_fr hf rfl rfl a4, ?_, R_lat_fr hf rfl rfl (fun _ => rfl) (fun _ => rfl) a6, R_prog_fr hf rfl (fun o k => qOr_mp) (fun o k => qOr_sc hsc) (fun _ => rfl) (fun _ => rfl) (fun _ => rfl) rfl a7, R_wi_fr hf (fun _ => rfl) a8, a9⟩
    · unfold R_stat
      rw [g2 100 14 rfl, x2, up2_at]
    · refine ⟨no + 1, (fun i k => if i = no then (if k = 0 then a.toInt.toNat else if k = 1 then b.toInt.toNat else if k = 2 then c.toInt.toNat else d.toInt.toNat) else os i k), by omega, by rw [g2 210 3 rfl]; exact x1, by rw [up2_nj (by decide), up2_at], fun i hi k hk => by rw [g2 213 _ rfl]; exact x3 i hi k hk, fun i hi k hk => by rw [up2_ne' (by decide), up2_ne' (by decide)]; exact ord_row x4 z i hi k hk⟩
/-! locks -/
theorem ancN_W {p : PS} {T : Nat → Nat} {n : Nat} (hW : pW T n p) : ∀ {m : Nat} {o : Option Nat}, (∀ q, o = some q → q < p.ns) → ancN p.par m o → ancN (parW p) m o
  | m, none, _, _ => ancN_none m
  | 0, some _, _, h => h.elim
  | m + 1, some q, hN, h => by
    have hq := hN q rfl
    show ancN (parW p) m (parW p q)
    rw [parW_eq hq]
    exact ancN_W hW (fun q' hq' => by have := hW.par q q' hq hq'; omega) h
set_option maxHeartbeats 400000 in
theorem b_findLocks {p : PS} {T : Nat → Nat} {n : Nat} {cp : Nat → Option Nat} {Q : Option Value → HP → Prop} (g : PG p T n) (hp : R_pr1 I sc p cp) (hw : R_wi I) (h1 : ∀ I', fr qLk I I' → R_wi I' → natT I' 36 (lkH p) 8 → Q none (I', J, rr sc it)) : qC l D cy ad sv 140 [.ref 0] (I, J, rr sc it) Q := by
  have hT := tW_of g.2.1 g.2.2.2.1 g.2.2.2.2.1
  obtain ⟨w0, hw0⟩ := hw
  have hm := hp.2.2.1
  refine m_findLocks (w0 := w0) (mWh_prg hm g) (fun d hd => hT.2.2.2.1.2.1 d (by omega)) hm.2.2.1 hm.2.1 hw0 (fun I' f n36 n35 => ?_)
  refine h1 I' f n35 (fun a ha => ?_)
  have q := n36 a ha
  have e : lkH p a = haM p.K p.E p.A (pSw p) (fun d => pSw p (d + 1)) p.ns p.nd w0 a := by
    unfold lkH
    refine locks_eq hT (fun k hk => ?_) w0 ha
    rw [parW_eq hk]
    exact ancN_W g.2.1 (fun q hq => by have := g.2.1.par k q hk hq; omega) (g.2.2.2.1.2.2.2.2.2.2.2.2.1.1 k hk)
  rw [e]
  exact q
set_option maxHeartbeats 400000 in
theorem Rel_lk {I' : Nat → Nat → Int32} (h : RelI I J sc) (hf : fr qLk I I') (hw : R_wi I') : RelI I' J sc := by
  obtain ⟨hsc, h0, a1, a2, a3, a4, a5, a6, a7, a8, a9⟩ := h
  exact ⟨hsc, by rw [hf 0 0 rfl]; exact h0, R_tape_fr hf rfl rfl (fun _ => rfl) (fun _ => rfl) a1, R_name_fr hf (fun _ => rfl) (fun _ => rfl) (fun _ => rfl) (fun _ => rfl) a2, R_stat_fr hf rfl rfl a3, R_faul_fr hf rfl rfl a4, R_ord_fr hf rfl rfl (fun _ => rfl) (fun _ => rfl) a5, R_lat_fr hf rfl rfl (fun _ => rfl) (fun _ => rfl) a6, R_prog_fr hf rfl (fun o k => qLk_mp) (fun o k => qLk_sc hsc) (fun _ => rfl) (fun _ => rfl) (fun _ => rfl) rfl a7, hw, a9⟩
set_option maxHeartbeats 400000 in
theorem st_ahead {a m : Int32} (hr : Rel h) : StepI l D cy ad sv 83 141 [.int a, .int m] h := by
  obtain ⟨I, J, sc, it, rfl, h⟩ := hr
  have h9 := h
  obtain ⟨hsc, h0, a1, a2, a3, a4, a5, a6, a7, a8, a9⟩ := h
  rcases a7 with a7 | ⟨p, T, n, cp, g, a7⟩
  · refine x_ahead (fun _ => ⟨_, rfl, ?_⟩) (fun z => absurd a7.1 z)
    exact m_ahead (h := fun _ => 0) (P := fun _ => True) h0 (fun z => absurd a7.2.1 z) (fun _ => ⟨rfl, _, J, sc, it, rfl, h9⟩) (fun z => absurd a7.2.1 z)
  · have n8 : ¬ I 100 8 = 0 := by rw [a7.1]; exact one_ne
    have n4 : ¬ I 0 4 = 0 := by rw [a7.2.2.1.1]; exact one_ne
    refine x_ahead (fun z => ⟨_, rfl, ?_⟩) (fun _ z1 z2 => ⟨_, rfl, ?_⟩)
    · refine m_ahead (h := lkH p) (P := fun I' => fr qLk I I' ∧ R_wi I') h0 (fun _ Q' hQ => b_findLocks g a7 a8 (fun I' f w q => hQ I' ⟨f, w⟩ q)) (fun _ => ⟨rfl, _, J, sc, it, rfl, h9⟩) (fun _ y1 y2 => absurd ⟨n8, y1, y2⟩ z)
    · refine m_ahead (h := lkH p) (P := fun I' => fr qLk I I' ∧ R_wi I') h0 (fun _ Q' hQ => b_findLocks g a7 a8 (fun I' f w q => hQ I' ⟨f, w⟩ q)) (fun y => absurd ⟨n4, z1, z2⟩ y) (fun _ y1 y2 I' hP q => ⟨?_, _, J, sc, it, rfl, Rel_lk h9 hP.1 hP.2⟩)
      have q1 := a7.2.2.2.2.2.2.1 a.toInt.toNat (by have := z1.1; have := z1.2; omega)
      rw [q1.1]
      have e1 : m = nI m.toInt.toNat := (nI_tn z2.1).symm
      have e2 := shr1 m.toInt.toNat (by have := z2.1; have := z2.2; omega) _ q1.2
      rw [← e1] at e2
      rw [e2]
set_option maxHeartbeats 400000 in
theorem st_tangled (hr : Rel h) : StepI l D cy ad sv 84 142 [] h := by
  obtain ⟨I, J, sc, it, rfl, h⟩ := hr
  have h9 := h
  obtain ⟨hsc, h0, a1, a2, a3, a4, a5, a6, a7, a8, a9⟩ := h
  refine x_tangled ⟨_, rfl, ?_⟩
  rcases a7 with a7 | ⟨p, T, n, cp, g, a7⟩
  · refine m_tangled (h := fun _ => 0) (P := fun _ => True) h0 (fun _ _ _ _ => trivial) (fun z => absurd a7.2.1 z) (fun _ => ⟨?_, _, J, sc, it, rfl, h9⟩) (fun z => absurd a7.2.1 z)
    rw [a7.2.2.2.2.2.2.2.2.2.2.1]
  · have n4 : ¬ I 0 4 = 0 := by rw [a7.2.2.1.1]; exact one_ne
    refine m_tangled (h := lkH p) (P := fun I' => fr qLk I I' ∧ R_wi I') h0 (fun I' I2 hP hf => ⟨hP.1.ups (fun o k z => ?_), ?_⟩) (fun _ Q' hQ => b_findLocks g a7 a8 (fun I' f w q => hQ I' ⟨f, w⟩ q)) (fun z => absurd z n4) (fun _ I' hP _ => ⟨?_, _, J, sc, it, rfl, Rel_lk h9 hP.1 hP.2⟩)
    · have : o ≠ 36 := fun w => by rw [w] at z; cases z
      rw [hf o this]
    · obtain ⟨w, hw⟩ := hP.2
      exact ⟨w, fun k hk => by rw [hf 35 (by decide)]; exact hw k hk⟩
    · rw [a7.2.2.2.2.2.2.2]
end STEPS2
