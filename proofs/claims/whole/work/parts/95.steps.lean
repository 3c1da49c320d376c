/-! a call of both: the same answer, and the relation again -/
def StepI (l : Launch) (D : va_G) (cy ad sv : Nat → Nat) (ix im : Nat) (as : List Value) (h : HP) : Prop := qC l D cy ad sv ix (.ref 100 :: as) h (fun v h1 => ∃ r : Int32, v = some (.int r) ∧ qC l D cy ad sv im (.ref 0 :: as) h1 (fun v2 h2 => v2 = some (.int r) ∧ Rel h2))
def StepJ (l : Launch) (D : va_G) (cy ad sv : Nat → Nat) (ix im : Nat) (as : List Value) (h : HP) : Prop := qC l D cy ad sv ix (.ref 100 :: as) h (fun v h1 => ∃ r : Int64, v = some (.long r) ∧ qC l D cy ad sv im (.ref 0 :: as) h1 (fun v2 h2 => v2 = some (.long r) ∧ Rel h2))
def qNm (o k : Nat) : Bool := o == 201 || o == 202 || o == 3 || o == 4 || (o == 100 && k == 14) || (o == 0 && k == 1)
theorem qNm_sc {sc o k : Nat} (hsc : sc = 120 ∨ sc = 140) (h1 : sc ≤ o) (h2 : o ≤ sc + 16) : qNm o k = false := by
  unfold qNm
  simp
  omega
theorem qNm_mp {o k : Nat} (h : mpF o k = true) : qNm o k = false := by
  unfold mpF at h
  unfold qNm
  simp at h ⊢
  omega
def qSt (o k : Nat) : Bool := (o == 100 && k == 14) || (o == 0 && k == 1)
theorem qSt_sc {sc o k : Nat} (hsc : sc = 120 ∨ sc = 140) (h1 : sc ≤ o) (h2 : o ≤ sc + 16) : qSt o k = false := by
  unfold qSt
  simp
  omega
theorem qSt_mp {o k : Nat} (h : mpF o k = true) : qSt o k = false := by
  unfold mpF at h
  unfold qSt
  simp at h ⊢
  omega
def qTp (o k : Nat) : Bool := o == 161 || o == 57 || (o == 160 && k == 1) || (o == 0 && k == 57)
theorem qTp_sc {sc o k : Nat} (hsc : sc = 120 ∨ sc = 140) (h1 : sc ≤ o) (h2 : o ≤ sc + 16) : qTp o k = false := by
  unfold qTp
  simp
  omega
theorem qTp_mp {o k : Nat} (h : mpF o k = true) : qTp o k = false := by
  unfold mpF at h
  unfold qTp
  simp at h ⊢
  omega
def qOr (o k : Nat) : Bool := o == 213 || o == 32 || (o == 210 && k == 3) || (o == 0 && k == 30) || (o == 100 && k == 14) || (o == 0 && k == 1)
theorem qOr_sc {sc o k : Nat} (hsc : sc = 120 ∨ sc = 140) (h1 : sc ≤ o) (h2 : o ≤ sc + 16) : qOr o k = false := by
  unfold qOr
  simp
  omega
theorem qOr_mp {o k : Nat} (h : mpF o k = true) : qOr o k = false := by
  unfold mpF at h
  unfold qOr
  simp at h ⊢
  omega
def qLk (o k : Nat) : Bool := o == 35 || o == 36
theorem qLk_sc {sc o k : Nat} (hsc : sc = 120 ∨ sc = 140) (h1 : sc ≤ o) (h2 : o ≤ sc + 16) : qLk o k = false := by
  unfold qLk
  simp
  omega
theorem qLk_mp {o k : Nat} (h : mpF o k = true) : qLk o k = false := by
  unfold mpF at h
  unfold qLk
  simp at h ⊢
  omega
theorem nI_tn {x : Int32} (h : 0 ≤ x.toInt) : nI x.toInt.toNat = x := by
  have := i32_rng x
  rw [i32_eq, nI_toInt (by omega)]
  omega
section STEPS
variable {l : Launch} {D : va_G} {cy ad sv : Nat → Nat} {I : Nat → Nat → Int32} {J : Nat → Nat → Int64} {sc it : Nat} {h : HP}
set_option maxHeartbeats 150000 in
theorem szT_up {o k : Nat} {sz : Nat → Nat} {s : Int32} (h : szT I o sz) (hs : rng s 5) : szT (up2 I o k s) o (upN sz k s.toInt.toNat) := fun j hj => by
  by_cases e : j = k
  · rw [e, up2_at, upN_at, nI_tn hs.1]
    exact ⟨rfl, by have := hs.2; omega⟩
  · rw [up2_nj e, upN_ne e]; exact h j hj
set_option maxHeartbeats 150000 in
theorem wtT_up {o k : Nat} {wt : Nat → Nat} {s : Int32} (h : wtT I o wt) (hs : rng s 9) : wtT (up2 I o k s) o (upN wt k s.toInt.toNat) := fun j hj => by
  by_cases e : j = k
  · rw [e, up2_at, upN_at, nI_tn hs.1]
    exact ⟨rfl, by have := hs.2; omega⟩
  · rw [up2_nj e, upN_ne e]; exact h j hj
set_option maxHeartbeats 150000 in
theorem szT_ne {o o' k : Nat} {sz : Nat → Nat} {s : Int32} (h : szT I o sz) (hne : o ≠ o') : szT (up2 I o' k s) o sz := fun j hj => by rw [up2_ne' hne]; exact h j hj
set_option maxHeartbeats 150000 in
theorem wtT_ne {o o' k : Nat} {sz : Nat → Nat} {s : Int32} (h : wtT I o sz) (hne : o ≠ o') : wtT (up2 I o' k s) o sz := fun j hj => by rw [up2_ne' hne]; exact h j hj
set_option maxHeartbeats 150000 in
theorem Rel_st {I' : Nat → Nat → Int32} (h : RelI I J sc) (hf : fr qSt I I') (hs : R_stat I') : RelI I' J sc := by
  obtain ⟨hsc, h0, a1, a2, a3, a4, a5, a6, a7, a8, a9⟩ := h
  exact ⟨hsc, by rw [hf 0 0 rfl]; exact h0, R_tape_fr hf rfl rfl (fun _ => rfl) (fun _ => rfl) a1, R_name_fr hf (fun _ => rfl) (fun _ => rfl) (fun _ => rfl) (fun _ => rfl) a2, hs, R_faul_fr hf rfl rfl a4, R_ord_fr hf rfl rfl (fun _ => rfl) (fun _ => rfl) a5, R_lat_fr hf rfl rfl (fun _ => rfl) (fun _ => rfl) a6, R_prog_fr hf rfl (fun o k => qSt_mp) (fun o k => qSt_sc hsc) (fun _ => rfl) (fun _ => rfl) (fun _ => rfl) rfl a7, R_wi_fr hf (fun _ => rfl) a8, a9⟩
set_option maxHeartbeats 150000 in
theorem st_name {a b c : Int32} (hr : Rel h) : StepI l D cy ad sv 68 109 [.int a, .int b, .int c] h := by
  obtain ⟨I, J, sc, it, rfl, h⟩ := hr
  have h9 := h
  obtain ⟨hsc, h0, a1, a2, a3, a4, a5, a6, a7, a8, a9⟩ := h
  refine x_name (fun z => ⟨0, rfl, ?_⟩) (fun z => ⟨-1, rfl, ?_⟩)
  · refine m_name (by rw [up2_ne' (by decide), up2_ne' (by decide), up2_ne' (by decide)]; exact h0) (fun _ => ⟨rfl, ?_⟩) (fun y => absurd z y)
    have hf : fr qNm I (up2 (up2 (up2 (up2 (up2 (up2 I 201 a.toInt.toNat b) 202 a.toInt.toNat c) 100 14 0) 3 a.toInt.toNat b) 4 a.toInt.toNat c) 0 1 0) := (((((fr.rf.up rfl).up rfl).up rfl).up rfl).up rfl).up rfl
    refine ⟨_, J, sc, it, rfl, hsc, by rw [hf 0 0 rfl]; exact h0, R_tape_fr hf rfl rfl (fun _ => rfl) (fun _ => rfl) a1, ?_, ?_, R_faul_fr hf rfl rfl a4, R_ord_fr hf rfl rfl (fun _ => rfl) (fun _ => rfl) a5, R_lat_fr hf rfl rfl (fun _ => rfl) (fun _ => rfl) a6, R_prog_fr hf rfl (fun o k => qNm_mp) (fun o k => qNm_sc hsc) (fun _ => rfl) (fun _ => rfl) (fun _ => rfl) rfl a7, R_wi_fr hf (fun _ => rfl) a8, a9⟩
    · obtain ⟨sz, wt, s1, s2, w1, w2⟩ := a2
      refine ⟨upN sz a.toInt.toNat b.toInt.toNat, upN wt a.toInt.toNat c.toInt.toNat, ?_, ?_, ?_, ?_⟩
      · exact szT_ne (szT_ne (szT_ne (szT_ne (szT_ne (szT_up s1 z.2.1) (by decide)) (by decide)) (by decide)) (by decide)) (by decide)
      · exact szT_ne (szT_ne (szT_up (szT_ne (szT_ne (szT_ne s2 (by decide)) (by decide)) (by decide)) z.2.1) (by decide)) (by decide)
      · exact wtT_ne (wtT_ne (wtT_ne (wtT_ne (wtT_up (wtT_ne w1 (by decide)) z.2.2) (by decide)) (by decide)) (by decide)) (by decide)
      · exact wtT_ne (wtT_up (wtT_ne (wtT_ne (wtT_ne (wtT_ne w2 (by decide)) (by decide)) (by decide)) (by decide)) z.2.2) (by decide)
    · unfold R_stat
      rw [up2_ne' (by decide), up2_ne' (by decide), up2_ne' (by decide), up2_at, up2_at]
  · refine m_name (by rw [up2_ne' (by decide)]; exact h0) (fun y => absurd y z) (fun _ => ⟨rfl, ?_⟩)
    refine ⟨_, J, sc, it, rfl, Rel_st h9 ((fr.rf.up rfl).up rfl) ?_⟩
    unfold R_stat
    rw [up2_ne' (by decide), up2_at, up2_at]
set_option maxHeartbeats 150000 in
theorem st_end {a : Int32} (hr : Rel h) : StepI l D cy ad sv 70 145 [.int a] h := by
  obtain ⟨I, J, sc, it, rfl, h⟩ := hr
  have h9 := h
  obtain ⟨hsc, h0, a1, a2, a3, a4, a5, a6, a7, a8, a9⟩ := h
  obtain ⟨T, n, n4, t1, t2, t3, t4⟩ := a1
  have te : (nI n).toInt = n := nI_toInt (by omega)
  refine x_end (fun z1 z2 => ⟨a, rfl, ?_⟩) (fun z => ⟨-1, rfl, ?_⟩)
  · rw [t1, te] at z2
    refine m_end (by rw [up2_ne' (by decide)]; exact h0) (fun _ _ => ⟨rfl, ?_⟩) (fun y => absurd ⟨z1, by rw [up2_ne' (by decide), t2, te]; exact z2⟩ y)
    have hf : fr qTp I (up2 (up2 I 160 1 a) 0 57 a) := (fr.rf.up rfl).up rfl
    refine ⟨_, J, sc, it, rfl, hsc, by rw [hf 0 0 rfl]; exact h0, ?_, R_name_fr hf (fun _ => rfl) (fun _ => rfl) (fun _ => rfl) (fun _ => rfl) a2, R_stat_fr hf rfl rfl a3, R_faul_fr hf rfl rfl a4, R_ord_fr hf rfl rfl (fun _ => rfl) (fun _ => rfl) a5, R_lat_fr hf rfl rfl (fun _ => rfl) (fun _ => rfl) a6, R_prog_fr hf rfl (fun o k => qTp_mp) (fun o k => qTp_sc hsc) (fun _ => rfl) (fun _ => rfl) (fun _ => rfl) rfl a7, R_wi_fr hf (fun _ => rfl) a8, a9⟩
    refine ⟨T, a.toInt.toNat, by omega, ?_, ?_, fun k hk => ?_, fun k hk => ?_⟩
    · rw [up2_ne' (by decide), up2_at, nI_tn z1]
    · rw [up2_at, nI_tn z1]
    · rw [up2_ne' (by decide), up2_ne' (by decide)]; exact t3 k (by omega)
    · rw [up2_ne' (by decide), up2_ne' (by decide)]; exact t4 k (by omega)
  · refine m_end h0 (fun y1 y2 => absurd ⟨y1, by rw [t1]; rw [t2] at y2; exact y2⟩ z) (fun _ => ⟨rfl, _, J, sc, it, rfl, h9⟩)
set_option maxHeartbeats 150000 in
theorem st_fault (hr : Rel h) : StepI l D cy ad sv 72 163 [] h := by
  obtain ⟨I, J, sc, it, rfl, h⟩ := hr
  refine x_fault ⟨_, rfl, m_fault h.2.1 ⟨?_, _, J, sc, it, rfl, h⟩⟩
  have : I 100 13 = I 0 62 := h.2.2.2.2.2.1
  rw [this]
set_option maxHeartbeats 150000 in
theorem st_status (hr : Rel h) : StepI l D cy ad sv 86 165 [] h := by
  obtain ⟨I, J, sc, it, rfl, h⟩ := hr
  refine x_status ⟨_, rfl, m_status h.2.1 ⟨?_, _, J, sc, it, rfl, h⟩⟩
  have : I 100 14 = I 0 1 := h.2.2.2.2.1
  rw [this]
set_option maxHeartbeats 150000 in
theorem pr_np (h : R_prog I sc) : ∃ np, np ≤ 8 ∧ I sc 1 = nI np ∧ I 0 19 = nI np ∧ I sc 0 = I 0 5 ∧ I sc 2 = I 0 15 ∧ (I 100 8 = I 0 4) ∧ (I 0 4 = 0 → np = 0) ∧ (∀ q, q < 8 → I 110 q = I 22 q) ∧ (∀ q, np ≤ q → q < 8 → I 22 q = -1) := by
  rcases h with h | ⟨p, T, n, cp, g, h⟩
  · obtain ⟨a1, a2, a3, a4, a5, a6, a7, a8, a9, a10, a11⟩ := h
    exact ⟨0, by omega, by rw [a4]; exact nI_0.symm, by rw [a8]; exact nI_0.symm, by rw [a3, a6], by rw [a5, a7], by rw [a1, a2], fun _ => rfl, fun q hq => by rw [a9 q hq, a10 q hq], fun q _ hq => a10 q hq⟩
  · obtain ⟨a, b, c, d, e, f, g9, i⟩ := h
    refine ⟨p.np, g.2.1.np, b.2.1, c.2.2.2.2.1, by rw [b.1, c.2.1], by rw [b.2.2.1, c.2.2.1], by rw [a, c.1], fun z => ?_, fun q hq => ?_, fun q h1 h2 => ?_⟩
    · rw [c.1] at z
      exact absurd z one_ne
    · rcases d q hq with ⟨x, y⟩ | ⟨v, x, y, -⟩
      · rcases e q hq with ⟨x', y'⟩ | ⟨v', x', y', -⟩
        · rw [y, y']
        · rw [x] at x'; cases x'
      · rcases e q hq with ⟨x', y'⟩ | ⟨v', x', y', -⟩
        · rw [x] at x'; cases x'
        · rw [x] at x'; cases x'; rw [y, y']
    · rcases e q h2 with ⟨x', y'⟩ | ⟨v', x', y', -⟩
      · exact y'
      · rw [f q h1] at x'; cases x'
set_option maxHeartbeats 150000 in
theorem st_capped {a : Int32} (hr : Rel h) : StepI l D cy ad sv 74 138 [.int a] h := by
  obtain ⟨I, J, sc, it, rfl, h⟩ := hr
  obtain ⟨np, n8, p1, p2, -, -, p5, p6, p7, -⟩ := pr_np h.2.2.2.2.2.2.2.2.1
  have te : (nI np).toInt = np := nI_toInt (by omega)
  refine x_capped h.1 (by rw [p1, te]; omega) (fun z1 z2 => ⟨_, rfl, ?_⟩) (fun z => ⟨_, rfl, ?_⟩)
  · rw [p1, te] at z2
    refine m_capped h.2.1 (by rw [p2, te]; omega) (fun _ _ _ => ⟨by rw [p7 _ (by omega)], _, J, sc, it, rfl, h⟩) (fun y => absurd ⟨fun w => by have := p6 w; omega, z1, by rw [p2, te]; exact z2⟩ y)
  · refine m_capped h.2.1 (by rw [p2, te]; omega) (fun _ y1 y2 => absurd ⟨y1, by rw [p1]; rw [p2] at y2; exact y2⟩ z) (fun _ => ⟨rfl, _, J, sc, it, rfl, h⟩)
set_option maxHeartbeats 150000 in
theorem st_ask {a : Int32} (hr : Rel h) : StepI l D cy ad sv 78 126 [.int a] h := by
  obtain ⟨I, J, sc, it, rfl, h⟩ := hr
  have h0 := h.2.1
  rcases h.2.2.2.2.2.2.2.1 with ⟨z1, z2⟩ | ⟨z1, z2, x, z3, z4⟩
  · refine x_ask (fun y => absurd z1 y) (fun _ => ⟨_, rfl, m_ask h0 (fun y => absurd z2 y) (fun _ => ⟨rfl, _, J, sc, it, rfl, h⟩)⟩)
  · have n1 : ¬ I 100 11 = 0 := by rw [z1]; exact one_ne
    have n2 : ¬ I 0 27 = 0 := by rw [z2]; exact one_ne
    refine x_ask (fun _ y1 y2 => ⟨_, rfl, m_ask h0 (fun _ _ _ => ⟨by rw [(z3 _ (by omega)).1, (z4 _ (by omega)).1], _, J, sc, it, rfl, h⟩) (fun y => absurd ⟨n2, y1, y2⟩ y)⟩) (fun y => ⟨_, rfl, m_ask h0 (fun _ y1 y2 => absurd ⟨n1, y1, y2⟩ y) (fun _ => ⟨rfl, _, J, sc, it, rfl, h⟩)⟩)
set_option maxHeartbeats 150000 in
theorem cntN_tail {o : Nat} {np : Nat} : ∀ m, np ≤ m → (∀ q, np ≤ q → q < m → I o q = -1) → cntN I o m = cntN I o np
  | 0, h, _ => by
    have : np = 0 := by omega
    rw [this]
  | m + 1, h, hz => by
    by_cases e : np = m + 1
    · rw [e]
    · show cntN I o m + (if I o m = -1 then 0 else 1) = cntN I o np
      rw [if_pos (hz m (by omega) (by omega)), cntN_tail m (by omega) (fun q a b => hz q a (by omega)), Nat.add_zero]
set_option maxHeartbeats 150000 in
theorem cntN_eq {o o' : Nat} : ∀ m, (∀ q, q < m → I o q = I o' q) → cntN I o m = cntN I o' m
  | 0, _ => rfl
  | m + 1, h => by
    show cntN I o m + (if I o m = -1 then 0 else 1) = cntN I o' m + (if I o' m = -1 then 0 else 1)
    rw [cntN_eq m (fun q hq => h q (by omega)), h m (by omega)]
set_option maxHeartbeats 150000 in
theorem st_count {a : Int32} (hr : Rel h) : StepI l D cy ad sv 85 164 [.int a] h := by
  obtain ⟨I, J, sc, it, rfl, h⟩ := hr
  obtain ⟨np, n8, p1, p2, p3, p4, p5, p6, p7, p8⟩ := pr_np h.2.2.2.2.2.2.2.2.1
  obtain ⟨T, n, n4, t1, t2, t3, t4⟩ := h.2.2.1
  obtain ⟨no, os, o1, o2, o3, -, -⟩ := h.2.2.2.2.2.2.1
  refine x_count h.1 ⟨_, rfl, m_count (p := np) h.2.1 p2 n8 ⟨?_, _, J, sc, it, rfl, h⟩⟩
  have e : cntN I 110 8 = cntN I 22 np := by
    rw [cntN_eq 8 p7]
    exact cntN_tail 8 n8 p8
  rw [p1, p3, o2, o3, e, t1, t2, p4]
end STEPS
