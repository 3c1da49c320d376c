/-! program, of both -/
def qPa (S o k : Nat) : Bool := xPr S o k || mRa o k
def qPb (S o k : Nat) : Bool := (rdP S o k || (o == 100 && (k == 13 || k == 14)) || (o == 160 && k == 1)) || mRt o k
theorem mRa_hi {o k : Nat} (h : 100 ≤ o) : mRa o k = false := by
  unfold mRa mRt mRd adP
  simp
  omega
theorem mRt_hi {o k : Nat} (h : 100 ≤ o) : mRt o k = false := by
  unfold mRt mRd
  simp
  omega
theorem mRt_mp {o k : Nat} (h : mpF o k = true) : mRt o k = false := by
  unfold mpF at h
  unfold mRt mRd
  simp at h ⊢
  omega
section STEPS7
variable {l : Launch} {D : va_G} {cy ad sv : Nat → Nat} {I : Nat → Nat → Int32} {J : Nat → Nat → Int64} {sc it : Nat} {h : HP}
theorem R_long_Q {J' : Nat → Nat → Int64} (hf : fr tkQ J J') (h : R_long J) : R_long J' := by
  have e : ∀ o, o ≠ 0 → J' o = J o := fun o ho => funext (fun k => hf o k (by
    unfold tkQ
    have : (o == 0) = false := by simp; omega
    rw [this]
    rfl))
  have q : ∀ o m, o ≠ 0 → lonE J o m → lonE J' o m := fun o m ho z k hk => by
    rw [e o ho]
    exact z k hk
  obtain ⟨⟨a1, a2, a3, a4⟩, b, c, ⟨d1, d2, d3⟩, f, g⟩ := h
  exact ⟨⟨q _ _ (by decide) a1, q _ _ (by decide) a2, q _ _ (by decide) a3, q _ _ (by decide) a4⟩, q _ _ (by decide) b, q _ _ (by decide) c, ⟨q _ _ (by decide) d1, q _ _ (by decide) d2, q _ _ (by decide) d3⟩, q _ _ (by decide) f, q _ _ (by decide) g⟩
theorem R_tape_0 (h1 : I 160 1 = 0) (h2 : I 0 57 = 0) : R_tape I := ⟨fun _ => 0, 0, by omega, by rw [h1, nI_0], by rw [h2, nI_0], fun k hk => absurd hk (Nat.not_lt_zero k), fun k hk => absurd hk (Nat.not_lt_zero k)⟩
set_option maxHeartbeats 400000 in
theorem st_prog_120 (h : RelI I J 140) : StepI l D cy ad sv 71 161 [] (I, J, rr 140 it) := by
  have h9 := h
  obtain ⟨hsc, h0, a1, a2, a3, a4, a5, a6, a7, a8, a9⟩ := h
  obtain ⟨T, n, n4, t1, t2, t3, t4⟩ := a1
  have qs : ∀ o k, 140 ≤ o → o ≤ 140 + 16 → qPb 120 o k = false := fun o k x1 x2 => by
    unfold qPb
    rw [mRt_hi (by omega), Bool.or_false]
    unfold rdP
    simp
    omega
  have qm : ∀ o k, mpF o k = true → qPb 120 o k = false := fun o k z => by
    unfold qPb
    rw [mRt_mp z, Bool.or_false]
    unfold mpF at z
    unfold rdP
    simp at z ⊢
    omega
  refine x_program_120 st_ok ⟨t1, n4, t3⟩ (fun p' e1 hW hv hn hw I1 f1 c1 g1 g2 g3 g4 g5 g6 g7 => ⟨_, rfl, ?_⟩) (fun e e1 I1 _ f1 g1 g2 g3 => ⟨_, rfl, ?_⟩)
  · have fm : ∀ o k, xPr 120 o k = false → I1 o k = I o k := f1
    refine m_program (by rw [f1 0 0 rfl]; exact h0) ⟨by rw [f1 0 57 rfl]; exact t2, n4, fun k hk => by rw [f1 57 k rfl]; exact t4 k hk⟩ (fun p2 e2 _ _ _ _ I2 J2 f2 j2 k1 k2 k3 w2 k4 => ?_) (fun e e2 => by rw [e1] at e2; cases e2)
    have ep : p' = p2 := by
      rw [e1] at e2
      exact Except.ok.inj e2
    subst ep
    refine ⟨rfl, I2, J2, 120, 120, rfl, ?_⟩
    have hf : fr (qPa 120) I I2 := (f1.wide (fun o k z => (Bool.or_eq_false_iff.mp z).1)).ups (f2.wide (fun o k z => (Bool.or_eq_false_iff.mp z).2))
    refine ⟨by decide, by rw [hf 0 0 rfl]; exact h0, R_tape_0 (by rw [f2 160 1 rfl]; exact g5) k2, R_name_fr hf (fun _ => rfl) (fun _ => rfl) (fun _ => rfl) (fun _ => rfl) a2, ?_, ?_, R_ord_fr hf rfl rfl (fun _ => rfl) (fun _ => rfl) a5, R_lat_fr hf rfl rfl (fun _ => rfl) (fun _ => rfl) a6, Or.inr ⟨p', T, n, fun _ => none, ⟨n4, hW, hv, hn, hw, prs_U 401 p00_W p00_V p00_U e1⟩, ?_⟩, R_wi_fr hf (fun _ => rfl) a8, R_long_Q j2 a9⟩
    · unfold R_stat
      rw [f2 100 14 rfl, g4, k1]
    · unfold R_faul
      rw [f2 100 13 rfl, g3, k3]
    · exact ⟨by rw [f2 100 8 rfl]; exact g1, cWh_eq c1 (fun o x1 x2 => funext (fun k => f2 o k (mRa_hi (by omega)))), w2, fun x hx => Or.inl ⟨rfl, by rw [f2 110 x rfl]; exact g2 x hx⟩, fun x hx => Or.inl ⟨rfl, k4 x hx⟩, fun _ _ => rfl, fun k hk => by rw [f2 191 k rfl]; exact g6 k hk, by rw [f2 190 1 rfl]; exact g7⟩
  · refine m_program (by rw [f1 0 0 rfl]; exact h0) ⟨by rw [f1 0 57 rfl]; exact t2, n4, fun k hk => by rw [f1 57 k rfl]; exact t4 k hk⟩ (fun p2 e2 => by rw [e1] at e2; cases e2) (fun e' e2 I2 J2 f2 j2 k1 k2 k3 => ?_)
    have ep : e = e' := by
      rw [e1] at e2
      exact Except.error.inj e2
    subst ep
    refine ⟨rfl, I2, J2, 140, 120, rfl, ?_⟩
    have hf : fr (qPb 120) I I2 := (f1.wide (fun o k z => (Bool.or_eq_false_iff.mp z).1)).ups (f2.wide (fun o k z => (Bool.or_eq_false_iff.mp z).2))
    refine ⟨by decide, by rw [hf 0 0 rfl]; exact h0, R_tape_0 (by rw [f2 160 1 rfl]; exact g3) k2, R_name_fr hf (fun _ => rfl) (fun _ => rfl) (fun _ => rfl) (fun _ => rfl) a2, ?_, ?_, R_ord_fr hf rfl rfl (fun _ => rfl) (fun _ => rfl) a5, R_lat_fr hf rfl rfl (fun _ => rfl) (fun _ => rfl) a6, R_prog_fr hf rfl qm qs (fun _ => rfl) (fun _ => rfl) (fun _ => rfl) rfl a7, R_wi_fr hf (fun _ => rfl) a8, R_long_Q j2 a9⟩
    · unfold R_stat
      rw [f2 100 14 rfl, g2, k1]
    · unfold R_faul
      rw [f2 100 13 rfl, g1, k3]
set_option maxHeartbeats 400000 in
theorem st_prog_140 (h : RelI I J 120) : StepI l D cy ad sv 71 161 [] (I, J, rr 120 it) := by
  have h9 := h
  obtain ⟨hsc, h0, a1, a2, a3, a4, a5, a6, a7, a8, a9⟩ := h
  obtain ⟨T, n, n4, t1, t2, t3, t4⟩ := a1
  have qs : ∀ o k, 120 ≤ o → o ≤ 120 + 16 → qPb 140 o k = false := fun o k x1 x2 => by
    unfold qPb
    rw [mRt_hi (by omega), Bool.or_false]
    unfold rdP
    simp
    omega
  have qm : ∀ o k, mpF o k = true → qPb 140 o k = false := fun o k z => by
    unfold qPb
    rw [mRt_mp z, Bool.or_false]
    unfold mpF at z
    unfold rdP
    simp at z ⊢
    omega
  refine x_program_140 st_ok ⟨t1, n4, t3⟩ (fun p' e1 hW hv hn hw I1 f1 c1 g1 g2 g3 g4 g5 g6 g7 => ⟨_, rfl, ?_⟩) (fun e e1 I1 _ f1 g1 g2 g3 => ⟨_, rfl, ?_⟩)
  · have fm : ∀ o k, xPr 140 o k = false → I1 o k = I o k := f1
    refine m_program (by rw [f1 0 0 rfl]; exact h0) ⟨by rw [f1 0 57 rfl]; exact t2, n4, fun k hk => by rw [f1 57 k rfl]; exact t4 k hk⟩ (fun p2 e2 _ _ _ _ I2 J2 f2 j2 k1 k2 k3 w2 k4 => ?_) (fun e e2 => by rw [e1] at e2; cases e2)
    have ep : p' = p2 := by
      rw [e1] at e2
      exact Except.ok.inj e2
    subst ep
    refine ⟨rfl, I2, J2, 140, 140, rfl, ?_⟩
    have hf : fr (qPa 140) I I2 := (f1.wide (fun o k z => (Bool.or_eq_false_iff.mp z).1)).ups (f2.wide (fun o k z => (Bool.or_eq_false_iff.mp z).2))
    refine ⟨by decide, by rw [hf 0 0 rfl]; exact h0, R_tape_0 (by rw [f2 160 1 rfl]; exact g5) k2, R_name_fr hf (fun _ => rfl) (fun _ => rfl) (fun _ => rfl) (fun _ => rfl) a2, ?_, ?_, R_ord_fr hf rfl rfl (fun _ => rfl) (fun _ => rfl) a5, R_lat_fr hf rfl rfl (fun _ => rfl) (fun _ => rfl) a6, Or.inr ⟨p', T, n, fun _ => none, ⟨n4, hW, hv, hn, hw, prs_U 401 p00_W p00_V p00_U e1⟩, ?_⟩, R_wi_fr hf (fun _ => rfl) a8, R_long_Q j2 a9⟩
    · unfold R_stat
      rw [f2 100 14 rfl, g4, k1]
    · unfold R_faul
      rw [f2 100 13 rfl, g3, k3]
    · exact ⟨by rw [f2 100 8 rfl]; exact g1, cWh_eq c1 (fun o x1 x2 => funext (fun k => f2 o k (mRa_hi (by omega)))), w2, fun x hx => Or.inl ⟨rfl, by rw [f2 110 x rfl]; exact g2 x hx⟩, fun x hx => Or.inl ⟨rfl, k4 x hx⟩, fun _ _ => rfl, fun k hk => by rw [f2 191 k rfl]; exact g6 k hk, by rw [f2 190 1 rfl]; exact g7⟩
  · refine m_program (by rw [f1 0 0 rfl]; exact h0) ⟨by rw [f1 0 57 rfl]; exact t2, n4, fun k hk => by rw [f1 57 k rfl]; exact t4 k hk⟩ (fun p2 e2 => by rw [e1] at e2; cases e2) (fun e' e2 I2 J2 f2 j2 k1 k2 k3 => ?_)
    have ep : e = e' := by
      rw [e1] at e2
      exact Except.error.inj e2
    subst ep
    refine ⟨rfl, I2, J2, 120, 140, rfl, ?_⟩
    have hf : fr (qPb 140) I I2 := (f1.wide (fun o k z => (Bool.or_eq_false_iff.mp z).1)).ups (f2.wide (fun o k z => (Bool.or_eq_false_iff.mp z).2))
    refine ⟨by decide, by rw [hf 0 0 rfl]; exact h0, R_tape_0 (by rw [f2 160 1 rfl]; exact g3) k2, R_name_fr hf (fun _ => rfl) (fun _ => rfl) (fun _ => rfl) (fun _ => rfl) a2, ?_, ?_, R_ord_fr hf rfl rfl (fun _ => rfl) (fun _ => rfl) a5, R_lat_fr hf rfl rfl (fun _ => rfl) (fun _ => rfl) a6, R_prog_fr hf rfl qm qs (fun _ => rfl) (fun _ => rfl) (fun _ => rfl) rfl a7, R_wi_fr hf (fun _ => rfl) a8, R_long_Q j2 a9⟩
    · unfold R_stat
      rw [f2 100 14 rfl, g2, k1]
    · unfold R_faul
      rw [f2 100 13 rfl, g1, k3]
theorem st_program (hr : Rel h) : StepI l D cy ad sv 71 161 [] h := by
  obtain ⟨I, J, sc, it, rfl, h⟩ := hr
  rcases h.1 with rfl | rfl
  · exact st_prog_140 h
  · exact st_prog_120 h
end STEPS7
