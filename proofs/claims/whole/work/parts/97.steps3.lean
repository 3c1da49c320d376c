def qSp (o k : Nat) : Bool := o == 113 || o == 23
theorem qSp_sc {sc o k : Nat} (hsc : sc = 120 ∨ sc = 140) (h1 : sc ≤ o) (h2 : o ≤ sc + 16) : qSp o k = false := by
  unfold qSp
  simp
  omega
theorem qSp_mp {o k : Nat} (h : mpF o k = true) : qSp o k = false := by
  unfold mpF at h
  unfold qSp
  simp at h ⊢
  omega
def q23 (o k : Nat) : Bool := o == 23
theorem q23_sc {sc o k : Nat} (hsc : sc = 120 ∨ sc = 140) (h1 : sc ≤ o) (h2 : o ≤ sc + 16) : q23 o k = false := by
  unfold q23
  simp
  omega
theorem q23_mp {o k : Nat} (h : mpF o k = true) : q23 o k = false := by
  unfold mpF at h
  unfold q23
  simp at h ⊢
  omega
/-- the need of a place -/
def ndV (p : PS) (os : Nat → Nat → Nat) (no q : Nat) : Nat := ndN (fun o => amtK (os o) p.F p.s.fk p.s.fv p.s.fp (p.ps q)) no
theorem ndV_le {p : PS} {os : Nat → Nat → Nat} {no q : Nat} : ndV p os no q ≤ MU := ndN_le (fun _ => amtK_le) no
section STEPS3
variable {l : Launch} {D : va_G} {cy ad sv : Nat → Nat} {Q : Option Value → HP → Prop} {I : Nat → Nat → Int32} {J : Nat → Nat → Int64} {sc it : Nat} {h : HP} {p : PS} {T : Nat → Nat} {n : Nat} {cp : Nat → Option Nat} {os : Nat → Nat → Nat} {no : Nat}
set_option maxHeartbeats 400000 in
theorem pl_ok (g : PG p T n) {q : Nat} (hq : q < p.np) : p.ps q < p.ns ∧ p.K (p.ps q) = 1 ∧ p.F (p.ps q) ≤ p.F (p.ps q + 1) ∧ p.F (p.ps q + 1) ≤ p.s.nf ∧ p.s.nf ≤ 200 := by
  obtain ⟨n4, hW, hv, hn, hw, hu⟩ := g
  have t := hn.2.2.2.2.2.1.1 q hq
  have f2 := F_le hn p.ns (Nat.le_refl _) (p.ps q + 1) (by omega)
  have := nf_200 hW n4
  rw [hW.Fn] at f2 this
  exact ⟨t.1, t.2.1, F_le hn (p.ps q + 1) (by omega) (p.ps q) (by omega), f2, this⟩
set_option maxHeartbeats 400000 in
theorem b_needC (g : PG p T n) (hsc : sc = 120 ∨ sc = 140) (hw : cWh I sc p) (o1 : no ≤ 12) (o2 : I 210 3 = nI no) (o4 : ordT I 213 no os) {q : Nat} (hq : q < p.np) (h1 : ∀ I2, frI 215 I I2 → Q (some (.long (lN (ndV p os no q)))) (I2, J, rr sc it)) : qC l D cy ad sv 24 [.ref 210, .ref sc, .int (nI q)] (I, J, rr sc it) Q := by
  obtain ⟨k1, k2, k3, k4, k5⟩ := pl_ok g hq
  have hns := g.2.1.ns
  have hnp := g.2.1.np
  obtain ⟨w1, w2, w3, w4, w5, w6, w7, w8⟩ := hw
  have r := (w5 _ k1).2.2.2.2.2.1 (by omega)
  have fT : facT I (sc + 14) (sc + 15) (sc + 16) p.s.fk p.s.fv p.s.fp (p.F (p.ps q + 1)) := fun f hf => w8 f (by omega)
  rcases hsc with rfl | rfl
  · exact x_needOf_120 (F := p.F) (by omega) (w6 q hq) (by omega) r.1 r.2 k3 (by omega) fT o2 o1 o4 h1
  · exact x_needOf_140 (F := p.F) (by omega) (w6 q hq) (by omega) r.1 r.2 k3 (by omega) fT o2 o1 o4 h1
set_option maxHeartbeats 400000 in
theorem b_needM (g : PG p T n) (hw : mWh I p) (o1 : no ≤ 12) (o3 : I 0 30 = nI no) (o5 : ordT I 32 no os) {q : Nat} (hq : q < p.np) (h1 : ∀ I2, frI 23 I I2 → Q (some (.long (lN (ndV p os no q)))) (I2, J, rr sc it)) : qC l D cy ad sv 130 [.ref 0, .int (nI q)] (I, J, rr sc it) Q := by
  obtain ⟨k1, k2, k3, k4, k5⟩ := pl_ok g hq
  have hns := g.2.1.ns
  have hnp := g.2.1.np
  obtain ⟨w1, w2, w3, w4, w5, w6, w7, w8, w9⟩ := hw
  have r := w6 _ k1
  exact m_needOf (F := p.F) (by omega) (w9 q hq) (by omega) r.2.2.2.2.2.1 r.2.2.2.2.2.2 k3 (by omega) (fun f hf => w7 f (by omega)) o3 o1 o5 h1
set_option maxHeartbeats 400000 in
theorem Rel_23 {I' : Nat → Nat → Int32} (h : RelI I J sc) (hf : fr qSp I I') : RelI I' J sc := by
  obtain ⟨hsc, h0, a1, a2, a3, a4, a5, a6, a7, a8, a9⟩ := h
  exact ⟨hsc, by rw [hf 0 0 rfl]; exact h0, R_tape_fr hf rfl rfl (fun _ => rfl) (fun _ => rfl) a1, R_name_fr hf (fun _ => rfl) (fun _ => rfl) (fun _ => rfl) (fun _ => rfl) a2, R_stat_fr hf rfl rfl a3, R_faul_fr hf rfl rfl a4, R_ord_fr hf rfl rfl (fun _ => rfl) (fun _ => rfl) a5, R_lat_fr hf rfl rfl (fun _ => rfl) (fun _ => rfl) a6, R_prog_fr hf rfl (fun o k => qSp_mp) (fun o k => qSp_sc hsc) (fun _ => rfl) (fun _ => rfl) (fun _ => rfl) rfl a7, R_wi_fr hf (fun _ => rfl) a8, a9⟩
set_option maxHeartbeats 400000 in
theorem Rel_nd {I' : Nat → Nat → Int32} (h : RelI I J sc) (hf : fr qNd I I') : RelI I' J sc := by
  obtain ⟨hsc, h0, a1, a2, a3, a4, a5, a6, a7, a8, a9⟩ := h
  exact ⟨hsc, by rw [hf 0 0 rfl]; exact h0, R_tape_fr hf rfl rfl (fun _ => rfl) (fun _ => rfl) a1, R_name_fr hf (fun _ => rfl) (fun _ => rfl) (fun _ => rfl) (fun _ => rfl) a2, R_stat_fr hf rfl rfl a3, R_faul_fr hf rfl rfl a4, R_ord_fr hf rfl rfl (fun _ => rfl) (fun _ => rfl) a5, R_lat_fr hf rfl rfl (fun _ => rfl) (fun _ => rfl) a6, R_prog_fr hf rfl (fun o k => qNd_mp) (fun o k => qNd_sc hsc) (fun _ => rfl) (fun _ => rfl) (fun _ => rfl) rfl a7, R_wi_fr hf (fun _ => rfl) a8, a9⟩
theorem frI_fr {q : Nat → Nat → Bool} {o : Nat} {I' : Nat → Nat → Int32} (h : frI o I I') (hq : ∀ k, q o k = true) : fr q I I' := fun a b z => by
  have : a ≠ o := fun w => by rw [w, hq] at z; cases z
  rw [h a this]
set_option maxHeartbeats 400000 in
theorem st_need {a : Int32} (hr : Rel h) : StepJ l D cy ad sv 81 131 [.int a] h := by
  obtain ⟨I, J, sc, it, rfl, h⟩ := hr
  have h9 := h
  obtain ⟨hsc, h0, a1, a2, a3, a4, a5, a6, a7, a8, a9⟩ := h
  obtain ⟨no, os, o1, o2, o3, o4, o5⟩ := a5
  rcases a7 with a7 | ⟨p, T, n, cp, g, a7⟩
  · have np0 : I sc 1 = nI 0 := by rw [a7.2.2.2.1]; exact nI_0.symm
    refine x_need (v := fun _ => 0) hsc np0 (by omega) (fun q _ hq => absurd hq (Nat.not_lt_zero q)) (fun _ => ⟨_, rfl, ?_⟩) (fun z1 z2 => absurd z2 (by omega))
    exact m_need (n := 0) (v := fun _ => 0) h0 (by rw [a7.2.2.2.2.2.2.2.1]; exact nI_0.symm) (by omega) (fun q _ z => absurd a7.2.1 z) (fun _ => ⟨rfl, _, J, sc, it, rfl, h9⟩) (fun z => absurd a7.2.1 z)
  · have n4 : ¬ I 0 4 = 0 := by rw [a7.2.2.1.1]; exact one_ne
    have hnp := g.2.1.np
    refine x_need (v := ndV p os no) hsc a7.2.1.2.1 hnp (fun q Q' hq hQ => b_needC g hsc a7.2.1 o1 o2 o4 hq hQ) (fun z => ⟨_, rfl, ?_⟩) (fun z1 z2 I1 f1 => ⟨_, rfl, ?_⟩)
    · exact m_need (n := no) (v := ndV p os no) h0 a7.2.2.1.2.2.2.2.1 hnp (fun q Q' _ hq hQ => b_needM g a7.2.2.1 o1 o3 o5 hq hQ) (fun _ => ⟨rfl, _, J, sc, it, rfl, h9⟩) (fun _ y1 y2 => absurd ⟨y1, y2⟩ z)
    · have e : ∀ o k, o ≠ 215 → I1 o k = I o k := fun o k ho => by rw [f1 o ho]
      refine m_need (n := no) (v := ndV p os no) (by rw [e 0 0 (by decide)]; exact h0) (by rw [e 0 19 (by decide)]; exact a7.2.2.1.2.2.2.2.1) hnp (fun q Q' _ hq hQ => b_needM g (mWh_fr (frI_fr (q := qNd) f1 (fun _ => rfl)) (fun o k => qNd_mp) a7.2.2.1) o1 (by rw [e 0 30 (by decide)]; exact o3) (fun i hi k hk => by rw [e 32 _ (by decide)]; exact o5 i hi k hk) hq hQ) (fun y => absurd ⟨by rw [e 0 4 (by decide)]; exact n4, z1, z2⟩ y) (fun _ _ _ I2 f2 => ⟨rfl, _, J, sc, it, rfl, Rel_nd h9 ((frI_fr f1 (fun _ => rfl)).ups (frI_fr f2 (fun _ => rfl)))⟩)
/-! asks -/
def a4N (a b c d : Int32) (k : Nat) : Nat := if k = 0 then a.toInt.toNat else if k = 1 then b.toInt.toNat else if k = 2 then c.toInt.toNat else d.toInt.toNat
set_option maxHeartbeats 400000 in
theorem ask_row {o : Nat} {a b c d : Int32} (hn : num4 a b c d) : askT (row4 I o 0 a b c d) o (a4N a b c d) := by
  intro k hk
  obtain ⟨n1, n2, n3, n4⟩ := hn
  unfold row4 a4N
  rcases (show k = 0 ∨ k = 1 ∨ k = 2 ∨ k = 3 by omega) with z | z | z | z <;> subst z
  · rw [up2_nj (by decide), up2_nj (by decide), up2_nj (by decide), up2_at, if_pos rfl, nI_tn n1.1]
    exact ⟨rfl, by have := n1.2; omega⟩
  · rw [up2_nj (by decide), up2_nj (by decide), up2_at, if_neg (by omega), if_pos rfl, nI_tn n2.1]
    exact ⟨rfl, by have := n2.2; omega⟩
  · rw [up2_nj (by decide), up2_at, if_neg (by omega), if_neg (by omega), if_pos rfl, nI_tn n3.1]
    exact ⟨rfl, by have := n3.2; omega⟩
  · rw [up2_at, if_neg (by omega), if_neg (by omega), if_neg (by omega), nI_tn n4.1]
    exact ⟨rfl, by have := n4.2; omega⟩
theorem Rel_J {J' : Nat → Nat → Int64} (h : RelI I J sc) (hJ : R_long J') : RelI I J' sc := ⟨h.1, h.2.1, h.2.2.1, h.2.2.2.1, h.2.2.2.2.1, h.2.2.2.2.2.1, h.2.2.2.2.2.2.1, h.2.2.2.2.2.2.2.1, h.2.2.2.2.2.2.2.2.1, h.2.2.2.2.2.2.2.2.2.1, hJ⟩
set_option maxHeartbeats 400000 in
theorem st_spends {s a b c d : Int32} (hr : Rel h) : StepJ l D cy ad sv 75 119 [.int s, .int a, .int b, .int c, .int d] h := by
  obtain ⟨I, J, sc, it, rfl, h⟩ := hr
  have h9 := h
  obtain ⟨hsc, h0, a1, a2, a3, a4, a5, a6, a7, a8, a9⟩ := h
  rcases a7 with a7 | ⟨p, T, n, cp, g, a7⟩
  · refine x_spends (fun _ => ⟨_, rfl, ?_⟩) (fun z => absurd a7.1 z)
    exact m_spends h0 (fun _ => ⟨rfl, _, J, sc, it, rfl, h9⟩) (fun z => absurd a7.2.1 z)
  · have n8 : ¬ I 100 8 = 0 := by rw [a7.1]; exact one_ne
    have n4 : ¬ I 0 4 = 0 := by rw [a7.2.2.1.1]; exact one_ne
    refine x_spends (fun z => ⟨_, rfl, ?_⟩) (fun _ z1 z2 => ?_)
    · exact m_spends h0 (fun _ => ⟨rfl, _, J, sc, it, rfl, h9⟩) (fun _ y1 y2 => absurd ⟨n8, y1, y2⟩ z)
    · have f1 : fr qSp I (row4 I 113 0 a b c d) := row4_fr fr.rf (fun _ => rfl)
      have b1 : R_pr1 (row4 I 113 0 a b c d) sc p cp := R_pr1_fr f1 rfl (fun o k => qSp_mp) (fun o k => qSp_sc hsc) (fun _ => rfl) (fun _ => rfl) (fun _ => rfl) rfl a7
      obtain ⟨f, W, -, -, hb⟩ := b_brings (l := l) (D := D) (cy := cy) (ad := ad) (sv := sv) (it := it) (sort := s) (c := 110) (q := 113) (ask := a4N a b c d) g hsc b1.2.1 ka_110 kb_110 ka_113 kb_113 (ask_row z2) b1.2.2.2.1 a9.1
      refine hb _ (fun J1 fj sj _ _ => ⟨_, rfl, ⟨_, rfl, ?_⟩⟩)
      have L1 := R_long_C fj sj a9
      refine m_spends (by rw [f1 0 0 rfl]; exact h0) (fun y => absurd ⟨by rw [f1 0 4 rfl]; exact n4, z1, z2⟩ y) (fun _ _ _ => ?_)
      have f2 : fr qSp I (setA (row4 I 113 0 a b c d) 23 a b c d) := fr_set f1 rfl rfl rfl rfl
      have b2 : R_pr1 (setA (row4 I 113 0 a b c d) 23 a b c d) sc p cp := R_pr1_fr f2 rfl (fun o k => qSp_mp) (fun o k => qSp_sc hsc) (fun _ => rfl) (fun _ => rfl) (fun _ => rfl) rfl a7
      obtain ⟨X, U, -, -, hm⟩ := b_spendsBy (l := l) (D := D) (cy := cy) (ad := ad) (sv := sv) (sc := sc) (it := it) (sort := s) (ask := a4N a b c d) g b2.2.2.1 (show askT (setA (row4 I 113 0 a b c d) 23 a b c d) 23 (a4N a b c d) from ask_row (I := row4 I 113 0 a b c d) (o := 23) z2) b2.2.2.2.2.1 L1.2.2.2.1
      exact hm _ (fun J2 fj2 sj2 _ _ => ⟨_, rfl, rfl, _, J2, sc, it, rfl, Rel_J (Rel_23 h9 f2) (R_long_M fj2 sj2 L1)⟩)
end STEPS3
