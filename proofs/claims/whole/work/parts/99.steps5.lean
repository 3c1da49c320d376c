def qBd (o k : Nat) : Bool := o == 203 || o == 204 || o == 215 || o == 217 || o == 218 || (o == 210 && k == 8) || o == 23 || o == 34 || (o == 100 && k == 14) || (o == 0 && k == 1)
theorem qBd_sc {sc o k : Nat} (hsc : sc = 120 ∨ sc = 140) (h1 : sc ≤ o) (h2 : o ≤ sc + 16) : qBd o k = false := by
  unfold qBd
  simp
  omega
theorem qBd_mp {o k : Nat} (h : mpF o k = true) : qBd o k = false := by
  unfold mpF at h
  unfold qBd
  simp at h ⊢
  omega
def qBe (o k : Nat) : Bool := o == 203 || o == 204 || o == 215 || o == 217 || o == 218 || (o == 210 && k == 8) || o == 23 || o == 34 || o == 110 || o == 22 || (o == 100 && k == 14) || (o == 0 && k == 1)
theorem qBe_sc {sc o k : Nat} (hsc : sc = 120 ∨ sc = 140) (h1 : sc ≤ o) (h2 : o ≤ sc + 16) : qBe o k = false := by
  unfold qBe
  simp
  omega
theorem qBe_mp {o k : Nat} (h : mpF o k = true) : qBe o k = false := by
  unfold mpF at h
  unfold qBe
  simp at h ⊢
  omega
section STEPS5
variable {l : Launch} {D : va_G} {cy ad sv : Nat → Nat} {Q : Option Value → HP → Prop} {I : Nat → Nat → Int32} {J : Nat → Nat → Int64} {sc it : Nat} {h : HP} {p : PS} {T : Nat → Nat} {n : Nat} {cp : Nat → Option Nat} {os : Nat → Nat → Nat} {no : Nat} {sz wt : Nat → Nat}
set_option maxHeartbeats 800000 in
theorem b_goesTo {q9 : Nat} {ask : Nat → Nat} (g : PG p T n) (hsc : sc = 120 ∨ sc = 140) (a7 : R_pr1 I sc p cp) (hA : askT I 111 ask) (hJ : R_long J) : ∃ v : Nat → Nat, (∀ q, q < p.np → ∃ f C : Nat → Nat, (∀ k, k < p.ns → f k = figV p cp ask k) ∧ v q = sat ((cmD p.K p.A f p.bl (parW p) (pSw p) (p.nd + 1) (C, upN (fun _ => 0) p.nd 1)).1 (p.ps q) * stV p 0 cp ask (p.ps q))) ∧ ∀ q (Q : Option Value → HP → Prop), q < p.np → (∀ J', R_long J' → Q (some (.long (lN (v q)))) (I, J', rr sc it)) → qC l D cy ad sv 19 [.ref 180, .int (nI q), .ref sc, .ref 110, .ref 111] (I, J, rr sc it) Q := by
  obtain ⟨f, W, hf, hWk, hb⟩ := b_brings (l := l) (D := D) (cy := cy) (ad := ad) (sv := sv) (it := it) (sort := 0) (c := 110) (q := 111) (ask := ask) g hsc a7.2.1 ka_110 kb_110 ka_111 kb_111 hA a7.2.2.2.1 hJ.1
  obtain ⟨C, c1, -⟩ := lonE_B hJ.2.1
  have f5 : ∀ k, k < p.ns → p.K k = 5 → f k ≤ 1 := fun k hk z => by
    rw [hf k hk]
    unfold figV figK
    rw [if_pos z]
    split <;> omega
  have hw := a7.2.1
  have hW := g.2.1
  have hn := g.2.2.2.1
  have fin : ∀ J', frO [181, 182, 183, 184, 185, 186] J J' → lonE J' 181 60 → lonE J' 182 60 → lonE J' 183 60 → lonE J' 184 7 → lonE J' 185 60 → lonE J' 186 7 → R_long J' := fun J' fo e1 e2 e3 e4 e5 e6 => ⟨⟨e1, e2, e3, e4⟩, e5, e6, scrM_fr hJ.2.2.2.1 fo (by decide) (by decide) (by decide), lonE_fr hJ.2.2.2.2.1 fo (by decide), lonE_fr hJ.2.2.2.2.2 fo (by decide)⟩
  refine ⟨fun q => sat ((cmD p.K p.A f p.bl (parW p) (pSw p) (p.nd + 1) (C, upN (fun _ => 0) p.nd 1)).1 (p.ps q) * W (p.ps q)), fun q hq => ⟨f, C, hf, ?_⟩, fun q Q hq hQ => ?_⟩
  · show sat (_ * W (p.ps q)) = _
    rw [hWk _ (pl_ok g hq).1]
  · have hnp := hW.np
    rcases hsc with rfl | rfl
    · exact x_goesTo_120 (n := p.ns) (nd := p.nd) (C := C) (f := f) (W := W) (cWh_prg hw hW hn g.1) (cWh_parW hw hW) hW.nd hw.2.2.1 (cWh_pS hw hn) (by omega) (hw.2.2.2.2.2.1 q hq) (pl_ok g hq).1 f5 c1 (fun Q' hQ' => hb Q' (fun J' fo sj l1 l3 => hQ' J' _ fo l1 l3 sj.2.1 sj.2.2.2)) (fun J' fo e1 e2 e3 e4 e5 e6 => hQ J' (fin J' fo e1 e2 e3 e4 e5 e6))
    · exact x_goesTo_140 (n := p.ns) (nd := p.nd) (C := C) (f := f) (W := W) (cWh_prg hw hW hn g.1) (cWh_parW hw hW) hW.nd hw.2.2.1 (cWh_pS hw hn) (by omega) (hw.2.2.2.2.2.1 q hq) (pl_ok g hq).1 f5 c1 (fun Q' hQ' => hb Q' (fun J' fo sj l1 l3 => hQ' J' _ fo l1 l3 sj.2.1 sj.2.2.2)) (fun J' fo e1 e2 e3 e4 e5 e6 => hQ J' (fin J' fo e1 e2 e3 e4 e5 e6))
set_option maxHeartbeats 800000 in
theorem st_where {a : Int32} (hr : Rel h) : StepJ l D cy ad sv 79 128 [.int a] h := by
  obtain ⟨I, J, sc, it, rfl, h⟩ := hr
  have h9 := h
  obtain ⟨hsc, h0, a1, a2, a3, a4, a5, a6, a7, a8, a9⟩ := h
  rcases a7 with a7 | ⟨p, T, n, cp, g, a7⟩
  · have np0 : I sc 1 = nI 0 := by rw [a7.2.2.2.1]; exact nI_0.symm
    obtain ⟨V, v1, -⟩ := lonE_B a9.2.2.2.2.1
    obtain ⟨P, v2, -⟩ := lonE_B a9.2.2.2.2.2
    refine x_where (v := fun _ => 0) (S := fun _ => True) hsc np0 (by omega) (fun q Q' _ hq => absurd hq (Nat.not_lt_zero q)) (fun _ => ⟨_, rfl, ?_⟩) (fun _ z1 z2 => absurd z2 (by omega))
    have hask : ∃ ask : Nat → Nat, ¬ I 0 27 = 0 → askT I 27 ask := by
      rcases a6 with ⟨z1, z2⟩ | ⟨z1, z2, x, z3, z4⟩
      · exact ⟨fun _ => 0, fun y => absurd z2 y⟩
      · exact ⟨x, fun _ => z4⟩
    obtain ⟨ask, hask⟩ := hask
    exact m_where (np := 0) (n := 0) (nd := 0) (mn := 0) (pk := fun _ => 0) (ask := ask) (K := fun _ => 0) (E := fun _ => 0) (L := fun _ => 0) (A := fun _ => 0) (B := fun _ => 0) (F := fun _ => 0) (fk := fun _ => 0) (fv := fun _ => 0) (fp := fun _ => 0) (dF := fun _ => 0) (dT := fun _ => 0) (T := fun _ => 0) (U := fun _ => 0) h0 (by rw [a7.2.2.2.2.2.2.2.1]; exact nI_0.symm) (by omega) (fun z => absurd a7.2.1 z) (fun d hd => absurd hd (Nat.not_lt_zero d)) (by omega) (by rw [a7.2.2.2.2.2.2.1]; exact nI_0.symm) (by rw [a7.2.2.2.2.2.2.2.2.2.2.2]; exact nI_0.symm) (by rw [a7.2.2.2.2.2.1]; exact nI_0.symm) (fun q hq => absurd hq (Nat.not_lt_zero q)) hask v1 v2 (fun z => absurd a7.2.1 z) (fun _ => ⟨rfl, _, J, sc, it, rfl, h9⟩) (fun z => absurd a7.2.1 z)
  · have n4 : ¬ I 0 4 = 0 := by rw [a7.2.2.1.1]; exact one_ne
    have hnp := g.2.1.np
    have hT := tW_of g.2.1 g.2.2.2.1 g.2.2.2.2.1
    obtain ⟨w1, w2, w3, w4, w5, w6, w7, w8, w9⟩ := id a7.2.2.1
    rcases a6 with ⟨z1, z2⟩ | ⟨z1, z2, ask, z3, z4⟩
    · obtain ⟨V, v1, -⟩ := lonE_B a9.2.2.2.2.1
      obtain ⟨P, v2, -⟩ := lonE_B a9.2.2.2.2.2
      refine x_where (v := fun _ => 0) (S := fun _ => True) hsc a7.2.1.2.1 hnp (fun q Q' z => absurd z1 z) (fun _ => ⟨_, rfl, ?_⟩) (fun z => absurd z1 z)
      exact m_where (ask := fun _ => 0) (T := fun _ => 0) (U := fun _ => 0) (mn := pSw p p.nd) (pk := p.ps) h0 w5 hnp (fun _ => mWh_prg a7.2.2.1 g) (fun d hd => hT.2.2.2.1.2.1 d (by omega)) (tW_n hT (by omega)) w3 (by rw [pSw_le (Nat.le_refl _)]; exact w4) w2 (fun q hq => ⟨w9 q hq, (pl_ok g hq).1⟩) (fun z => absurd z2 z) v1 v2 (fun _ z => absurd z2 z) (fun _ => ⟨rfl, _, J, sc, it, rfl, h9⟩) (fun _ z => absurd z2 z)
    · have n11 : ¬ I 100 11 = 0 := by rw [z1]; exact one_ne
      have n27 : ¬ I 0 27 = 0 := by rw [z2]; exact one_ne
      obtain ⟨v, hv, hg⟩ := b_goesTo (l := l) (D := D) (cy := cy) (ad := ad) (sv := sv) (it := it) (q9 := 0) g hsc a7 z3 a9
      have lA_f : fr q23 I (lA I) := fr_set fr.rf rfl rfl rfl rfl
      have lA_a : askT (lA I) 23 ask := fun k hk => by
        unfold lA setA
        rcases (show k = 0 ∨ k = 1 ∨ k = 2 ∨ k = 3 by omega) with y | y | y | y <;> subst y
        · rw [up2_nj (by decide), up2_nj (by decide), up2_nj (by decide), up2_at]; exact z4 0 hk
        · rw [up2_nj (by decide), up2_nj (by decide), up2_at]; exact z4 1 hk
        · rw [up2_nj (by decide), up2_at]; exact z4 2 hk
        · rw [up2_at]; exact z4 3 hk
      -- the model, behind
      have mm : ∀ J1, R_long J1 → ∀ Q : Option Value → HP → Prop, (¬ (¬ I 0 4 = 0 ∧ ¬ I 0 27 = 0 ∧ 0 ≤ a.toInt ∧ a.toInt < p.np) → Q (some (.long (-1))) (I, J1, rr sc it)) → (0 ≤ a.toInt → a.toInt < p.np → ∀ J2, R_long J2 → Q (some (.long (lN (v a.toInt.toNat)))) (lA I, J2, rr sc it)) → qC l D cy ad sv 128 [.ref 0, .int a] (I, J1, rr sc it) Q := by
        intro J1 L1 Q q0 q1
        have b1 := R_pr1_fr lA_f rfl (fun o k => q23_mp) (fun o k => q23_sc hsc) (fun _ => rfl) (fun _ => rfl) (fun _ => rfl) rfl a7
        obtain ⟨X, U, hX, hU, hm⟩ := b_spendsBy (l := l) (D := D) (cy := cy) (ad := ad) (sv := sv) (sc := sc) (it := it) (sort := 0) (ask := ask) g b1.2.2.1 lA_a b1.2.2.2.2.1 L1.2.2.2.1
        obtain ⟨V, v1, -⟩ := lonE_B L1.2.2.2.2.1
        obtain ⟨P, v2, -⟩ := lonE_B L1.2.2.2.2.2
        refine m_where (ask := ask) (T := X) (U := U) (mn := pSw p p.nd) (pk := p.ps) h0 w5 hnp (fun _ => mWh_prg a7.2.2.1 g) (fun d hd => hT.2.2.2.1.2.1 d (by omega)) (tW_n hT (by omega)) w3 (by rw [pSw_le (Nat.le_refl _)]; exact w4) w2 (fun q hq => ⟨w9 q hq, (pl_ok g hq).1⟩) (fun _ => z4) v1 v2 (fun _ _ Q' hQ' => hm Q' (fun J' fo sj l1 l3 => hQ' J' _ fo l1 l3 sj.2.1)) q0 (fun _ _ y1 y2 J2 fo e1 e2 e3 e4 e5 => ?_)
        have hq : a.toInt.toNat < p.np := by omega
        obtain ⟨f, C, hf, ev⟩ := hv _ hq
        have ew := where_eq (V := V) (P := P) (C := C) (U := U) (f := f) (am := amtK ask p.F p.s.fk p.s.fv p.s.fp) (cp := cp) (ask := ask) (B := p.B) hT (fun k hk => hf k hk) (fun k hk z => by rw [hU k hk z, hf k hk]) g.2.2.2.2.2.2.2.1 (pl_ok g hq).1
        rw [ew, hX _ (pl_ok g hq).1, ← ev]
        exact q1 y1 y2 J2 ⟨⟨lonE_fr L1.1.1 fo (by decide), lonE_fr L1.1.2.1 fo (by decide), lonE_fr L1.1.2.2.1 fo (by decide), lonE_fr L1.1.2.2.2 fo (by decide)⟩, lonE_fr L1.2.1 fo (by decide), lonE_fr L1.2.2.1 fo (by decide), ⟨e1, e2, e3⟩, e4, e5⟩
      have rl : ∀ J2, R_long J2 → RelI (lA I) J2 sc := fun J2 L2 => Rel_J (Rel_23 h9 (lA_f.wide (fun o k z => by
        unfold qSp at z
        unfold q23
        simp at z ⊢
        exact z.2))) L2
      refine x_where (v := v) (S := R_long) hsc a7.2.1.2.1 hnp (fun q Q' _ hq hQ => hg q Q' hq hQ) (fun z => ⟨_, rfl, ?_⟩) (fun _ y1 y2 J1 L1 => ⟨_, rfl, ?_⟩)
      · exact mm J a9 _ (fun _ => ⟨rfl, _, J, sc, it, rfl, h9⟩) (fun y1 y2 => absurd ⟨n11, y1, y2⟩ z)
      · exact mm J1 L1 _ (fun y => absurd ⟨n4, n27, y1, y2⟩ y) (fun _ _ J2 L2 => ⟨rfl, _, J2, sc, it, rfl, rl J2 L2⟩)
end STEPS5
