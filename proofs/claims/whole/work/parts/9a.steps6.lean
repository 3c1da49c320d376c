section STEPS6
variable {l : Launch} {D : va_G} {cy ad sv : Nat → Nat} {Q : Option Value → HP → Prop} {I : Nat → Nat → Int32} {J : Nat → Nat → Int64} {sc it : Nat} {h : HP} {p : PS} {T : Nat → Nat} {n : Nat} {cp : Nat → Option Nat} {os : Nat → Nat → Nat} {no : Nat} {sz wt : Nat → Nat}
/-- times of the few, and of all -/
def vR (p : PS) (sz : Nat → Nat) (cp : Nat → Option Nat) (i : Nat) : Nat := brV p 0 cp (dgD (rchK (nI p.s.un) sz) i)
def vF (p : PS) (sz : Nat → Nat) (cp : Nat → Option Nat) (i : Nat) : Nat := brV p 0 cp (dgD sz i)
def bR9 (p : PS) (sz : Nat → Nat) (os : Nat → Nat → Nat) (no : Nat) (b : Int) : Option Nat := fwR (vR p sz) b p.np (ndV p os no) (rsL (vR p sz (fun _ => none)) b (prN (rchK (nI p.s.un) sz) 4))
def bF9 (p : PS) (sz : Nat → Nat) (os : Nat → Nat → Nat) (no : Nat) (b : Int) : Option Nat := bgM (bgP (vF p sz) b p.np (prN sz 4) (ndV p os no)) p.np (p.np + 1) 0
set_option maxHeartbeats 400000 in
theorem b_same (g : PG p T n) {b : Int} : bR9 p sz os no b = (bF9 p sz os no b).map (rvN p.np) := by
  unfold bR9 bF9
  exact budg_same (us := usB p) g.2.1.np (rch_us g) (fun cp i j hij => br_us g hij) (fun cp cp' i hc => brV_mono g.2.1 g.2.2.2.1 g.2.2.2.2.1 hc)
theorem pF_b {o k : Nat} (h : qBd o k = false) : pF o k = false := by
  unfold qBd at h
  unfold pF
  simp at h ⊢
  omega
theorem pF_e {o k : Nat} (h : qBe o k = false) : pF o k = false := by
  unfold qBe at h
  unfold pF
  simp at h ⊢
  omega
set_option maxHeartbeats 800000 in
theorem b_fewest {b : Int64} (g : PG p T n) (hsc : sc = 120 ∨ sc = 140) (a7 : R_pr1 I sc p cp) (s1 : szT I 201 sz) (o1 : no ≤ 12) (o2 : I 210 3 = nI no) (o4 : ordT I 213 no os) (hJ : R_long J) (hQ : ∀ I' J', fr pF I I' → R_long J' → (∀ q, q < p.np → J' 216 q = lN (ndV p os no q)) → Q (some (.int (opI (bR9 p sz os no b.toInt)))) (I', J', rr sc it)) : qC l D cy ad sv 25 [.ref 210, .ref sc, .long b] (I, J, rr sc it) Q := by
  have hn : ∀ (I' : Nat → Nat → Int32) (J' : Nat → Nat → Int64) (q : Nat) (Q' : Option Value → HP → Prop), q < p.np → frI 215 I I' → (∀ I2, frI 215 I I2 → Q' (some (.long (lN (ndV p os no q)))) (I2, J', rr sc it)) → qC l D cy ad sv 24 [.ref 210, .ref sc, .int (nI q)] (I', J', rr sc it) Q' := fun I' J' q Q' hq f hQ' => by
    refine b_needC g hsc (cWh_eq a7.2.1 (fun o x1 x2 => f o (by rcases hsc with rfl | rfl <;> omega))) o1 (by rw [f 210 (by decide)]; exact o2) (fun i hi k hk => by rw [f 213 (by decide)]; exact o4 i hi k hk) hq (fun I2 f2 => hQ' I2 (fun o ho => by rw [f2 o ho, f o ho]))
  have hm : ∀ (I' : Nat → Nat → Int32) (J' : Nat → Nat → Int64) (cp9 : Nat → Option Nat) (i : Nat) (Q' : Option Value → HP → Prop), fr pF I I' → scrC J' → capT I' 217 cp9 → rowT I' 204 (dgD (rchK (nI p.s.un) sz) i) → (∀ J2, frO [181, 182, 183, 184] J' J2 → scrC J2 → Q' (some (.long (lN (vR p sz cp9 i)))) (I', J2, rr sc it)) → qC l D cy ad sv 12 [.ref 180, .int 0, .ref sc, .ref 217, .ref 204] (I', J', rr sc it) Q' := fun I' J' cp9 i Q' f hs hc hrow hQ' => by
    have fq : fr qBd I I' := f.wide (fun o k => pF_b)
    obtain ⟨f9, W9, -, -, hb⟩ := b_brings (l := l) (D := D) (cy := cy) (ad := ad) (sv := sv) (it := it) (sort := 0) (c := 217) (q := 204) (ask := dgD (rchK (nI p.s.un) sz) i) (cp := cp9) (J := J') g hsc (cWh_eq a7.2.1 (fun o x1 x2 => funext (fun k => fq o k (qBd_sc hsc x1 x2)))) ka_217 kb_217 ka_204 kb_204 (row_ask hrow (fun k hk => Nat.le_trans (dgD_le _ _ _) (rchK_le (s1 k hk).2))) hc hs
    exact hb _ (fun J2 fj sj _ _ => hQ' J2 fj sj)
  have fin : ∀ I' J', fr pF I I' → frO [181, 182, 183, 184, 216] J J' → scrC J' → (∀ q, q < p.np → J' 216 q = lN (ndV p os no q)) → Q (some (.int (opI (bR9 p sz os no b.toInt)))) (I', J', rr sc it) := fun I' J' f fo hs hd => hQ I' J' f ⟨hs, lonE_fr hJ.2.1 fo (by decide), lonE_fr hJ.2.2.1 fo (by decide), scrM_fr hJ.2.2.2.1 fo (by decide) (by decide) (by decide), lonE_fr hJ.2.2.2.2.1 fo (by decide), lonE_fr hJ.2.2.2.2.2 fo (by decide)⟩ hd
  have hv : ∀ cp9 i, vR p sz cp9 i ≤ MU := fun cp9 i => brV_le g.2.1 g.2.2.2.1 g.2.2.2.2.1
  rcases hsc with rfl | rfl
  · exact x_fewest_120 (nd := ndV p os no) (v := vR p sz) bc_ok a7.2.1.2.1 g.2.1.np a7.2.1.2.2.2.1 s1 hJ.1 hv (fun _ => ndV_le) hn hm fin
  · exact x_fewest_140 (nd := ndV p os no) (v := vR p sz) bc_ok a7.2.1.2.1 g.2.1.np a7.2.1.2.2.2.1 s1 hJ.1 hv (fun _ => ndV_le) hn hm fin
def q3M (o _k : Nat) : Bool := o == 22 || o == 23 || o == 34
theorem q3M_e {o k : Nat} (h : qBe o k = false) : q3M o k = false := by
  unfold qBe at h
  unfold q3M
  simp at h ⊢
  omega
theorem q3M_mp {o k : Nat} (h : mpF o k = true) : q3M o k = false := by
  unfold mpF at h
  unfold q3M
  simp at h ⊢
  omega
set_option maxHeartbeats 800000 in
theorem b_mbud {b : Int64} (g : PG p T n) (h0 : I 0 0 = 0) (hw : mWh I p) (h22 : ∀ q, p.np ≤ q → q < 8 → I 22 q = -1) (s2 : szT I 3 sz) (o1 : no ≤ 12) (o3 : I 0 30 = nI no) (o5 : ordT I 32 no os) (hJ : R_long J)
    (e1 : ¬ 0 ≤ b.toInt → Q (some (.int (-1))) (up2 I 0 1 (-1), J, rr sc it))
    (e3 : 0 ≤ b.toInt → bF9 p sz os no b.toInt = none → ∀ I' J', fr q3M I I' → (∀ q, q < 8 → I' 22 q = I 22 q) → R_long J' → Q (some (.int (-6))) (up2 I' 0 1 (-6), J', rr sc it))
    (h1 : 0 ≤ b.toInt → ∀ c, bF9 p sz os no b.toInt = some c → ∀ I' J', fr q3M I I' → (∀ q, q < 8 → I' 22 q = pcI I c (ndV p os no) p.np 22 q) → R_long J' → Q (some (.int (nI (pc8 c)))) (up2 I' 0 1 0, J', rr sc it)) : qC l D cy ad sv 136 [.ref 0, .long b] (I, J, rr sc it) Q := by
  have n4 : ¬ I 0 4 = 0 := by rw [hw.1]; exact one_ne
  have fin : ∀ J', frO [24, 25, 26, 33] J J' → scrM J' → R_long J' := fun J' fo hs => ⟨⟨lonE_fr hJ.1.1 fo (by decide), lonE_fr hJ.1.2.1 fo (by decide), lonE_fr hJ.1.2.2.1 fo (by decide), lonE_fr hJ.1.2.2.2 fo (by decide)⟩, lonE_fr hJ.2.1 fo (by decide), lonE_fr hJ.2.2.1 fo (by decide), hs, lonE_fr hJ.2.2.2.2.1 fo (by decide), lonE_fr hJ.2.2.2.2.2 fo (by decide)⟩
  refine m_budgets (nd := ndV p os no) (v := vF p sz) h0 hw.2.2.2.2.1 g.2.1.np h22 s2 hJ.2.2.2.1 (fun cp9 i => brV_le g.2.1 g.2.2.2.1 g.2.2.2.2.1) (fun _ => ndV_le) (fun _ I' J' q Q' hq f hQ' => ?_) (fun _ I' J' cp9 i Q' f hs hc hrow hQ' => ?_) e1 (fun _ z => absurd z n4) (fun z _ hb I' J' f hc fo hs => e3 z hb I' J' f hc (fin J' fo hs)) (fun z _ c hb I' J' f hc fo hs => h1 z c hb I' J' f hc (fin J' fo hs))
  · have fq : fr q3M I I' := f.wide (fun o k z => by
      unfold q3M at z
      simp at z ⊢
      exact ⟨z.1.2, z.2⟩)
    refine b_needM g (mWh_fr fq (fun o k => q3M_mp) hw) o1 (by rw [f 0 30 rfl]; exact o3) (fun i hi k hk => by rw [f 32 _ rfl]; exact o5 i hi k hk) hq hQ'
  · obtain ⟨f9, W9, -, -, hb⟩ := b_spendsBy (l := l) (D := D) (cy := cy) (ad := ad) (sv := sv) (sc := sc) (it := it) (sort := 0) (ask := dgD sz i) (cp := cp9) (J := J') g (mWh_fr (q := q3M) f (fun o k => q3M_mp) hw) (row_ask hrow (fun k hk => Nat.le_trans (dgD_le _ _ _) (s2 k hk).2)) hc hs
    exact hb _ (fun J2 fj sj _ _ => hQ' J2 fj sj)
set_option maxHeartbeats 400000 in
theorem R_pr1_cap {I' : Nat → Nat → Int32} {cp' : Nat → Option Nat} (hsc : sc = 120 ∨ sc = 140) (hf : fr qBe I I') (c1 : capT I' 110 cp') (c2 : capT I' 22 cp') (c3 : ∀ q, p.np ≤ q → cp' q = none) (h : R_pr1 I sc p cp) : R_pr1 I' sc p cp' := by
  obtain ⟨a, b, c, d, e, f, g, i⟩ := h
  exact ⟨by rw [hf 100 8 rfl]; exact a, cWh_eq b (fun o x1 x2 => funext (fun k => hf o k (qBe_sc hsc x1 x2))), mWh_fr hf (fun o k => qBe_mp) c, c1, c2, c3, fun k hk => by rw [hf 191 k rfl]; exact g k hk, by rw [hf 190 1 rfl]; exact i⟩
set_option maxHeartbeats 400000 in
theorem Rel_be {I' : Nat → Nat → Int32} {J' : Nat → Nat → Int64} {cp' : Nat → Option Nat} (h : RelI I J sc) (hf : fr qBe I I') (hs : R_stat I') (h1 : R_pr1 I' sc p cp') (g : PG p T n) (hJ : R_long J') : RelI I' J' sc := by
  obtain ⟨hsc, h0, a1, a2, a3, a4, a5, a6, a7, a8, a9⟩ := h
  exact ⟨hsc, by rw [hf 0 0 rfl]; exact h0, R_tape_fr hf rfl rfl (fun _ => rfl) (fun _ => rfl) a1, R_name_fr hf (fun _ => rfl) (fun _ => rfl) (fun _ => rfl) (fun _ => rfl) a2, hs, R_faul_fr hf rfl rfl a4, R_ord_fr hf rfl rfl (fun _ => rfl) (fun _ => rfl) a5, R_lat_fr hf rfl rfl (fun _ => rfl) (fun _ => rfl) a6, Or.inr ⟨p, T, n, cp', g, h1⟩, R_wi_fr hf (fun _ => rfl) a8, hJ⟩
set_option maxHeartbeats 800000 in
theorem st_budgets {b : Int64} (hr : Rel h) : StepI l D cy ad sv 82 136 [.long b] h := by
  obtain ⟨I, J, sc, it, rfl, h⟩ := hr
  have h9 := h
  obtain ⟨hsc, h0, a1, a2, a3, a4, a5, a6, a7, a8, a9⟩ := h
  obtain ⟨sz, wt, s1, s2, w1, w2⟩ := a2
  obtain ⟨no, os, o1, o2, o3, o4, o5⟩ := a5
  have st : ∀ x : Int32, RelI (up2 (up2 I 100 14 x) 0 1 x) J sc := fun x => Rel_st h9 ((fr.rf.up rfl).up rfl) (by unfold R_stat; rw [up2_ne' (by decide), up2_at, up2_at])
  rcases a7 with a7 | ⟨p, T, n, cp, g, a7⟩
  · have np0 : I sc 1 = nI 0 := by rw [a7.2.2.2.1]; exact nI_0.symm
    have m0 : I 0 19 = nI 0 := by rw [a7.2.2.2.2.2.2.2.1]; exact nI_0.symm
    have mq : ∀ x : Int32, ∀ Q : Option Value → HP → Prop, (¬ 0 ≤ b.toInt → Q (some (.int (-1))) (up2 (up2 I 100 14 x) 0 1 (-1), J, rr sc it)) → (0 ≤ b.toInt → Q (some (.int (-6))) (up2 (up2 I 100 14 x) 0 1 (-6), J, rr sc it)) → qC l D cy ad sv 136 [.ref 0, .long b] (up2 I 100 14 x, J, rr sc it) Q := fun x Q q1 q2 => by
      have z4 : up2 I 100 14 x 0 4 = 0 := by rw [up2_ne' (by decide)]; exact a7.2.1
      exact m_budgets (np := 0) (nd := fun _ => 0) (v := fun _ _ => 0) (by rw [up2_ne' (by decide)]; exact h0) (by rw [up2_ne' (by decide)]; exact m0) (by omega) (fun q _ hq => by rw [up2_ne' (by decide)]; exact a7.2.2.2.2.2.2.2.2.2.1 q hq) (szT_ne s2 (by decide)) a9.2.2.2.1 (fun _ _ => Nat.zero_le _) (fun _ => Nat.zero_le _) (fun z => absurd z4 z) (fun z => absurd z4 z) q1 (fun z _ => q2 z) (fun _ z => absurd z4 z) (fun _ z => absurd z4 z)
    refine x_budgets (np := 0) (nd := fun _ => 0) (R := none) (P := fun _ _ => False) bc_ok hsc np0 (by omega) (fun c hc => by cases hc) (fun _ _ z => z.elim) (fun _ z => absurd a7.1 z) (fun z => ⟨_, rfl, ?_⟩) (fun z _ => ⟨_, rfl, ?_⟩) (fun _ z => absurd a7.1 z) (fun _ z => absurd a7.1 z)
    · exact mq _ _ (fun _ => ⟨rfl, _, J, sc, it, rfl, st (-1)⟩) (fun y => absurd y z)
    · exact mq _ _ (fun y => absurd z y) (fun _ => ⟨rfl, _, J, sc, it, rfl, st (-6)⟩)
  · have hnp := g.2.1.np
    have n8 : ¬ I 100 8 = 0 := by rw [a7.1]; exact one_ne
    have sm := b_same (sz := sz) (os := os) (no := no) (b := b.toInt) g
    have c22 : ∀ q, p.np ≤ q → q < 8 → I 22 q = -1 := fun q x1 x2 => by
      rcases a7.2.2.2.2.1 q x2 with ⟨_, y⟩ | ⟨v, y, _⟩
      · exact y
      · rw [a7.2.2.2.2.2.1 q x1] at y; cases y
    have bs : ∀ c, bF9 p sz os no b.toInt = some c → c < 2 ^ p.np ∧ cnB c (ndV p os no) p.np = true := fun c hc => by
      obtain ⟨x1, k, x2⟩ := bgM_some hnp hc
      unfold bgP at x2
      simp only [Bool.and_eq_true] at x2
      exact ⟨x1, x2.1.2⟩
    have rvf : ∀ c, c < 2 ^ p.np → rvN p.np c < 2 ^ p.np ∧ pc8 (rvN p.np c) = pc8 c := fun c hc => by
      have := rv_all p.np (by omega) c (Nat.lt_of_lt_of_le hc (pw8 hnp)) hc
      exact ⟨this.1, this.2.1⟩
    refine x_budgets (np := p.np) (nd := ndV p os no) (R := bR9 p sz os no b.toInt) (P := fun I' J' => fr pF I I' ∧ R_long J' ∧ ∀ q, q < p.np → J' 216 q = lN (ndV p os no q)) bc_ok hsc a7.2.1.2.1 hnp (fun c hc => ?_) (fun I' J' z => ⟨z.1, z.2.2⟩) (fun _ _ Q' hQ' => b_fewest g hsc a7 s1 o1 o2 o4 a9 (fun I' J' f L d => hQ' I' J' ⟨f, L, d⟩)) (fun z => ⟨_, rfl, ?_⟩) (fun _ z => absurd z n8) (fun z _ hR I' J' hP => ⟨_, rfl, ?_⟩) (fun z _ c hR I' J' hP => ⟨_, rfl, ?_⟩)
    · rw [sm] at hc
      cases e : bF9 p sz os no b.toInt with
      | none => rw [e] at hc; cases hc
      | some s =>
        rw [e] at hc
        have hc : some (rvN p.np s) = some c := hc
        cases hc
        exact Nat.lt_of_lt_of_le (rvf s (bs s e).1).1 (pw8 hnp)
    · refine b_mbud g (by rw [up2_ne' (by decide)]; exact h0) (mWh_fr (q := qSt) (fr.rf.up rfl) (fun o k => qSt_mp) a7.2.2.1) (fun q x1 x2 => by rw [up2_ne' (by decide)]; exact c22 q x1 x2) (szT_ne s2 (by decide)) o1 (by rw [up2_ne' (by decide)]; exact o3) (fun i hi k hk => by rw [up2_ne' (by decide)]; exact o5 i hi k hk) a9 (fun _ => ⟨rfl, _, J, sc, it, rfl, st (-1)⟩) (fun y => absurd y z) (fun y => absurd y z)
    · -- none
      have f1 : fr qBe I (up2 I' 100 14 (-6)) := (hP.1.wide (fun o k => pF_e)).up rfl
      have g1 : fr (fun o k => pF o k || (o == 100 && k == 14)) I (up2 I' 100 14 (-6)) := (hP.1.wide (fun o k z => (Bool.or_eq_false_iff.mp z).1)).up rfl
      refine b_mbud g (by rw [g1 0 0 rfl]; exact h0) (mWh_fr g1 (fun o k z => by
        have z1 := qBe_mp z
        rw [pF_e z1]
        unfold qBe at z1
        simp at z1 ⊢
        omega) a7.2.2.1) (fun q x1 x2 => by rw [g1 22 q rfl]; exact c22 q x1 x2) (fun k hk => by rw [g1 3 k rfl]; exact s2 k hk) o1 (by rw [g1 0 30 rfl]; exact o3) (fun i hi k hk => by rw [g1 32 _ rfl]; exact o5 i hi k hk) hP.2.1 (fun y => absurd z y) (fun _ _ I2 J2 f2 c2 L2 => ⟨rfl, _, J2, sc, it, rfl, ?_⟩) (fun _ c hc => ?_)
      · have hf : fr qBe I (up2 I2 0 1 (-6)) := (f1.ups (f2.wide (fun o k => q3M_e))).up rfl
        have x14 : up2 I2 0 1 (-6) 100 14 = -6 := by rw [up2_ne' (by decide), f2 100 14 rfl, up2_at]
        have r1 : R_pr1 (up2 I2 0 1 (-6)) sc p cp := R_pr1_cap hsc hf (fun q hq => by rw [up2_ne' (by decide), f2 110 q rfl, g1 110 q rfl]; exact a7.2.2.2.1 q hq) (fun q hq => by rw [up2_ne' (by decide), c2 q hq, g1 22 q rfl]; exact a7.2.2.2.2.1 q hq) a7.2.2.2.2.2.1 a7
        exact Rel_be h9 hf (by unfold R_stat; rw [x14, up2_at]) r1 g L2
      · rw [sm, hc] at hR
        cases hR
    · -- some
      cases e : bF9 p sz os no b.toInt with
      | none =>
        rw [sm, e] at hR
        cases hR
      | some s =>
        rw [sm, e] at hR
        have hR : some (rvN p.np s) = some c := hR
        cases hR
        obtain ⟨s2p, can⟩ := bs s e
        have rf := rv_all p.np (by omega) s (Nat.lt_of_lt_of_le s2p (pw8 hnp)) s2p
        have g0 : fr (fun o k => pF o k || o == 110 || (o == 100 && k == 14)) I (up2 (ccI I' 110 p.np (rvN p.np s) (ndV p os no) p.np) 100 14 0) := by
          refine fr.up (fun o k z => ?_) rfl
          have z1 := (Bool.or_eq_false_iff.mp (Bool.or_eq_false_iff.mp z).1)
          rw [ccI_ne (by simpa using z1.2)]
          exact hP.1 o k z1.1
        have f1 : fr qBe I (up2 (ccI I' 110 p.np (rvN p.np s) (ndV p os no) p.np) 100 14 0) := g0.wide (fun o k z => by
          rw [pF_e z]
          unfold qBe at z
          simp at z ⊢
          omega)
        have x110 : ∀ q, q < 8 → up2 (ccI I' 110 p.np (rvN p.np s) (ndV p os no) p.np) 100 14 0 110 q = if q < p.np ∧ (rvN p.np s).testBit (p.np - 1 - q) = true then nI (ndV p os no q) else -1 := fun q hq => by
          rw [up2_ne' (by decide)]
          unfold ccI
          rw [if_pos ⟨rfl, hq⟩]
        have x14 : up2 (ccI I' 110 p.np (rvN p.np s) (ndV p os no) p.np) 100 14 0 100 14 = 0 := up2_at
        generalize up2 (ccI I' 110 p.np (rvN p.np s) (ndV p os no) p.np) 100 14 0 = I1 at g0 f1 x110 x14 ⊢
        refine b_mbud (sz := sz) (os := os) (no := no) g (by rw [g0 0 0 rfl]; exact h0) (mWh_fr g0 (fun o k z => by
          have z1 := qBe_mp z
          rw [pF_e z1]
          unfold qBe at z1
          simp at z1 ⊢
          omega) a7.2.2.1) (fun q x1 x2 => by rw [g0 22 q rfl]; exact c22 q x1 x2) (fun k hk => by rw [g0 3 k rfl]; exact s2 k hk) o1 (by rw [g0 0 30 rfl]; exact o3) (fun i hi k hk => by rw [g0 32 _ rfl]; exact o5 i hi k hk) hP.2.1 (fun y => absurd z y) (fun _ y => absurd (y.symm.trans e) (fun w => by cases w)) (fun _ c9 hc9 I2 J2 f2 c2 L2 => ?_)
        rw [e] at hc9
        cases hc9
        refine ⟨by rw [rf.2.1], _, J2, sc, it, rfl, ?_⟩
        have hf : fr qBe I (up2 I2 0 1 0) := (f1.ups (f2.wide (fun o k => q3M_e))).up rfl
        have y14 : up2 I2 0 1 0 100 14 = 0 := by rw [up2_ne' (by decide), f2 100 14 rfl]; exact x14
        have lim : ∀ q, q < p.np → s.testBit q = true → ndV p os no q ≤ 1000000 := (cnB_iff p.np).mp can
        have r1 : R_pr1 (up2 I2 0 1 0) sc p (cpO p.np (rvN p.np s) (ndV p os no)) := by
          refine R_pr1_cap hsc hf (fun q hq => ?_) (fun q hq => ?_) (fun q hq => ?_) a7
          · rw [up2_ne' (by decide), f2 110 q rfl, x110 q hq]
            unfold cpO
            by_cases y : q < p.np ∧ (rvN p.np s).testBit (p.np - 1 - q) = true
            · rw [if_pos y, if_pos y]
              have y2 := y.2
              rw [rf.2.2.2.1 q hq y.1] at y2
              exact Or.inr ⟨_, rfl, rfl, lim q y.1 y2⟩
            · rw [if_neg y, if_neg y]
              exact Or.inl ⟨rfl, rfl⟩
          · rw [up2_ne' (by decide), c2 q hq]
            by_cases y : q < p.np
            · have e1 : pcI I1 s (ndV p os no) p.np 22 q = if s.testBit q = true then nI (ndC (ndV p os no) q) else -1 := by unfold pcI; rw [if_pos ⟨rfl, y⟩]
              by_cases w : s.testBit q = true
              · have e2 : cpO p.np (rvN p.np s) (ndV p os no) q = some (ndV p os no q) := by unfold cpO; rw [if_pos ⟨y, by rw [rf.2.2.2.1 q hq y]; exact w⟩]
                have := lim q y w
                rw [e1, e2, if_pos w]
                unfold ndC
                rw [if_neg (by omega)]
                exact Or.inr ⟨_, rfl, rfl, this⟩
              · have e2 : cpO p.np (rvN p.np s) (ndV p os no) q = none := by unfold cpO; rw [if_neg (fun v => by have v2 := v.2; rw [rf.2.2.2.1 q hq y] at v2; exact w v2)]
                rw [e1, e2, if_neg w]
                exact Or.inl ⟨rfl, rfl⟩
            · have e1 : pcI I1 s (ndV p os no) p.np 22 q = I1 22 q := by unfold pcI; rw [if_neg (fun v => y v.2)]
              have e2 : cpO p.np (rvN p.np s) (ndV p os no) q = none := by unfold cpO; rw [if_neg (fun v => y v.1)]
              rw [e1, e2, g0 22 q rfl]
              exact Or.inl ⟨rfl, c22 q (by omega) hq⟩
          · unfold cpO
            rw [if_neg (fun v => by omega)]
        exact Rel_be h9 hf (by unfold R_stat; rw [y14, up2_at]) r1 g L2
end STEPS6
