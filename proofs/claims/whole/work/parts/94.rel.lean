/-! the relation of both states -/
def PG (p : PS) (T : Nat → Nat) (n : Nat) : Prop := n ≤ 400 ∧ pW T n p ∧ pV p ∧ pN p ∧ whP n p = true ∧ pUs p
def R_tape (I : Nat → Nat → Int32) : Prop := ∃ T n, n ≤ 400 ∧ I 160 1 = nI n ∧ I 0 57 = nI n ∧ tapT I 161 T n ∧ tapT I 57 T n
def R_name (I : Nat → Nat → Int32) : Prop := ∃ sz wt, szT I 201 sz ∧ szT I 3 sz ∧ wtT I 202 wt ∧ wtT I 4 wt
def R_stat (I : Nat → Nat → Int32) : Prop := I 100 14 = I 0 1
def R_faul (I : Nat → Nat → Int32) : Prop := I 100 13 = I 0 62
def R_ord (I : Nat → Nat → Int32) : Prop := ∃ no os, no ≤ 12 ∧ I 210 3 = nI no ∧ I 0 30 = nI no ∧ ordT I 213 no os ∧ ordT I 32 no os
def R_lat (I : Nat → Nat → Int32) : Prop := (I 100 11 = 0 ∧ I 0 27 = 0) ∨ (I 100 11 = 1 ∧ I 0 27 = 1 ∧ ∃ a, askT I 111 a ∧ askT I 27 a)
def R_pr0 (I : Nat → Nat → Int32) (sc : Nat) : Prop := I 100 8 = 0 ∧ I 0 4 = 0 ∧ I sc 0 = 0 ∧ I sc 1 = 0 ∧ I sc 2 = 0 ∧ I 0 5 = 0 ∧ I 0 15 = 0 ∧ I 0 19 = 0 ∧ (∀ q, q < 8 → I 110 q = -1) ∧ (∀ q, q < 8 → I 22 q = -1) ∧ I 190 1 = 0 ∧ I 0 18 = 0
def R_pr1 (I : Nat → Nat → Int32) (sc : Nat) (p : PS) (cp : Nat → Option Nat) : Prop := I 100 8 = 1 ∧ cWh I sc p ∧ mWh I p ∧ capT I 110 cp ∧ capT I 22 cp ∧ (∀ q, p.np ≤ q → cp q = none) ∧ natT I 191 (lkH p) 8 ∧ I 190 1 = nI (ledB (wkO 8 0 (lkH p)) 8)
def R_prog (I : Nat → Nat → Int32) (sc : Nat) : Prop := R_pr0 I sc ∨ ∃ p T n cp, PG p T n ∧ R_pr1 I sc p cp
def R_wi (I : Nat → Nat → Int32) : Prop := ∃ w, natT I 35 w 6
def R_long (J : Nat → Nat → Int64) : Prop := scrC J ∧ lonE J 185 60 ∧ lonE J 186 7 ∧ scrM J ∧ lonE J 29 60 ∧ lonE J 30 6
def RelI (I : Nat → Nat → Int32) (J : Nat → Nat → Int64) (sc : Nat) : Prop := (sc = 120 ∨ sc = 140) ∧ I 0 0 = 0 ∧ R_tape I ∧ R_name I ∧ R_stat I ∧ R_faul I ∧ R_ord I ∧ R_lat I ∧ R_prog I sc ∧ R_wi I ∧ R_long J
def Rel (h : HP) : Prop := ∃ I J sc it, h = (I, J, rr sc it) ∧ RelI I J sc
section FRAMES
variable {I I' : Nat → Nat → Int32} {J J' : Nat → Nat → Int64} {q : Nat → Nat → Bool} {sc : Nat}
theorem R_tape_fr (hf : fr q I I') (h1 : q 160 1 = false) (h2 : q 0 57 = false) (h3 : ∀ k, q 161 k = false) (h4 : ∀ k, q 57 k = false) (h : R_tape I) : R_tape I' := by
  obtain ⟨T, n, a, b, c, d, e⟩ := h
  exact ⟨T, n, a, by rw [hf 160 1 h1]; exact b, by rw [hf 0 57 h2]; exact c, fun k hk => by rw [hf 161 k (h3 k)]; exact d k hk, fun k hk => by rw [hf 57 k (h4 k)]; exact e k hk⟩
theorem R_name_fr (hf : fr q I I') (h1 : ∀ k, q 201 k = false) (h2 : ∀ k, q 3 k = false) (h3 : ∀ k, q 202 k = false) (h4 : ∀ k, q 4 k = false) (h : R_name I) : R_name I' := by
  obtain ⟨sz, wt, a, b, c, d⟩ := h
  exact ⟨sz, wt, fun k hk => by rw [hf 201 k (h1 k)]; exact a k hk, fun k hk => by rw [hf 3 k (h2 k)]; exact b k hk, fun k hk => by rw [hf 202 k (h3 k)]; exact c k hk, fun k hk => by rw [hf 4 k (h4 k)]; exact d k hk⟩
theorem R_stat_fr (hf : fr q I I') (h1 : q 100 14 = false) (h2 : q 0 1 = false) (h : R_stat I) : R_stat I' := by
  unfold R_stat at h ⊢
  rw [hf 100 14 h1, hf 0 1 h2]
  exact h
theorem R_faul_fr (hf : fr q I I') (h1 : q 100 13 = false) (h2 : q 0 62 = false) (h : R_faul I) : R_faul I' := by
  unfold R_faul at h ⊢
  rw [hf 100 13 h1, hf 0 62 h2]
  exact h
theorem R_ord_fr (hf : fr q I I') (h1 : q 210 3 = false) (h2 : q 0 30 = false) (h3 : ∀ k, q 213 k = false) (h4 : ∀ k, q 32 k = false) (h : R_ord I) : R_ord I' := by
  obtain ⟨no, os, a, b, c, d, e⟩ := h
  exact ⟨no, os, a, by rw [hf 210 3 h1]; exact b, by rw [hf 0 30 h2]; exact c, fun i hi k hk => by rw [hf 213 _ (h3 _)]; exact d i hi k hk, fun i hi k hk => by rw [hf 32 _ (h4 _)]; exact e i hi k hk⟩
theorem R_lat_fr (hf : fr q I I') (h1 : q 100 11 = false) (h2 : q 0 27 = false) (h3 : ∀ k, q 111 k = false) (h4 : ∀ k, q 27 k = false) (h : R_lat I) : R_lat I' := by
  rcases h with ⟨a, b⟩ | ⟨a, b, x, c, d⟩
  · exact Or.inl ⟨by rw [hf 100 11 h1]; exact a, by rw [hf 0 27 h2]; exact b⟩
  · exact Or.inr ⟨by rw [hf 100 11 h1]; exact a, by rw [hf 0 27 h2]; exact b, x, fun k hk => by rw [hf 111 k (h3 k)]; exact c k hk, fun k hk => by rw [hf 27 k (h4 k)]; exact d k hk⟩
theorem R_wi_fr (hf : fr q I I') (h1 : ∀ k, q 35 k = false) (h : R_wi I) : R_wi I' := by
  obtain ⟨w, a⟩ := h
  exact ⟨w, fun k hk => by rw [hf 35 k (h1 k)]; exact a k hk⟩
/-- the model's tables of a program -/
def mpF (o k : Nat) : Bool := (o == 0 && (k == 4 || k == 5 || k == 15 || k == 18 || k == 19)) || (decide (7 ≤ o) && decide (o ≤ 15)) || o == 17 || o == 18 || o == 21
theorem mWh_fr {p : PS} (hf : fr q I I') (h1 : ∀ o k, mpF o k = true → q o k = false) (h : mWh I p) : mWh I' p := by
  obtain ⟨w1, w2, w3, w4, w5, w6, w7, w8, w9⟩ := h
  refine ⟨by rw [hf 0 4 (h1 0 4 rfl)]; exact w1, by rw [hf 0 5 (h1 0 5 rfl)]; exact w2, by rw [hf 0 15 (h1 0 15 rfl)]; exact w3, by rw [hf 0 18 (h1 0 18 rfl)]; exact w4, by rw [hf 0 19 (h1 0 19 rfl)]; exact w5, fun k hk => ?_, fun f hf9 => by rw [hf 13 f (h1 13 f rfl), hf 14 f (h1 14 f rfl), hf 15 f (h1 15 f rfl)]; exact w7 f hf9, fun d hd => by rw [hf 17 d (h1 17 d rfl), hf 18 d (h1 18 d rfl)]; exact w8 d hd, fun x hx => by rw [hf 21 x (h1 21 x rfl)]; exact w9 x hx⟩
  have z := w6 k hk
  unfold mWr at z ⊢
  rw [hf 7 k (h1 7 k rfl), hf 8 k (h1 8 k rfl), hf 9 k (h1 9 k rfl), hf 10 k (h1 10 k rfl), hf 11 k (h1 11 k rfl), hf 12 k (h1 12 k rfl), hf 12 (k + 1) (h1 12 (k + 1) rfl)]
  exact z
theorem capT_fr {o : Nat} {cp : Nat → Option Nat} (hf : fr q I I') (h1 : ∀ k, q o k = false) (h : capT I o cp) : capT I' o cp := fun x hx => by
  rw [hf o x (h1 x)]
  exact h x hx
theorem R_pr1_fr {p : PS} {cp : Nat → Option Nat} (hf : fr q I I') (h0 : q 100 8 = false) (h1 : ∀ o k, mpF o k = true → q o k = false) (h2 : ∀ o k, sc ≤ o → o ≤ sc + 16 → q o k = false) (h3 : ∀ k, q 110 k = false) (h4 : ∀ k, q 22 k = false) (h5 : ∀ k, q 191 k = false) (h6 : q 190 1 = false) (h : R_pr1 I sc p cp) : R_pr1 I' sc p cp := by
  obtain ⟨a, b, c, d, e, f, g, i⟩ := h
  exact ⟨by rw [hf 100 8 h0]; exact a, cWh_eq b (fun o x1 x2 => funext (fun k => hf o k (h2 o k x1 x2))), mWh_fr hf h1 c, capT_fr hf h3 d, capT_fr hf h4 e, f, fun k hk => by rw [hf 191 k (h5 k)]; exact g k hk, by rw [hf 190 1 h6]; exact i⟩
theorem R_pr0_fr (hf : fr q I I') (h0 : q 100 8 = false) (h1 : ∀ o k, mpF o k = true → q o k = false) (h2 : ∀ o k, sc ≤ o → o ≤ sc + 16 → q o k = false) (h3 : ∀ k, q 110 k = false) (h4 : ∀ k, q 22 k = false) (h6 : q 190 1 = false) (h : R_pr0 I sc) : R_pr0 I' sc := by
  obtain ⟨a1, a2, a3, a4, a5, a6, a7, a8, a9, a10, a11, a12⟩ := h
  exact ⟨by rw [hf 100 8 h0]; exact a1, by rw [hf 0 4 (h1 0 4 rfl)]; exact a2, by rw [hf sc 0 (h2 sc 0 (by omega) (by omega))]; exact a3, by rw [hf sc 1 (h2 sc 1 (by omega) (by omega))]; exact a4, by rw [hf sc 2 (h2 sc 2 (by omega) (by omega))]; exact a5, by rw [hf 0 5 (h1 0 5 rfl)]; exact a6, by rw [hf 0 15 (h1 0 15 rfl)]; exact a7, by rw [hf 0 19 (h1 0 19 rfl)]; exact a8, fun x hx => by rw [hf 110 x (h3 x)]; exact a9 x hx, fun x hx => by rw [hf 22 x (h4 x)]; exact a10 x hx, by rw [hf 190 1 h6]; exact a11, by rw [hf 0 18 (h1 0 18 rfl)]; exact a12⟩
theorem R_prog_fr (hf : fr q I I') (h0 : q 100 8 = false) (h1 : ∀ o k, mpF o k = true → q o k = false) (h2 : ∀ o k, sc ≤ o → o ≤ sc + 16 → q o k = false) (h3 : ∀ k, q 110 k = false) (h4 : ∀ k, q 22 k = false) (h5 : ∀ k, q 191 k = false) (h6 : q 190 1 = false) (h : R_prog I sc) : R_prog I' sc := by
  rcases h with h | ⟨p, T, n, cp, g, h⟩
  · exact Or.inl (R_pr0_fr hf h0 h1 h2 h3 h4 h6 h)
  · exact Or.inr ⟨p, T, n, cp, g, R_pr1_fr hf h0 h1 h2 h3 h4 h5 h6 h⟩
theorem R_long_C (hf : frO [181, 182, 183, 184] J J') (hs : scrC J') (h : R_long J) : R_long J' := by
  obtain ⟨a, b, c, d, e, f⟩ := h
  exact ⟨hs, lonE_fr b hf (by decide), lonE_fr c hf (by decide), scrM_fr d hf (by decide) (by decide) (by decide), lonE_fr e hf (by decide), lonE_fr f hf (by decide)⟩
theorem R_long_M (hf : frO [24, 25, 26] J J') (hs : scrM J') (h : R_long J) : R_long J' := by
  obtain ⟨a, b, c, d, e, f⟩ := h
  refine ⟨⟨lonE_fr a.1 hf (by decide), lonE_fr a.2.1 hf (by decide), lonE_fr a.2.2.1 hf (by decide), lonE_fr a.2.2.2 hf (by decide)⟩, lonE_fr b hf (by decide), lonE_fr c hf (by decide), hs, lonE_fr e hf (by decide), lonE_fr f hf (by decide)⟩
end FRAMES
/-! the meters, over the relation -/
theorem mWh_prg {I : Nat → Nat → Int32} {p : PS} {T : Nat → Nat} {n : Nat} (h : mWh I p) (g : PG p T n) : mPrg I p.K p.E p.L p.A p.B p.F p.s.fk p.s.fv p.s.fp (pSw p) (fun d => pSw p (d + 1)) p.ns p.nd := by
  obtain ⟨n4, hW, hv, hn, hw, hu⟩ := g
  obtain ⟨w1, w2, w3, w4, w5, w6, w7, w8, w9⟩ := h
  have hT := tW_of hW hn hw
  refine ⟨hW.ns, hW.nd, fun k hk => ?_, nf_200 hW n4, by rw [hW.Fn]; exact w7, fun d hd => ?_⟩
  · obtain ⟨q1, q2, q3, q4, q5, q6, q7⟩ := w6 k hk
    have r := hW.row k hk
    have e := hT.1.1 k hk
    exact ⟨q1, r.1, q2, e.1, e.2, q3, q4, q5, r.2.2.1, r.2.1, r.2.2.2.1, r.2.2.2.2.1, r.2.2.2.2.2.1, fun z => ⟨r.2.2.2.2.2.2 z, hT.2.1.1 k hk z⟩, q6, q7, F_le hn (k + 1) (by omega) k (by omega), F_le hn p.ns (Nat.le_refl _) (k + 1) (by omega)⟩
  · obtain ⟨q1, q2⟩ := w8 d hd
    refine ⟨by rw [pSw_le (by omega)]; exact q1, ?_, tW_n hT (by omega), tW_n hT (by omega)⟩
    show I 18 d = nI (pSw p (d + 1))
    rw [pSw_le (by omega)]; exact q2
theorem cWh_parW {I : Nat → Nat → Int32} {S : Nat} {p : PS} {T : Nat → Nat} {n : Nat} (h : cWh I S p) (hW : pW T n p) : parT I S (parW p) p.bl p.ns := fun k hk => by
  rw [parW_eq hk]
  exact cWh_par h hW k hk
theorem scrC_mk {J : Nat → Nat → Int64} (h : lonE J 181 60 ∧ lonE J 182 60 ∧ lonE J 183 60 ∧ lonE J 184 7) : scrC J := h
section METERS
variable {l : Launch} {D : va_G} {cy ad sv : Nat → Nat} {Q : Option Value → HP → Prop} {I : Nat → Nat → Int32} {J : Nat → Nat → Int64} {sc it : Nat} {p : PS} {T : Nat → Nat} {n : Nat} {cp : Nat → Option Nat} {ask : Nat → Nat}
/-- the class's meter -/
theorem b_brings {sort : Int32} {c q : Nat} (g : PG p T n) (hsc : sc = 120 ∨ sc = 140) (hw : cWh I sc p) (hc : (qkd c).1 = 10) (hc8 : (qkd c).2 = 8) (hq : (qkd q).1 = 10) (hq4 : (qkd q).2 = 4) (hA : askT I q ask) (hC : capT I c cp) (hs : scrC J) : ∃ f W : Nat → Nat, (∀ k, k < p.ns → f k = figV p cp ask k) ∧ (∀ k, k < p.ns → W k = stV p sort cp ask k) ∧ ∀ Q : Option Value → HP → Prop, (∀ J', frO [181, 182, 183, 184] J J' → scrC J' → lonT J' 181 f 60 → lonT J' 183 W 60 → Q (some (.long (lN (brV p sort cp ask)))) (I, J', rr sc it)) → qC l D cy ad sv 12 [.ref 180, .int sort, .ref sc, .ref c, .ref q] (I, J, rr sc it) Q := by
  obtain ⟨n4, hW, hv, hn, hw9, hu⟩ := g
  obtain ⟨f0, f1, f2⟩ := lonE_B hs.1
  obtain ⟨i0, i1, i2⟩ := lonE_B hs.2.1
  obtain ⟨u0, u1, u2⟩ := lonE_B hs.2.2.1
  obtain ⟨b0, b1, b2⟩ := lonE_B hs.2.2.2
  refine ⟨cutN (figV p cp ask) f0 p.ns, (brR p sort cp ask f0 (i0, u0, b0)).2.1, fun k hk => by unfold cutN; rw [if_pos hk], fun k hk => brR_w hW hn hw9 f2 i2 b2 hk, fun Q h1 => ?_⟩
  have ev := brR_v (sort := sort) (cp := cp) (ask := ask) (f0 := f0) (s := (i0, u0, b0)) hW hn hw9 f2 i2 b2
  rcases hsc with rfl | rfl
  · refine x_brings_120 (s := (i0, u0, b0)) (f0 := f0) (pS := pSw p) (par := parW p) (cWh_prg hw hW hn n4) (cWh_parW hw hW) hW.nd hw.2.2.1 (cWh_pS hw hn) hc hc8 hq hq4 hA hC f1 i1 u1 b1 (fun J' fo g1 g2 g3 g4 => ?_)
    have : Q (some (.long (lN ((brR p sort cp ask f0 (i0, u0, b0)).2.2 p.nd)))) (I, J', rr 120 it) := by
      rw [ev]
      exact h1 J' fo (scrC_mk ⟨lonT_E g1, lonT_E g2, lonT_E g3, lonT_E g4⟩) g1 g3
    exact this
  · refine x_brings_140 (s := (i0, u0, b0)) (f0 := f0) (pS := pSw p) (par := parW p) (cWh_prg hw hW hn n4) (cWh_parW hw hW) hW.nd hw.2.2.1 (cWh_pS hw hn) hc hc8 hq hq4 hA hC f1 i1 u1 b1 (fun J' fo g1 g2 g3 g4 => ?_)
    have : Q (some (.long (lN ((brR p sort cp ask f0 (i0, u0, b0)).2.2 p.nd)))) (I, J', rr 140 it) := by
      rw [ev]
      exact h1 J' fo (scrC_mk ⟨lonT_E g1, lonT_E g2, lonT_E g3, lonT_E g4⟩) g1 g3
    exact this
/-- the model's -/
theorem b_spendsBy {sort : Int32} (g : PG p T n) (hw : mWh I p) (hA : askT I 23 ask) (hC : capT I 22 cp) (hs : scrM J) : ∃ X U : Nat → Nat, (∀ k, k < p.ns → X k = stV p 0 cp ask k) ∧ (∀ k, k < p.ns → p.K k = 1 → U k = figV p cp ask k) ∧ ∀ Q : Option Value → HP → Prop, (∀ J', frO [24, 25, 26] J J' → scrM J' → lonT J' 24 X 60 → lonT J' 26 U 60 → Q (some (.long (lN (brV p sort cp ask)))) (I, J', rr sc it)) → qC l D cy ad sv 118 [.ref 0, .int sort] (I, J, rr sc it) Q := by
  have hP := mWh_prg hw g
  obtain ⟨n4, hW, hv, hn, hw9, hu⟩ := g
  have hT := tW_of hW hn hw9
  obtain ⟨w1, w2, w3, w4, w5, w6, w7, w8, w9⟩ := hw
  obtain ⟨x0, x1, x2⟩ := lonE_B hs.1
  obtain ⟨r0, r1, r2⟩ := lonE_B hs.2.1
  obtain ⟨u0, u1, u2⟩ := lonE_B hs.2.2
  refine ⟨(xOf p cp ask (x0, r0, u0)).1, (xOf p cp ask (x0, r0, u0)).2.2, fun k hk => ?_, fun k hk z => ?_, fun Q h1 => ?_⟩
  · have := xOf_w (sort := 0) (cp := cp) (ask := ask) (t := (x0, r0, u0)) hW hn hw9 x2 r2 hk
    exact this
  · have := (xOf_G (cp := cp) (ask := ask) hW hn hw9 (x0, r0, u0) hk).2.2 z
    rw [this]
    unfold figV figK
    rw [if_neg (by omega), if_pos z]
  · refine m_spendsBy (s := (x0, r0, u0)) (mn := pSw p p.nd) hP (fun d hd => hT.2.2.2.1.2.1 d (by omega)) (tW_n hT (by omega)) w3 (by rw [pSw_le (Nat.le_refl _)]; exact w4) w2 hA hC x1 r1 u1 (fun J' fo g1 g2 g3 => ?_)
    have ev := xOf_v (sort := sort) (cp := cp) (ask := ask) (t := (x0, r0, u0)) hW hn hw9 x2 r2
    have : Q (some (.long (lN (spV p.E p.ns (pSw p p.nd) (xOf p cp ask (x0, r0, u0)) sort)))) (I, J', rr sc it) := by
      rw [ev]
      refine h1 J' (fun o ho => fo o (fun z => ho (by rw [z]; decide)) (fun z => ho (by rw [z]; decide)) (fun z => ho (by rw [z]; decide))) ⟨lonT_E g1, lonT_E g2, lonT_E g3⟩ g1 g3
    exact this
end METERS
