def qWs (o k : Nat) : Bool := o == 203 || o == 204 || o == 111 || o == 23 || o == 27 || (o == 100 && (k == 11 || k == 14)) || (o == 0 && (k == 27 || k == 1))
theorem qWs_sc {sc o k : Nat} (hsc : sc = 120 ∨ sc = 140) (h1 : sc ≤ o) (h2 : o ≤ sc + 16) : qWs o k = false := by
  unfold qWs
  simp
  omega
theorem qWs_mp {o k : Nat} (h : mpF o k = true) : qWs o k = false := by
  unfold mpF at h
  unfold qWs
  simp at h ⊢
  omega
def usB (p : PS) (k : Nat) : Bool := p.s.un.testBit k
section STEPS4
variable {l : Launch} {D : va_G} {cy ad sv : Nat → Nat} {Q : Option Value → HP → Prop} {I : Nat → Nat → Int32} {J : Nat → Nat → Int64} {sc it : Nat} {h : HP} {p : PS} {T : Nat → Nat} {n : Nat} {cp : Nat → Option Nat} {os : Nat → Nat → Nat} {no : Nat} {sz wt : Nat → Nat}
set_option maxHeartbeats 400000 in
theorem rch_us (g : PG p T n) : ∀ k, k < 4 → rchK (nI p.s.un) sz k = if usB p k = true then sz k else 0 := fun k hk => by
  have u := g.2.1.f.2.2.1
  have e := shr1 k (by omega) p.s.un (by omega)
  unfold rchK usB
  rw [e]
  cases p.s.un.testBit k with
  | true => rw [if_pos (by decide), if_pos rfl]
  | false => rw [if_neg (by decide), if_neg (by decide)]
set_option maxHeartbeats 400000 in
theorem br_us (g : PG p T n) {sort : Int32} {a b : Nat → Nat} (hab : ∀ k, k < 4 → usB p k = true → a k = b k) : brV p sort cp a = brV p sort cp b := by
  have u := g.2.1.f.2.2.1
  refine brV_used g.2.1 g.2.2.2.1 g.2.2.2.2.1 g.2.2.2.2.2 (fun x hx => ?_)
  by_cases c : x < 4
  · exact hab x c hx
  · have : p.s.un.testBit x = false := Nat.testBit_lt_two_pow (Nat.lt_of_lt_of_le (show p.s.un < 2 ^ 4 by omega) (Nat.pow_le_pow_right (by omega) (by omega)))
    rw [this] at hx
    cases hx
theorem mF_w {o k : Nat} (h : qWs o k = false) : mF o k = false := by
  unfold qWs at h
  unfold mF
  simp at h ⊢
  omega
theorem cF_w {o k : Nat} (h : qWs o k = false) : cF o k = false := by
  unfold qWs at h
  unfold cF
  simp at h ⊢
  omega
theorem row_ask {o : Nat} {a : Nat → Nat} (h : rowT I o a) (ha : ∀ k, k < 4 → a k ≤ 5) : askT I o a := fun k hk => ⟨h k hk, by have := ha k hk; omega⟩
set_option maxHeartbeats 400000 in
theorem w_brings {sort : Int32} {I' : Nat → Nat → Int32} {J' : Nat → Nat → Int64} {r : Nat → Nat} {i : Nat} (g : PG p T n) (hsc : sc = 120 ∨ sc = 140) (a7 : R_pr1 I sc p cp) (f : fr cF I I') (hJ : R_long J') (hrow : rowT I' 204 (dgD r i)) (hr5 : ∀ k, k < 4 → r k ≤ 5) (hQ : ∀ J2, R_long J2 → Q (some (.long (lN (brV p sort cp (dgD r i))))) (I', J2, rr sc it)) : qC l D cy ad sv 12 [.ref 180, .int sort, .ref sc, .ref 110, .ref 204] (I', J', rr sc it) Q := by
  have fq : fr qWs I I' := f.wide (fun o k => cF_w)
  have b1 := R_pr1_fr fq rfl (fun o k => qWs_mp) (fun o k => qWs_sc hsc) (fun _ => rfl) (fun _ => rfl) (fun _ => rfl) rfl a7
  obtain ⟨f9, W9, -, -, hb⟩ := b_brings (l := l) (D := D) (cy := cy) (ad := ad) (sv := sv) (it := it) (sort := sort) (c := 110) (q := 204) (ask := dgD r i) g hsc b1.2.1 ka_110 kb_110 ka_204 kb_204 (row_ask hrow (fun k hk => Nat.le_trans (dgD_le _ _ _) (hr5 k hk))) b1.2.2.2.1 hJ.1
  exact hb _ (fun J2 fj sj _ _ => hQ J2 (R_long_C fj sj hJ))
set_option maxHeartbeats 400000 in
theorem w_spends {sort : Int32} {I' : Nat → Nat → Int32} {J' : Nat → Nat → Int64} {i : Nat} (g : PG p T n) (hsc : sc = 120 ∨ sc = 140) (a7 : R_pr1 I sc p cp) (f : fr mF I I') (hJ : R_long J') (hrow : rowT I' 23 (dgD sz i)) (hr5 : ∀ k, k < 4 → sz k ≤ 5) (hQ : ∀ J2, R_long J2 → Q (some (.long (lN (brV p sort cp (dgD sz i))))) (I', J2, rr sc it)) : qC l D cy ad sv 118 [.ref 0, .int sort] (I', J', rr sc it) Q := by
  have fq : fr qWs I I' := f.wide (fun o k => mF_w)
  have b1 := R_pr1_fr fq rfl (fun o k => qWs_mp) (fun o k => qWs_sc hsc) (fun _ => rfl) (fun _ => rfl) (fun _ => rfl) rfl a7
  obtain ⟨f9, W9, -, -, hb⟩ := b_spendsBy (l := l) (D := D) (cy := cy) (ad := ad) (sv := sv) (sc := sc) (it := it) (sort := sort) (ask := dgD sz i) g b1.2.2.1 (row_ask hrow (fun k hk => Nat.le_trans (dgD_le _ _ _) (hr5 k hk))) b1.2.2.2.2.1 hJ.2.2.2.1
  exact hb _ (fun J2 fj sj _ _ => hQ J2 (R_long_M fj sj hJ))
set_option maxHeartbeats 400000 in
theorem Rel_ws {I1 I2 : Nat → Nat → Int32} {J2 : Nat → Nat → Int64} {r v v' : Nat → Nat} {bR bF : Option Nat} (h9 : RelI I J sc) (f1 : fr cF I I1) (f2 : fr mF I1 I2) (hs : I2 100 14 = I2 0 1) (hJ : R_long J2) (l1 : latT I I1 111 100 11 (dgD r) bR) (l2 : latT I1 I2 27 0 27 (dgD sz) bF) (hsm : sameR r sz v v' bR bF) (h5 : ∀ k, k < 4 → sz k ≤ 5) : RelI I2 J2 sc := by
  obtain ⟨hsc, h0, a1, a2, a3, a4, a5, a6, a7, a8, a9⟩ := h9
  have hf : fr qWs I I2 := (f1.wide (fun o k => cF_w)).ups (f2.wide (fun o k => mF_w))
  refine ⟨hsc, by rw [hf 0 0 rfl]; exact h0, R_tape_fr hf rfl rfl (fun _ => rfl) (fun _ => rfl) a1, R_name_fr hf (fun _ => rfl) (fun _ => rfl) (fun _ => rfl) (fun _ => rfl) a2, hs, R_faul_fr hf rfl rfl a4, R_ord_fr hf rfl rfl (fun _ => rfl) (fun _ => rfl) a5, ?_, R_prog_fr hf rfl (fun o k => qWs_mp) (fun o k => qWs_sc hsc) (fun _ => rfl) (fun _ => rfl) (fun _ => rfl) rfl a7, R_wi_fr hf (fun _ => rfl) a8, hJ⟩
  have e1 : ∀ k, I2 111 k = I1 111 k := fun k => f2 111 k rfl
  have e2 : I2 100 11 = I1 100 11 := f2 100 11 rfl
  have e3 : ∀ k, I1 27 k = I 27 k := fun k => f1 27 k rfl
  have e4 : I1 0 27 = I 0 27 := f1 0 27 rfl
  cases bR with
  | none =>
    cases bF with
    | none =>
      rcases a6 with ⟨x, y⟩ | ⟨x, y, a, z, w⟩
      · exact Or.inl ⟨by rw [e2, l1.2]; exact x, by rw [l2.2, e4]; exact y⟩
      · exact Or.inr ⟨by rw [e2, l1.2]; exact x, by rw [l2.2, e4]; exact y, a, fun k hk => by rw [e1, l1.1]; exact z k hk, fun k hk => by rw [l2.1, e3]; exact w k hk⟩
    | some c => exact hsm.elim
  | some b =>
    cases bF with
    | none => exact hsm.elim
    | some c =>
      refine Or.inr ⟨by rw [e2]; exact l1.2, l2.2, dgD sz c, fun k hk => ?_, fun k hk => ⟨l2.1 k hk, ?_⟩⟩
      · rw [e1, l1.1 k hk, hsm.2 k hk]
        exact ⟨rfl, by have := dgD_le sz c k; have := h5 k hk; omega⟩
      · have := dgD_le sz c k; have := h5 k hk; omega
set_option maxHeartbeats 800000 in
theorem st_worst {s w : Int32} (hr : Rel h) : StepJ l D cy ad sv 76 124 [.int s, .int w] h := by
  obtain ⟨I, J, sc, it, rfl, h⟩ := hr
  have h9 := h
  obtain ⟨hsc, h0, a1, a2, a3, a4, a5, a6, a7, a8, a9⟩ := h
  obtain ⟨sz, wt, s1, s2, w1, w2⟩ := a2
  have h5 : ∀ k, k < 4 → sz k ≤ 5 := fun k hk => (s1 k hk).2
  have st : ∀ x : Int32, RelI (up2 (up2 I 100 14 x) 0 1 x) J sc := fun x => Rel_st h9 ((fr.rf.up rfl).up rfl) (by unfold R_stat; rw [up2_ne' (by decide), up2_at, up2_at])
  rcases a7 with a7 | ⟨p, T, n, cp, g, a7⟩
  · refine x_worst (v := fun _ => 0) (S := fun _ => True) hsc rfl s1 w1 trivial (fun _ => Nat.zero_le _) (fun I' J' i Q' _ z => absurd a7.1 z) (fun z => ⟨_, rfl, ?_⟩) (fun z _ => ⟨_, rfl, ?_⟩) (fun _ z => absurd a7.1 z)
    · exact m_worst (v := fun _ => 0) (S := fun _ => True) (by rw [up2_ne' (by decide)]; exact h0) (szT_ne s2 (by decide)) (wtT_ne w2 (by decide)) trivial (fun _ => Nat.zero_le _) (fun I' J' i Q' _ y => absurd (show up2 I 100 14 (-1) 0 4 = 0 by rw [up2_ne' (by decide)]; exact a7.2.1) y) (fun _ => ⟨rfl, _, J, sc, it, rfl, st (-1)⟩) (fun y => absurd y z) (fun y => absurd y z)
    · exact m_worst (v := fun _ => 0) (S := fun _ => True) (by rw [up2_ne' (by decide)]; exact h0) (szT_ne s2 (by decide)) (wtT_ne w2 (by decide)) trivial (fun _ => Nat.zero_le _) (fun I' J' i Q' _ y => absurd (show up2 I 100 14 (-6) 0 4 = 0 by rw [up2_ne' (by decide)]; exact a7.2.1) y) (fun y => absurd z y) (fun _ _ => ⟨rfl, _, J, sc, it, rfl, st (-6)⟩) (fun _ y => absurd (show up2 I 100 14 (-6) 0 4 = 0 by rw [up2_ne' (by decide)]; exact a7.2.1) y)
  · have n8 : ¬ I 100 8 = 0 := by rw [a7.1]; exact one_ne
    have n4 : ¬ I 0 4 = 0 := by rw [a7.2.2.1.1]; exact one_ne
    have hvm : ∀ (ask : Nat → Nat), brV p s cp ask ≤ MU := fun ask => brV_le g.2.1 g.2.2.2.1 g.2.2.2.2.1
    refine x_worst (v := fun i => brV p s cp (dgD (rchK (nI p.s.un) sz) i)) (S := R_long) hsc a7.2.1.2.2.2.1 s1 w1 a9 (fun i => hvm _) (fun I' J' i Q' _ _ f hJ hrow hQ => w_brings g hsc a7 f hJ hrow (fun k hk => rchK_le (h5 k hk)) hQ) (fun z => ⟨_, rfl, ?_⟩) (fun _ z => absurd z n8) (fun z _ I1 J1 f1 x1 L1 t1 => ⟨_, rfl, ?_⟩)
    · have b0 := R_pr1_fr (show fr qWs I (up2 I 100 14 (-1)) from fr.rf.up rfl) rfl (fun o k => qWs_mp) (fun o k => qWs_sc hsc) (fun _ => rfl) (fun _ => rfl) (fun _ => rfl) rfl a7
      exact m_worst (v := fun i => brV p s cp (dgD sz i)) (S := R_long) (by rw [up2_ne' (by decide)]; exact h0) (szT_ne s2 (by decide)) (wtT_ne w2 (by decide)) a9 (fun i => hvm _) (fun I' J' i Q' _ _ f hJ hrow hQ => w_spends g hsc b0 f hJ hrow h5 hQ) (fun _ => ⟨rfl, _, J, sc, it, rfl, st (-1)⟩) (fun y => absurd y z) (fun y => absurd y z)
    · have sm := ws_same (us := usB p) (wt := wt) (rch_us (sz := sz) g) (v := fun i => brV p s cp (dgD sz i)) (v' := fun i => brV p s cp (dgD (rchK (nI p.s.un) sz) i)) (fun i j hij => br_us g hij) w.toInt.toNat
      have fq : fr qWs I I1 := f1.wide (fun o k => cF_w)
      have b1 := R_pr1_fr fq rfl (fun o k => qWs_mp) (fun o k => qWs_sc hsc) (fun _ => rfl) (fun _ => rfl) (fun _ => rfl) rfl a7
      refine m_worst (v := fun i => brV p s cp (dgD sz i)) (S := R_long) (by rw [f1 0 0 rfl]; exact h0) (fun k hk => by rw [f1 3 k rfl]; exact s2 k hk) (fun k hk => by rw [f1 4 k rfl]; exact w2 k hk) L1 (fun i => hvm _) (fun I' J' i Q' _ _ f hJ hrow hQ => w_spends g hsc b1 f hJ hrow h5 hQ) (fun y => absurd z y) (fun _ y => absurd y (by rw [f1 0 4 rfl]; exact n4)) (fun _ _ I2 J2 f2 x2 L2 t2 => ⟨?_, _, J2, sc, it, rfl, Rel_ws h9 f1 f2 (by rw [f2 100 14 rfl, x1, x2]) L2 t1 t2 sm h5⟩)
      congr 2
      revert sm
      generalize wsP (fun i => brV p s cp (dgD (rchK (nI p.s.un) sz) i)) (wgt (dgD (rchK (nI p.s.un) sz)) wt) w.toInt.toNat (prN (rchK (nI p.s.un) sz) 4) = bR
      generalize wsP (fun i => brV p s cp (dgD sz i)) (wgt (dgD sz) wt) w.toInt.toNat (prN sz 4) = bF
      intro sm
      cases bR with
      | none => cases bF with
        | none => rfl
        | some c => exact sm.elim
      | some b => cases bF with
        | none => exact sm.elim
        | some c =>
          show lN (brV p s cp (dgD sz c)) = lN (brV p s cp (dgD (rchK (nI p.s.un) sz) b))
          rw [show brV p s cp (dgD (rchK (nI p.s.un) sz) b) = brV p s cp (dgD sz c) from sm.1]
theorem ch_st {r sz v v' : Nat → Nat} {bR bF : Option Nat} (h : sameR r sz v v' bR bF) : chS bR = chS bF := by
  cases bR with
  | none => cases bF with
    | none => rfl
    | some c => exact h.elim
  | some b => cases bF with
    | none => exact h.elim
    | some c => rfl
set_option maxHeartbeats 800000 in
theorem st_cheapest {s : Int32} {w : Int64} (hr : Rel h) : StepI l D cy ad sv 77 125 [.int s, .long w] h := by
  obtain ⟨I, J, sc, it, rfl, h⟩ := hr
  have h9 := h
  obtain ⟨hsc, h0, a1, a2, a3, a4, a5, a6, a7, a8, a9⟩ := h
  obtain ⟨sz, wt, s1, s2, w1, w2⟩ := a2
  have h5 : ∀ k, k < 4 → sz k ≤ 5 := fun k hk => (s1 k hk).2
  have st : ∀ x : Int32, RelI (up2 (up2 I 100 14 x) 0 1 x) J sc := fun x => Rel_st h9 ((fr.rf.up rfl).up rfl) (by unfold R_stat; rw [up2_ne' (by decide), up2_at, up2_at])
  rcases a7 with a7 | ⟨p, T, n, cp, g, a7⟩
  · refine x_cheapest (v := fun _ => 0) (S := fun _ => True) hsc rfl s1 w1 trivial (fun _ => Nat.zero_le _) (fun I' J' i Q' _ z => absurd a7.1 z) (fun z => ⟨_, rfl, ?_⟩) (fun z _ => ⟨_, rfl, ?_⟩) (fun _ z => absurd a7.1 z)
    · exact m_cheapest (v := fun _ => 0) (S := fun _ => True) (by rw [up2_ne' (by decide)]; exact h0) (szT_ne s2 (by decide)) (wtT_ne w2 (by decide)) trivial (fun _ => Nat.zero_le _) (fun I' J' i Q' _ y => absurd (show up2 I 100 14 (-1) 0 4 = 0 by rw [up2_ne' (by decide)]; exact a7.2.1) y) (fun _ => ⟨rfl, _, J, sc, it, rfl, st (-1)⟩) (fun y => absurd y z) (fun y => absurd y z)
    · exact m_cheapest (v := fun _ => 0) (S := fun _ => True) (by rw [up2_ne' (by decide)]; exact h0) (szT_ne s2 (by decide)) (wtT_ne w2 (by decide)) trivial (fun _ => Nat.zero_le _) (fun I' J' i Q' _ y => absurd (show up2 I 100 14 (-6) 0 4 = 0 by rw [up2_ne' (by decide)]; exact a7.2.1) y) (fun y => absurd z y) (fun _ _ => ⟨rfl, _, J, sc, it, rfl, st (-6)⟩) (fun _ y => absurd (show up2 I 100 14 (-6) 0 4 = 0 by rw [up2_ne' (by decide)]; exact a7.2.1) y)
  · have n8 : ¬ I 100 8 = 0 := by rw [a7.1]; exact one_ne
    have n4 : ¬ I 0 4 = 0 := by rw [a7.2.2.1.1]; exact one_ne
    have hvm : ∀ (ask : Nat → Nat), brV p s cp ask ≤ MU := fun ask => brV_le g.2.1 g.2.2.2.1 g.2.2.2.2.1
    refine x_cheapest (v := fun i => brV p s cp (dgD (rchK (nI p.s.un) sz) i)) (S := R_long) hsc a7.2.1.2.2.2.1 s1 w1 a9 (fun i => hvm _) (fun I' J' i Q' _ _ f hJ hrow hQ => w_brings g hsc a7 f hJ hrow (fun k hk => rchK_le (h5 k hk)) hQ) (fun z => ⟨_, rfl, ?_⟩) (fun _ z => absurd z n8) (fun z _ I1 J1 f1 x1 L1 t1 => ⟨_, rfl, ?_⟩)
    · have b0 := R_pr1_fr (show fr qWs I (up2 I 100 14 (-1)) from fr.rf.up rfl) rfl (fun o k => qWs_mp) (fun o k => qWs_sc hsc) (fun _ => rfl) (fun _ => rfl) (fun _ => rfl) rfl a7
      exact m_cheapest (v := fun i => brV p s cp (dgD sz i)) (S := R_long) (by rw [up2_ne' (by decide)]; exact h0) (szT_ne s2 (by decide)) (wtT_ne w2 (by decide)) a9 (fun i => hvm _) (fun I' J' i Q' _ _ f hJ hrow hQ => w_spends g hsc b0 f hJ hrow h5 hQ) (fun _ => ⟨rfl, _, J, sc, it, rfl, st (-1)⟩) (fun y => absurd y z) (fun y => absurd y z)
    · have sm := ch_same (us := usB p) (wt := wt) (rch_us (sz := sz) g) (v := fun i => brV p s cp (dgD sz i)) (v' := fun i => brV p s cp (dgD (rchK (nI p.s.un) sz) i)) (fun i j hij => br_us g hij) w.toInt
      have fq : fr qWs I I1 := f1.wide (fun o k => cF_w)
      have b1 := R_pr1_fr fq rfl (fun o k => qWs_mp) (fun o k => qWs_sc hsc) (fun _ => rfl) (fun _ => rfl) (fun _ => rfl) rfl a7
      refine m_cheapest (v := fun i => brV p s cp (dgD sz i)) (S := R_long) (by rw [f1 0 0 rfl]; exact h0) (fun k hk => by rw [f1 3 k rfl]; exact s2 k hk) (fun k hk => by rw [f1 4 k rfl]; exact w2 k hk) L1 (fun i => hvm _) (fun I' J' i Q' _ _ f hJ hrow hQ => w_spends g hsc b1 f hJ hrow h5 hQ) (fun y => absurd z y) (fun _ y => absurd y (by rw [f1 0 4 rfl]; exact n4)) (fun _ _ I2 J2 f2 x2 L2 t2 => ⟨?_, _, J2, sc, it, rfl, Rel_ws h9 f1 f2 (by rw [f2 100 14 rfl, x1, x2]; exact ch_st sm) L2 t1 t2 sm h5⟩)
      revert sm
      generalize chP (fun i => brV p s cp (dgD (rchK (nI p.s.un) sz) i)) (wgt (dgD (rchK (nI p.s.un) sz)) wt) w.toInt (prN (rchK (nI p.s.un) sz) 4) = bR
      generalize chP (fun i => brV p s cp (dgD sz i)) (wgt (dgD sz) wt) w.toInt (prN sz 4) = bF
      intro sm
      cases bR with
      | none => cases bF with
        | none => rfl
        | some c => exact sm.elim
      | some b => cases bF with
        | none => exact sm.elim
        | some c =>
          show some (Value.int (nI (wgt (dgD sz) wt c))) = some (Value.int (nI (wgt (dgD (rchK (nI p.s.un) sz)) wt b)))
          rw [show wgt (dgD (rchK (nI p.s.un) sz)) wt b = wgt (dgD sz) wt c from sm.1]
end STEPS4
