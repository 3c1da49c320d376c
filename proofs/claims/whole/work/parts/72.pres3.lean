section PRES3
variable {T : Nat → Nat} {n : Nat} {p p' : PS}
theorem pW_bgD (h : pW T n p) (hb : tkB T p.s.f p.s.t (stL 0) = true) (hr : bgD T n p = .ok p') : pW T n p' ∧ p.s.f < p'.s.f := by
  have a := adv_W2 h.f (by decide) hb
  unfold bgD at hr
  split at hr
  · rename_i c
    split at hr
    · rename_i j hj
      have hl := tLet_lt hj
      split at hr
      · rename_i hd
        have hn := h.fre j (by omega) hd
        have s0 : p.st = [] := List.length_eq_zero_iff.mp c.1
        have W2 := adv_W (adv_W h.f)
        have w : pW T n (PSm ((p.s.adv T n).adv T n) (p.ns) (p.np) (p.nd) (p.K) (p.A) (p.B) (p.E) (p.L) (p.F) (p.par) (p.bl) (p.ps) (p.st) (p.bare) (p.dp) (j) (p.pS)) := ⟨W2, h.ns, h.np, h.nd, h.dep, h.row, h.par, h.bl, h.stk, h.dp, fun hD => by
          obtain ⟨b, hb9⟩ := hD
          have hb9 : (none, b) ∈ p.st := hb9
          rw [s0] at hb9
          exact absurd hb9 (List.not_mem_nil), h.fre, h.pl, h.Fn⟩
        have w2 := pW_op w (by omega) (fun k hk => by cases hk) (fun _ => ⟨show j < 6 by omega, hn⟩) hr
        have f2 := adv_f (adv_W h.f)
        have b2 := tkT_le (T := T) (adv_W h.f).1
        rw [← (adv_W h.f).2.1] at b2
        exact ⟨w2.1, Nat.lt_of_lt_of_le a.2.1 (Nat.le_trans (Nat.le_trans b2.1 f2.2.2.1) (Nat.le_of_lt w2.2))⟩
      · cases hr
    · cases hr
  · cases hr
/-- the same defs, and a step's block more at the most -/
def sameV (p p' : PS) : Prop := p'.dp = p.dp ∧ p'.nd = p.nd ∧ p'.lt = p.lt ∧ (p'.st = p.st ∨ ∃ k b, p'.st = (some k, b) :: p.st)
theorem pV_same (hv : pV p) (hs : sameV p p') : pV p' := by
  obtain ⟨h1, h2, h3, h4⟩ := hs
  obtain ⟨v1, v2, v3⟩ := hv
  unfold pV
  rw [h1, h2, h3]
  refine ⟨v1, ?_, ?_⟩
  · rcases h4 with h4 | ⟨k, b, h4⟩
    · rw [h4]; exact v2
    · rw [h4]
      rintro ⟨b9, hb9⟩
      rcases List.mem_cons.mp hb9 with e | e
      · cases e
      · exact v2 ⟨b9, e⟩
  · rcases h4 with h4 | ⟨k, b, h4⟩
    · rw [h4]; exact v3
    · rw [h4]
      exact ⟨fun q => (by cases q), v3⟩
theorem sameV_tk {i : Nat} {p1 : PS} (h : sameV p p1) (hr : tkP1 T n i p1 = .ok p') : sameV p p' := by
  obtain ⟨-, rfl⟩ := tkP1_ok hr
  exact h
theorem sameV_op {k b : Nat} {p1 : PS} (h : p1.dp = p.dp ∧ p1.nd = p.nd ∧ p1.lt = p.lt ∧ p1.st = p.st) (hr : opB T n (some k) b p1 = .ok p') : sameV p p' := by
  obtain ⟨-, -, rfl⟩ := opB_ok hr
  exact ⟨h.1, h.2.1, h.2.2.1, Or.inr ⟨k, b, by show (some k, b) :: p1.st = _; rw [h.2.2.2]⟩⟩
theorem sameV_bgS (hr : bgS T n p = .ok p') : sameV p p' := by
  unfold bgS at hr
  split at hr
  · cases hr
  · rename_i kd hkd
    split at hr
    · have am : ∀ p1, amP T n p.ns (nwS T n kd p) = .ok p1 → p1.dp = p.dp ∧ p1.nd = p.nd ∧ p1.lt = p.lt ∧ p1.st = p.st := by
        intro p1 hr
        obtain ⟨s', r1, r2⟩ := bnd_ok hr
        cases r2
        exact ⟨rfl, rfl, rfl, rfl⟩
      unfold tlP at hr
      split at hr
      · obtain ⟨p1, r1, r2⟩ := bnd_ok hr
        have w := am p1 r1
        exact sameV_tk ⟨w.1, w.2.1, w.2.2.1, Or.inl w.2.2.2⟩ r2
      · split at hr
        · obtain ⟨p1, r1, r2⟩ := bnd_ok hr
          unfold caP at r1
          split at r1
          · split at r1
            · cases r1
              refine sameV_tk ?_ r2
              exact ⟨rfl, rfl, rfl, Or.inl rfl⟩
            · cases r1
          · cases r1
        · split at hr
          · obtain ⟨p1, r1, r2⟩ := bnd_ok hr
            unfold nuA at r1
            split at r1
            · cases r1
              refine sameV_op ?_ r2
              exact ⟨rfl, rfl, rfl, rfl⟩
            · cases r1
          · split at hr
            · obtain ⟨p1, r1, r2⟩ := bnd_ok hr
              obtain ⟨pa, ra, rb⟩ := bnd_ok r1
              unfold naP at ra
              split at ra
              · cases ra
                obtain ⟨pb, rc, rd⟩ := bnd_ok rb
                obtain ⟨t1, rfl⟩ := tkP1_ok rc
                unfold nuB at rd
                split at rd
                · cases rd
                  refine sameV_op ?_ r2
                  exact ⟨rfl, rfl, rfl, rfl⟩
                · cases rd
              · cases ra
            · obtain ⟨p1, r1, r2⟩ := bnd_ok hr
              exact sameV_op (am p1 r1) r2
    · cases hr
theorem pV_bgD (hv : pV p) (hr : bgD T n p = .ok p') : pV p' := by
  unfold bgD at hr
  split at hr
  · rename_i c
    have s0 : p.st = [] := List.length_eq_zero_iff.mp c.1
    split at hr
    · rename_i j hj
      split at hr
      · rename_i hd
        obtain ⟨-, -, rfl⟩ := opB_ok hr
        refine ⟨hv.1, fun _ => hd, ?_⟩
        show botT ((none, 0) :: p.st)
        rw [s0]
        exact ⟨fun _ => rfl, trivial⟩
      · cases hr
    · cases hr
  · cases hr
theorem pV_clB (h : pW T n p) (hv : pV p) (hr : clB T n p = .ok p') : pV p' := by
  unfold clB at hr
  split at hr
  · cases hr
  · split at hr
    · cases hr
    · rename_i b r hs
      cases hr
      have hD : hasD p.st := ⟨b, by rw [hs]; exact List.mem_cons_self⟩
      have hbt := hv.2.2
      rw [hs] at hbt
      have r0 : r = [] := hbt.1 rfl
      refine ⟨?_, fun hD9 => ?_, ?_⟩
      · show cn6 (upO p.dp p.lt (some p.nd)) 6 = p.nd + 1
        rw [cn_up (hv.2.1 hD) 6 (h.def' hD).1, hv.1]
      · obtain ⟨b9, hb9⟩ := hD9
        have hb9 : (none, b9) ∈ r := hb9
        rw [r0] at hb9
        exact absurd hb9 (List.not_mem_nil)
      · show botT r
        exact hbt.2
    · rename_i k b r hs
      have hbt := hv.2.2
      rw [hs] at hbt
      have base : ∀ q : PS, q.dp = p.dp → q.nd = p.nd → q.lt = p.lt → q.st = r → pV q := fun q q1 q2 q3 q4 => by
        unfold pV
        rw [q1, q2, q3, q4]
        refine ⟨hv.1, fun hD => hv.2.1 ?_, hbt.2⟩
        obtain ⟨b9, hb9⟩ := hD
        exact ⟨b9, by rw [hs]; exact List.mem_cons_of_mem _ hb9⟩
      unfold clE at hr
      split at hr
      · split at hr
        · have hb := base (PSm ((p.s.adv T n).adv T n) (p.ns) (p.np) (p.nd) (p.K) (p.A) (p.B) (upN p.E k p.ns) (upN p.L k p.ns) (p.F) (p.par) (p.bl) (p.ps) (r) (p.bare) (p.dp) (p.lt) (p.pS)) rfl rfl rfl rfl
          refine pV_same hb (sameV_op ?_ hr)
          exact ⟨rfl, rfl, rfl, rfl⟩
        · cases hr
          exact base _ rfl rfl rfl rfl
      · cases hr
        exact base _ rfl rfl rfl rfl
/-- a round: it stays true, and a token is taken -/
theorem rnd_W (h : pW T n p) (hv : pV p) (hr : rnd T n p = .ok p') : pW T n p' ∧ pV p' ∧ p.s.f < p'.s.f := by
  unfold rnd at hr
  split at hr
  · rename_i hb
    have w := pW_bgD h hb hr
    exact ⟨w.1, pV_bgD hv hr, w.2⟩
  · split at hr
    · rename_i hb
      have w := pW_clB h hv hb hr
      exact ⟨w.1, pV_clB h hv hr, w.2⟩
    · have w := pW_bgS h hr
      exact ⟨w.1, pV_same hv (sameV_bgS hr), w.2⟩
end PRES3
