/-! the names that are used; calls hold no block -/
def fUs (s : FS) : Prop := ∀ g, g < s.nf → s.fk g ≠ 0 → s.un.testBit (s.fv g) = true
def fLe (s s' : FS) : Prop := ∀ b, s.un.testBit b = true → s'.un.testBit b = true
theorem fLe_rf {s : FS} : fLe s s := fun _ h => h
theorem fLe_tr {s s1 s2 : FS} (h : fLe s s1) (h2 : fLe s1 s2) : fLe s s2 := fun b z => h2 b (h b z)
theorem pow_bit (x : Nat) : (2 ^ x).testBit x = true := by rw [Nat.testBit_two_pow]; simp
section USED
variable {T : Nat → Nat} {n : Nat} {p p' : PS}
theorem fUs_add {s : FS} {kd v op : Nat} (h : fUs s) : fUs (s.add kd v op) ∧ fLe s (s.add kd v op) := by
  have un : (s.add kd v op).un = if kd = 0 then s.un else s.un ||| 2 ^ v := rfl
  have le : fLe s (s.add kd v op) := fun b z => by
    rw [un]
    split
    · exact z
    · rw [Nat.testBit_or, z]; rfl
  refine ⟨fun g hg hk => ?_, le⟩
  have hg : g < s.nf + 1 := hg
  have e1 : (s.add kd v op).fk = upN s.fk s.nf kd := rfl
  have e2 : (s.add kd v op).fv = upN s.fv s.nf v := rfl
  by_cases e : g = s.nf
  · rw [e1, e, upN_at] at hk
    rw [e2, e, upN_at, un, if_neg hk, Nat.testBit_or, pow_bit, Bool.or_true]
  · rw [e1, upN_ne e] at hk
    rw [e2, upN_ne e]
    exact le _ (h g (by omega) hk)
theorem rdN_U {kd op : Nat} {s s' : FS} (h : fUs s) (hr : rdN T n kd op s = .ok s') : fUs s' ∧ fLe s s' := by
  unfold rdN at hr
  split at hr
  · cases hr
    exact fUs_add h
  · cases hr
theorem rdFac_U {op : Nat} {s s' : FS} (h : fUs s) (hr : rdFac T n op s = .ok s') : fUs s' ∧ fLe s s' := by
  unfold rdFac at hr
  split at hr
  · cases hr
    exact fUs_add h
  · split at hr
    · exact rdN_U (s := s.adv T n) h hr
    · exact rdN_U h hr
theorem rdAmt_U : ∀ (m op : Nat) (s s' : FS), fUs s → rdAmt T n m op s = .ok s' → fUs s' ∧ fLe s s'
  | 0, _, _, _, _, hr => by cases hr
  | m + 1, op, s, s', h, hr => by
    unfold rdAmt at hr
    split at hr
    · cases hr
    · rename_i s1 h1
      have a := rdFac_U h h1
      split at hr
      · have b := rdAmt_U m 1 (s1.adv T n) s' a.1 hr
        exact ⟨b.1, fLe_tr a.2 b.2⟩
      · split at hr
        · have b := rdAmt_U m 0 (s1.adv T n) s' a.1 hr
          exact ⟨b.1, fLe_tr a.2 b.2⟩
        · cases hr
          exact a
theorem bgS_U (h : fUs p.s) (hr : bgS T n p = .ok p') : fUs p'.s ∧ fLe p.s p'.s ∧ (p'.K p.ns = 5 → p'.s.un.testBit (p'.A p.ns) = true) ∧ (p'.K p.ns = 4 → p'.st = p.st) := by
  unfold bgS at hr
  split at hr
  · cases hr
  · rename_i kd hkd
    split at hr
    · have kk : (nwS T n kd p).K p.ns = kd := by show upN p.K p.ns kd p.ns = kd; rw [upN_at]
      unfold tlP at hr
      split at hr
      · rename_i k0
        obtain ⟨p1, r1, r2⟩ := bnd_ok hr
        obtain ⟨s', q1, q2⟩ := bnd_ok r1
        cases q2
        obtain ⟨-, rfl⟩ := tkP1_ok r2
        have a := rdAmt_U _ _ _ _ (show fUs (nwS T n kd p).s from h) q1
        refine ⟨a.1, a.2, fun z => ?_, fun _ => rfl⟩
        have z : (nwS T n kd p).K p.ns = 5 := z
        rw [kk] at z
        omega
      · split at hr
        · rename_i k0 k4
          obtain ⟨p1, r1, r2⟩ := bnd_ok hr
          unfold caP at r1
          split at r1
          · split at r1
            · cases r1
              obtain ⟨-, rfl⟩ := tkP1_ok r2
              refine ⟨h, fLe_rf, fun z => ?_, fun _ => rfl⟩
              have z : (nwS T n kd p).K p.ns = 5 := z
              rw [kk] at z
              omega
            · cases r1
          · cases r1
        · split at hr
          · rename_i k0 k4 k3
            obtain ⟨p1, r1, r2⟩ := bnd_ok hr
            unfold nuA at r1
            split at r1
            · cases r1
              obtain ⟨-, -, rfl⟩ := opB_ok r2
              refine ⟨h, fLe_rf, fun z => ?_, fun z => ?_⟩
              · have z : (nwS T n kd p).K p.ns = 5 := z
                rw [kk] at z
                omega
              · have z : (nwS T n kd p).K p.ns = 4 := z
                rw [kk] at z
                omega
            · cases r1
          · split at hr
            · rename_i k0 k4 k3 k5
              obtain ⟨p1, r1, r2⟩ := bnd_ok hr
              obtain ⟨pa, ra, rb⟩ := bnd_ok r1
              unfold naP at ra
              split at ra
              · rename_i x hx
                cases ra
                obtain ⟨pb, rc, rd⟩ := bnd_ok rb
                obtain ⟨t1, rfl⟩ := tkP1_ok rc
                unfold nuB at rd
                split at rd
                · cases rd
                  obtain ⟨-, -, rfl⟩ := opB_ok r2
                  have le : ∀ b, p.s.un.testBit b = true → (p.s.un ||| 2 ^ x).testBit b = true := fun b z => by rw [Nat.testBit_or, z]; rfl
                  refine ⟨fun g hg hk => le _ (h g hg hk), fun b z => le b z, fun _ => ?_, fun z => ?_⟩
                  · show (p.s.un ||| 2 ^ x).testBit (upN (nwS T n kd p).A p.ns x p.ns) = true
                    rw [upN_at, Nat.testBit_or, pow_bit, Bool.or_true]
                  · have z : (nwS T n kd p).K p.ns = 4 := z
                    rw [kk] at z
                    omega
                · cases rd
              · cases ra
            · rename_i k0 k4 k3 k5
              obtain ⟨p1, r1, r2⟩ := bnd_ok hr
              obtain ⟨s', q1, q2⟩ := bnd_ok r1
              cases q2
              obtain ⟨-, -, rfl⟩ := opB_ok r2
              have a := rdAmt_U _ _ _ _ (show fUs (nwS T n kd p).s from h) q1
              refine ⟨a.1, a.2, fun z => ?_, fun z => ?_⟩
              · have z : (nwS T n kd p).K p.ns = 5 := z
                rw [kk] at z
                omega
              · have z : (nwS T n kd p).K p.ns = 4 := z
                rw [kk] at z
                omega
    · cases hr
def pUs (p : PS) : Prop := fUs p.s ∧ (∀ k, k < p.ns → p.K k = 5 → p.s.un.testBit (p.A k) = true) ∧ (∀ k, k < p.ns → p.K k = 4 → p.E k = k + 1) ∧ (∀ e k, e ∈ p.st → e.1 = some k → p.K k ≠ 4)
theorem pUs_bgS (h : pW T n p) (hu : pUs p) (hr : bgS T n p = .ok p') : pUs p' := by
  obtain ⟨u1, u2, u3, u4⟩ := hu
  have a := bgS_U u1 hr
  obtain ⟨kd, x, b, s1, pu, q1, q2, q3, q4, q5, q6, q7, e⟩ := bgS_form h hr
  subst e
  have kk : (nwP9 p kd x b s1 pu).K = upN p.K p.ns kd := rfl
  have aa : (nwP9 p kd x b s1 pu).A = upN p.A p.ns x := rfl
  have ee : (nwP9 p kd x b s1 pu).E = upN p.E p.ns (p.ns + 1) := rfl
  have ss : (nwP9 p kd x b s1 pu).st = if pu = true then (some p.ns, 0) :: p.st else p.st := rfl
  refine ⟨a.1, fun k hk z => ?_, fun k hk z => ?_, fun e k he hk => ?_⟩
  · have hk : k < p.ns + 1 := hk
    by_cases c : k = p.ns
    · rw [c] at z ⊢
      exact a.2.2.1 z
    · rw [kk, upN_ne c] at z
      rw [aa, upN_ne c]
      exact a.2.1 _ (u2 k (by omega) z)
  · have hk : k < p.ns + 1 := hk
    by_cases c : k = p.ns
    · rw [ee, c, upN_at]
    · rw [kk, upN_ne c] at z
      rw [ee, upN_ne c]
      exact u3 k (by omega) z
  · by_cases c : k = p.ns
    · intro z
      rw [c] at z
      have := a.2.2.2 z
      rw [this] at he
      have := (h.stk e he).2 k hk
      omega
    · rw [kk, upN_ne c]
      rw [ss] at he
      split at he
      · rcases List.mem_cons.mp he with w | w
        · rw [w] at hk
          have hk : some p.ns = some k := hk
          cases hk
          exact absurd rfl c
        · exact u4 e k w hk
      · exact u4 e k he hk
theorem pUs_clB (hu : pUs p) (hr : clB T n p = .ok p') : pUs p' := by
  obtain ⟨u1, u2, u3, u4⟩ := hu
  unfold clB at hr
  split at hr
  · cases hr
  · split at hr
    · cases hr
    · rename_i b r hs
      cases hr
      refine ⟨u1, u2, u3, fun e k he hk => u4 e k (by rw [hs]; exact List.mem_cons_of_mem _ he) hk⟩
    · rename_i k b r hs
      have nk : p.K k ≠ 4 := u4 (some k, b) k (by rw [hs]; exact List.mem_cons_self) rfl
      have w3 : ∀ j, j < p.ns → p.K j = 4 → upN p.E k p.ns j = j + 1 := fun j hj z => by
        rw [upN_ne (fun y => nk (by rw [← y]; exact z))]
        exact u3 j hj z
      have w4 : ∀ e j, e ∈ r → e.1 = some j → p.K j ≠ 4 := fun e j he hj => u4 e j (by rw [hs]; exact List.mem_cons_of_mem _ he) hj
      unfold clE at hr
      split at hr
      · split at hr
        · obtain ⟨-, -, rfl⟩ := opB_ok hr
          refine ⟨u1, u2, w3, fun e j he hj => ?_⟩
          rcases List.mem_cons.mp he with w | w
          · rw [w] at hj
            have hj : some k = some j := hj
            cases hj
            exact nk
          · exact w4 e j w hj
        · cases hr
          exact ⟨u1, u2, w3, w4⟩
      · cases hr
        exact ⟨u1, u2, w3, w4⟩
theorem pUs_bgD (hu : pUs p) (hr : bgD T n p = .ok p') : pUs p' := by
  obtain ⟨u1, u2, u3, u4⟩ := hu
  unfold bgD at hr
  split at hr
  · split at hr
    · split at hr
      · obtain ⟨-, -, rfl⟩ := opB_ok hr
        refine ⟨u1, u2, u3, fun e j he hj => ?_⟩
        rcases List.mem_cons.mp he with w | w
        · rw [w] at hj
          cases hj
        · exact u4 e j w hj
      · cases hr
    · cases hr
  · cases hr
theorem rnd_U (h : pW T n p) (hu : pUs p) (hr : rnd T n p = .ok p') : pUs p' := by
  unfold rnd at hr
  split at hr
  · exact pUs_bgD hu hr
  · split at hr
    · exact pUs_clB hu hr
    · exact pUs_bgS h hu hr
theorem p00_U : pUs (p00 T n) := ⟨fun g hg => absurd hg (Nat.not_lt_zero g), fun k hk => absurd hk (Nat.not_lt_zero k), fun k hk => absurd hk (Nat.not_lt_zero k), fun e k he => absurd he List.not_mem_nil⟩
theorem prs_U : ∀ (m : Nat) {p p' : PS}, pW T n p → pV p → pUs p → prs T n m p = .ok p' → pUs p'
  | 0, _, _, _, _, _, hr => by cases hr
  | m + 1, p, p', h, hv, hu, hr => by
    rw [prs_s] at hr
    split at hr
    · cases hr
      exact hu
    · obtain ⟨p1, r1, r2⟩ := bnd_ok hr
      have w := rnd_W h hv r1
      exact prs_U m w.1 w.2.1 (rnd_U h hu r1) r2
end USED
/-! an ask brings by its used names alone -/
theorem amtR_eq {fc fc' fp : Nat → Nat} : ∀ (n f s p : Nat), (∀ g, f ≤ g → g < f + n → fc g = fc' g) → amtR fc fp n f s p = amtR fc' fp n f s p
  | 0, _, _, _, _ => rfl
  | n + 1, f, s, p, h => by
    unfold amtR
    rw [h f (Nat.le_refl _) (by omega)]
    split
    · exact amtR_eq n (f + 1) _ _ (fun g h1 h2 => h g (by omega) (by omega))
    · exact amtR_eq n (f + 1) _ _ (fun g h1 h2 => h g (by omega) (by omega))
section USED2
variable {T : Nat → Nat} {n : Nat} {p : PS} {sort : Int32} {cp : Nat → Option Nat} {ask ask' : Nat → Nat}
theorem amtK_used (hW : pW T n p) (hn : pN p) (hu : pUs p) (ha : ∀ b, p.s.un.testBit b = true → ask b = ask' b) {k : Nat} (hk : k < p.ns) : amtK ask p.F p.s.fk p.s.fv p.s.fp k = amtK ask' p.F p.s.fk p.s.fv p.s.fp k := by
  unfold amtK
  refine amtR_eq _ _ _ _ (fun g h1 h2 => ?_)
  have f1 := F_le hn (k + 1) (by omega) k (by omega)
  have f2 := F_le hn p.ns (Nat.le_refl _) (k + 1) (by omega)
  rw [hW.Fn] at f2
  unfold fcW facW
  by_cases c : p.s.fk g = 0
  · rw [if_pos c, if_pos c]
  · rw [if_neg c, if_neg c, ha _ (hu.1 g (by omega) c)]
theorem figV_used (hW : pW T n p) (hn : pN p) (hu : pUs p) (ha : ∀ b, p.s.un.testBit b = true → ask b = ask' b) {k : Nat} (hk : k < p.ns) : figV p cp ask k = figV p cp ask' k := by
  have e := amtK_used hW hn hu ha hk
  unfold figV figK
  by_cases c : p.K k = 5
  · rw [if_pos c, if_pos c, ha _ (hu.2.1 k hk c)]
  · rw [if_neg c, if_neg c, e]
theorem brV_used (hW : pW T n p) (hn : pN p) (hw : whP n p = true) (hu : pUs p) (ha : ∀ b, p.s.un.testBit b = true → ask b = ask' b) : brV p sort cp ask = brV p sort cp ask' := by
  have z : ∀ k : Nat, (fun _ : Nat => 0) k ≤ MU := fun _ => Nat.zero_le _
  rw [← brR_v (sort := sort) (cp := cp) (ask := ask) (f0 := fun _ => 0) (s := (fun _ => 0, fun _ => 0, fun _ => 0)) hW hn hw z z z, ← brR_v (sort := sort) (cp := cp) (ask := ask') (f0 := fun _ => 0) (s := (fun _ => 0, fun _ => 0, fun _ => 0)) hW hn hw z z z]
  have : cutN (figV p cp ask) (fun _ => 0) p.ns = cutN (figV p cp ask') (fun _ => 0) p.ns := by
    funext k
    unfold cutN
    split
    · exact figV_used hW hn hu ha (by assumption)
    · rfl
  unfold brR
  rw [this]
end USED2
