/-! what stays true while it is read -/
theorem bnd_ok {α β : Type} {x : Except Nat α} {f : α → Except Nat β} {b : β} (h : bndE x f = .ok b) : ∃ a, x = .ok a ∧ f a = .ok b := by
  cases x with
  | ok a => exact ⟨a, rfl, h⟩
  | error e => cases h
theorem tkP1_ok {T : Nat → Nat} {n i : Nat} {p p' : PS} (h : tkP1 T n i p = .ok p') : tkB T p.s.f p.s.t (stL i) = true ∧ p' = p.adv T n := by
  unfold tkP1 at h
  split at h
  · cases h
    exact ⟨by assumption, rfl⟩
  · cases h
theorem opB_ok {T : Nat → Nat} {n b : Nat} {q : Option Nat} {p p' : PS} (h : opB T n q b p = .ok p') : p.st.length < 8 ∧ tkB T p.s.f p.s.t (stL 2) = true ∧ p' = (PSm (p.s.adv T n) (p.ns) (p.np) (p.nd) (p.K) (p.A) (p.B) (p.E) (p.L) (p.F) (p.par) (p.bl) (p.ps) ((q, b) :: p.st) (true) (p.dp) (p.lt) (p.pS)) := by
  unfold opB at h
  split at h
  · cases h
    rename_i c
    exact ⟨c.1, c.2, rfl⟩
  · cases h
section PRES
variable {T : Nat → Nat} {n : Nat} {p p' : PS}
theorem pW_s {s1 : FS} (h : pW T n p) (hf : fW T n s1) (hn : s1.nf = p.s.nf) : pW T n (PSm (s1) (p.ns) (p.np) (p.nd) (p.K) (p.A) (p.B) (p.E) (p.L) (p.F) (p.par) (p.bl) (p.ps) (p.st) (p.bare) (p.dp) (p.lt) (p.pS)) := ⟨hf, h.ns, h.np, h.nd, h.dep, h.row, h.par, h.bl, h.stk, h.dp, h.def', h.fre, h.pl, by show p.F p.ns = s1.nf; rw [hn]; exact h.Fn⟩
theorem pW_tk {i : Nat} (h : pW T n p) (hi : 0 < (stL i).length) (hr : tkP1 T n i p = .ok p') : pW T n p' ∧ p.s.f < p'.s.f := by
  obtain ⟨h1, rfl⟩ := tkP1_ok hr
  exact ⟨pW_s h (adv_W h.f) rfl, (adv_W2 h.f hi h1).2.1⟩
theorem pW_op {b : Nat} {q : Option Nat} (h : pW T n p) (hb : b ≤ 1) (hq : ∀ k, q = some k → k < p.ns) (hq0 : q = none → p.lt < 6 ∧ p.nd < 6) (hr : opB T n q b p = .ok p') : pW T n p' ∧ p.s.f < p'.s.f := by
  obtain ⟨h1, h2, rfl⟩ := opB_ok hr
  refine ⟨⟨adv_W h.f, h.ns, h.np, h.nd, by show p.st.length + 1 ≤ 8; omega, h.row, h.par, h.bl, fun e he => ?_, h.dp, fun hd => ?_, h.fre, h.pl, h.Fn⟩, (adv_W2 h.f (by decide) h2).2.1⟩
  · rcases List.mem_cons.mp he with rfl | he
    · exact ⟨hb, hq⟩
    · exact h.stk e he
  · obtain ⟨b9, hb9⟩ := hd
    rcases List.mem_cons.mp hb9 with e | e
    · have e1 : (none : Option Nat) = q := congrArg (fun z : Option Nat × Nat => z.1) e
      exact hq0 e1.symm
    · exact h.def' ⟨b9, e⟩
theorem top_lt (h : pW T n p) : (∀ q, topP p = some q → q < p.ns) ∧ topB p ≤ 1 := by
  unfold topP topB
  cases hs : p.st with
  | nil => exact ⟨fun q hq => (by cases hq), Nat.zero_le _⟩
  | cons e r =>
    have := h.stk e (by rw [hs]; exact List.mem_cons_self)
    exact ⟨this.2, this.1⟩
theorem pW_new {s1 : FS} {kd a b f9 : Nat} {e9 l9 : Nat → Nat} (h : pW T n p) (hf : fW T n s1) (h60 : p.ns < 60) (hnp : kd = 1 → p.np < 8) (hr : kd ≤ 5 ∧ a ≤ 1000 ∧ b ≤ 1000 ∧ (kd = 1 → a < 8) ∧ (kd = 3 → a < 8) ∧ (kd = 4 → a < p.nd) ∧ (kd = 5 → a < 4)) (hf9 : f9 = s1.nf) :
    pW T n (PSm (s1) (p.ns + 1) (if kd = 1 then p.np + 1 else p.np) (p.nd) (upN p.K p.ns kd) (upN p.A p.ns a) (upN p.B p.ns b) (e9) (l9) (upN p.F (p.ns + 1) f9) (upO p.par p.ns (topP p)) (upN p.bl p.ns (topB p)) (if kd = 1 then upN p.ps p.np p.ns else p.ps) (p.st) (false) (p.dp) (p.lt) (p.pS)) := by
  have ht := top_lt h
  have hnp8 := h.np
  refine ⟨hf, by show p.ns + 1 ≤ 60; omega, ?_, h.nd, h.dep, fun k hk => ?_, fun k q hk hq => ?_, fun k hk => ?_, fun e he => ?_, h.dp, h.def', h.fre, fun q hq => ?_, ?_⟩
  · show (if kd = 1 then p.np + 1 else p.np) ≤ 8
    split
    · have := hnp (by assumption); omega
    · exact hnp8
  · have hk : k < p.ns + 1 := hk
    unfold rowW
    by_cases e : k = p.ns
    · simp only [PS_s, PS_ns, PS_np, PS_nd, PS_K, PS_A, PS_B, PS_E, PS_L, PS_F, PS_par, PS_bl, PS_ps, PS_st, PS_bare, PS_dp, PS_lt, PS_pS, FS_f, FS_t, FS_nf, FS_un, FS_fk, FS_fv, FS_fp, e, upN_at]
      exact hr
    · simp only [PS_s, PS_ns, PS_np, PS_nd, PS_K, PS_A, PS_B, PS_E, PS_L, PS_F, PS_par, PS_bl, PS_ps, PS_st, PS_bare, PS_dp, PS_lt, PS_pS, FS_f, FS_t, FS_nf, FS_un, FS_fk, FS_fv, FS_fp, upN_ne e]
      exact h.row k (by omega)
  · have hk : k < p.ns + 1 := hk
    have hq : upO p.par p.ns (topP p) k = some q := hq
    by_cases e : k = p.ns
    · rw [e, upO_at] at hq
      have := ht.1 q hq
      omega
    · rw [upO_ne e] at hq
      exact h.par k q (by omega) hq
  · have hk : k < p.ns + 1 := hk
    show upN p.bl p.ns (topB p) k ≤ 1
    by_cases e : k = p.ns
    · rw [e, upN_at]; exact ht.2
    · rw [upN_ne e]; exact h.bl k (by omega)
  · have := h.stk e he
    exact ⟨this.1, fun k hk => Nat.lt_succ_of_lt (this.2 k hk)⟩
  · have hq : q < (if kd = 1 then p.np + 1 else p.np) := hq
    show (if kd = 1 then upN p.ps p.np p.ns else p.ps) q < p.ns + 1
    by_cases z : kd = 1
    · rw [if_pos z] at hq ⊢
      by_cases e : q = p.np
      · rw [e, upN_at]; omega
      · rw [upN_ne e]; exact Nat.lt_succ_of_lt (h.pl q (by omega))
    · rw [if_neg z] at hq ⊢
      exact Nat.lt_succ_of_lt (h.pl q hq)
  · show upN p.F (p.ns + 1) f9 (p.ns + 1) = s1.nf
    rw [upN_at, hf9]
theorem pW_bgS (h : pW T n p) (hr : bgS T n p = .ok p') : pW T n p' ∧ p.s.f < p'.s.f := by
  unfold bgS at hr
  split at hr
  · cases hr
  · rename_i kd hkd
    split at hr
    · rename_i c
      obtain ⟨c1, c2⟩ := c
      have hk5 := kdP_lt hkd
      have hfn := kdP_f h.f hkd
      have a := adv_f h.f
      have a4 := a.2.2.2 hfn
      have W1 : fW T n (p.s.adv T n) := adv_W h.f
      have n1 : 2 * (p.s.adv T n).nf < (p.s.adv T n).f := by
        have : (p.s.adv T n).nf = p.s.nf := rfl
        have := h.f.2.2.2
        omega
      have hnp : kd = 1 → p.np < 8 := fun z => by
        have : ¬ 8 ≤ p.np := fun q => c2 ⟨z, q⟩
        omega
      have hnp8 := h.np
      have am : ∀ p1, kd ≤ 2 → amP T n p.ns (nwS T n kd p) = .ok p1 → pW T n p1 ∧ p.s.f < p1.s.f ∧ p1.ns = p.ns + 1 := by
        intro p1 hk2 hr
        obtain ⟨s', r1, r2⟩ := bnd_ok hr
        have w := rdAmt_W _ _ _ _ W1 n1 r1
        cases r2
        refine ⟨?_, Nat.lt_trans a4 w.2, rfl⟩
        have := pW_new (e9 := upN p.E p.ns (p.ns + 1)) (l9 := upN p.L p.ns 0) (kd := kd) (a := if kd = 1 then p.np else 0) (b := 0) (f9 := s'.nf) h w.1 c1 hnp ⟨hk5, by split <;> omega, by omega, fun z => by rw [if_pos z]; exact hnp z, fun z => absurd z (by omega), fun z => absurd z (by omega), fun z => absurd z (by omega)⟩ rfl
        unfold nwS
        simp only [PS_s, PS_ns, PS_np, PS_nd, PS_K, PS_A, PS_B, PS_E, PS_L, PS_F, PS_par, PS_bl, PS_ps, PS_st, PS_bare, PS_dp, PS_lt, PS_pS, FS_f, FS_t, FS_nf, FS_un, FS_fk, FS_fv, FS_fp, upN_tw]
        exact this
      unfold tlP at hr
      split at hr
      · rename_i k0
        obtain ⟨p1, r1, r2⟩ := bnd_ok hr
        have w := am p1 (by omega) r1
        have w2 := pW_tk w.1 (by decide) r2
        exact ⟨w2.1, Nat.lt_trans w.2.1 w2.2⟩
      · split at hr
        · rename_i k0 k4
          subst k4
          obtain ⟨p1, r1, r2⟩ := bnd_ok hr
          unfold caP at r1
          split at r1
          · rename_i j hj
            have hl := tLet_lt hj
            split at r1
            · rename_i d hd
              cases r1
              have hd : p.dp j = some d := hd
              have hdn := h.dp j d (by omega) hd
              have hnd := h.nd
              have w := pW_new (e9 := upN p.E p.ns (p.ns + 1)) (l9 := upN p.L p.ns 0) (kd := 4) (a := d) (b := 0) (f9 := p.s.nf) h (adv_W W1) c1 hnp ⟨hk5, by omega, by omega, fun z => absurd z (by omega), fun z => absurd z (by omega), fun _ => hdn, fun z => absurd z (by omega)⟩ rfl
              have w' : pW T n (PSm ((nwS T n 4 p).s.adv T n) ((nwS T n 4 p).ns) ((nwS T n 4 p).np) ((nwS T n 4 p).nd) ((nwS T n 4 p).K) (upN (nwS T n 4 p).A p.ns d) ((nwS T n 4 p).B) ((nwS T n 4 p).E) ((nwS T n 4 p).L) ((nwS T n 4 p).F) ((nwS T n 4 p).par) ((nwS T n 4 p).bl) ((nwS T n 4 p).ps) ((nwS T n 4 p).st) ((nwS T n 4 p).bare) ((nwS T n 4 p).dp) ((nwS T n 4 p).lt) ((nwS T n 4 p).pS)) := by
                unfold nwS
                simp only [PS_s, PS_ns, PS_np, PS_nd, PS_K, PS_A, PS_B, PS_E, PS_L, PS_F, PS_par, PS_bl, PS_ps, PS_st, PS_bare, PS_dp, PS_lt, PS_pS, FS_f, FS_t, FS_nf, FS_un, FS_fk, FS_fv, FS_fp, upN_tw]
                exact w
              have w2 := pW_tk w' (by decide) r2
              exact ⟨w2.1, Nat.lt_trans a4 (Nat.lt_of_le_of_lt (by
                have := adv_f W1
                have := this.2.2.1
                have := tkT_le (T := T) W1.1
                rw [← W1.2.1] at this
                show (p.s.adv T n).f ≤ ((p.s.adv T n).adv T n).f
                omega) w2.2)⟩
            · cases r1
          · cases r1
        · split at hr
          · rename_i k0 k4 k3
            subst k3
            obtain ⟨p1, r1, r2⟩ := bnd_ok hr
            unfold nuA at r1
            split at r1
            · rename_i v hv
              cases r1
              have hl := tNum_lt hv
              have w := pW_new (e9 := upN p.E p.ns (p.ns + 1)) (l9 := upN p.L p.ns 0) (kd := 3) (a := v) (b := 0) (f9 := p.s.nf) h (adv_W W1) c1 hnp ⟨hk5, by omega, by omega, fun z => absurd z (by omega), fun _ => by omega, fun z => absurd z (by omega), fun z => absurd z (by omega)⟩ rfl
              have w' : pW T n (PSm ((nwS T n 3 p).s.adv T n) ((nwS T n 3 p).ns) ((nwS T n 3 p).np) ((nwS T n 3 p).nd) ((nwS T n 3 p).K) (upN (nwS T n 3 p).A p.ns v) ((nwS T n 3 p).B) ((nwS T n 3 p).E) ((nwS T n 3 p).L) ((nwS T n 3 p).F) ((nwS T n 3 p).par) ((nwS T n 3 p).bl) ((nwS T n 3 p).ps) ((nwS T n 3 p).st) ((nwS T n 3 p).bare) ((nwS T n 3 p).dp) ((nwS T n 3 p).lt) ((nwS T n 3 p).pS)) := by
                unfold nwS
                simp only [PS_s, PS_ns, PS_np, PS_nd, PS_K, PS_A, PS_B, PS_E, PS_L, PS_F, PS_par, PS_bl, PS_ps, PS_st, PS_bare, PS_dp, PS_lt, PS_pS, FS_f, FS_t, FS_nf, FS_un, FS_fk, FS_fv, FS_fp, upN_tw]
                exact w
              have w2 := pW_op w' (by omega) (fun k hk => by cases hk; show p.ns < p.ns + 1; omega) (fun q => by cases q) r2
              exact ⟨w2.1, Nat.lt_trans a4 (Nat.lt_of_le_of_lt (by
                have := adv_f W1
                have := this.2.2.1
                have := tkT_le (T := T) W1.1
                rw [← W1.2.1] at this
                show (p.s.adv T n).f ≤ ((p.s.adv T n).adv T n).f
                omega) w2.2)⟩
            · cases r1
          · split at hr
            · rename_i k0 k4 k3 k5
              subst k5
              obtain ⟨p1, r1, r2⟩ := bnd_ok hr
              obtain ⟨pa, ra, rb⟩ := bnd_ok r1
              unfold naP at ra
              split at ra
              · rename_i x hx
                cases ra
                have hl := tLet_lt hx
                obtain ⟨pb, rc, rd⟩ := bnd_ok rb
                obtain ⟨t1, rfl⟩ := tkP1_ok rc
                unfold nuB at rd
                split at rd
                · rename_i v hv
                  cases rd
                  have hl2 := tNum_lt hv
                  have Wx : fW T n (FSm (((p.s.adv T n).adv T n).f) (((p.s.adv T n).adv T n).t) (((p.s.adv T n).adv T n).nf) ((p.s.adv T n).un ||| 2 ^ x) (((p.s.adv T n).adv T n).fk) (((p.s.adv T n).adv T n).fv) (((p.s.adv T n).adv T n).fp)) := ⟨(adv_W W1).1, (adv_W W1).2.1, or16 W1.2.2.1 (by omega), (adv_W W1).2.2.2⟩
                  have Wy := adv_W (adv_W Wx)
                  have w := pW_new (e9 := upN p.E p.ns (p.ns + 1)) (l9 := upN p.L p.ns 0) (kd := 5) (a := x) (b := v) (f9 := p.s.nf) h Wy c1 hnp ⟨hk5, by omega, by omega, fun z => absurd z (by omega), fun z => absurd z (by omega), fun z => absurd z (by omega), fun _ => by omega⟩ rfl
                  have f1 : (p.s.adv T n).f ≤ ((p.s.adv T n).adv T n).f := by
                    have := adv_f W1
                    have := this.2.2.1
                    have := tkT_le (T := T) W1.1
                    rw [← W1.2.1] at this
                    omega
                  have f2 := adv_f Wx
                  have f3 := adv_f (adv_W Wx)
                  have b2 := tkT_le (T := T) Wx.1
                  rw [← Wx.2.1] at b2
                  have b3 := tkT_le (T := T) (adv_W Wx).1
                  rw [← (adv_W Wx).2.1] at b3
                  have f4 : ((p.s.adv T n).adv T n).f ≤ (FS.adv T n (FS.adv T n (FSm (((p.s.adv T n).adv T n).f) (((p.s.adv T n).adv T n).t) (((p.s.adv T n).adv T n).nf) ((p.s.adv T n).un ||| 2 ^ x) (((p.s.adv T n).adv T n).fk) (((p.s.adv T n).adv T n).fv) (((p.s.adv T n).adv T n).fp)))).f := by
                    exact Nat.le_trans (Nat.le_trans b2.1 f2.2.2.1) (Nat.le_trans b3.1 f3.2.2.1)
                  have w2 := pW_op (b := 0) (q := some p.ns) (p' := p') (show pW T n _ from w) (by omega) (fun k hk => by cases hk; show p.ns < p.ns + 1; omega) (fun q => by cases q) (by
                    have r2' := r2
                    unfold nwS PS.adv at r2'
                    simp only [PS_s, PS_ns, PS_np, PS_nd, PS_K, PS_A, PS_B, PS_E, PS_L, PS_F, PS_par, PS_bl, PS_ps, PS_st, PS_bare, PS_dp, PS_lt, PS_pS, FS_f, FS_t, FS_nf, FS_un, FS_fk, FS_fv, FS_fp, upN_tw] at r2'
                    exact r2')
                  exact ⟨w2.1, Nat.lt_trans a4 (Nat.lt_of_le_of_lt (Nat.le_trans f1 f4) w2.2)⟩
                · cases rd
              · cases ra
            · rename_i k0 k4 k3 k5
              obtain ⟨p1, r1, r2⟩ := bnd_ok hr
              have w := am p1 (by omega) r1
              have w2 := pW_op w.1 (by omega) (fun k hk => by cases hk; rw [w.2.2]; omega) (fun q => by cases q) r2
              exact ⟨w2.1, Nat.lt_trans w.2.1 w2.2⟩
    · cases hr
end PRES
