/-! blocks within blocks: what stays true while it is read -/
section NESTA
variable {T : Nat → Nat} {n : Nat}
theorem rdN_nf {kd op : Nat} {s s' : FS} (h : rdN T n kd op s = .ok s') : s.nf ≤ s'.nf := by
  unfold rdN at h
  split at h
  · cases h
    show s.nf ≤ s.nf + 1
    omega
  · cases h
theorem rdFac_nf {op : Nat} {s s' : FS} (h : rdFac T n op s = .ok s') : s.nf ≤ s'.nf := by
  unfold rdFac at h
  split at h
  · cases h
    show s.nf ≤ s.nf + 1
    omega
  · split at h
    · exact rdN_nf (s := s.adv T n) h
    · exact rdN_nf h
theorem rdAmt_nf : ∀ (m op : Nat) (s s' : FS), rdAmt T n m op s = .ok s' → s.nf ≤ s'.nf
  | 0, _, _, _, hr => by cases hr
  | m + 1, op, s, s', hr => by
    unfold rdAmt at hr
    split at hr
    · cases hr
    · rename_i s1 h1
      have a := rdFac_nf h1
      split at hr
      · exact Nat.le_trans a (rdAmt_nf m 1 (s1.adv T n) s' hr)
      · split at hr
        · exact Nat.le_trans a (rdAmt_nf m 0 (s1.adv T n) s' hr)
        · cases hr
          exact a
end NESTA
/-- what a step makes of the state -/
def nwP9 (p : PS) (kd a b : Nat) (s1 : FS) (pu : Bool) : PS := (PSm (s1) (p.ns + 1) (if kd = 1 then p.np + 1 else p.np) (p.nd) (upN p.K p.ns kd) (upN p.A p.ns a) (upN p.B p.ns b) (upN p.E p.ns (p.ns + 1)) (upN p.L p.ns 0) (upN p.F (p.ns + 1) s1.nf) (upO p.par p.ns (topP p)) (upN p.bl p.ns (topB p)) (if kd = 1 then upN p.ps p.np p.ns else p.ps) (if pu = true then (some p.ns, 0) :: p.st else p.st) (pu) (p.dp) (p.lt) (p.pS))
section NESTB
variable {T : Nat → Nat} {n : Nat} {p p' : PS}
theorem bgS_form (h : pW T n p) (hr : bgS T n p = .ok p') : ∃ (kd a b : Nat) (s1 : FS) (pu : Bool), kd ≤ 5 ∧ p.ns < 60 ∧ (kd = 1 → a = p.np ∧ p.np < 8) ∧ (kd = 4 → a < p.nd) ∧ p.s.nf ≤ s1.nf ∧ (pu = true → p.st.length < 8) ∧ (kd = 5 → pu = true) ∧ p' = nwP9 p kd a b s1 pu := by
  unfold bgS at hr
  split at hr
  · cases hr
  · rename_i kd hkd
    split at hr
    · rename_i c
      obtain ⟨c1, c2⟩ := c
      have hk5 := kdP_lt hkd
      have hnp : kd = 1 → p.np < 8 := fun z => by
        have : ¬ 8 ≤ p.np := fun q => c2 ⟨z, q⟩
        omega
      unfold tlP at hr
      split at hr
      · rename_i k0
        subst k0
        obtain ⟨p1, r1, r2⟩ := bnd_ok hr
        obtain ⟨s', q1, q2⟩ := bnd_ok r1
        cases q2
        obtain ⟨-, rfl⟩ := tkP1_ok r2
        have nf := rdAmt_nf _ _ _ _ q1
        refine ⟨0, 0, 0, s'.adv T n, false, hk5, c1, fun z => absurd z (by decide), fun z => absurd z (by decide), nf, fun z => (by cases z), fun z => absurd z (by decide), ?_⟩
        unfold nwS nwP9 PS.adv
        simp only [PS_s, PS_ns, PS_np, PS_nd, PS_K, PS_A, PS_B, PS_E, PS_L, PS_F, PS_par, PS_bl, PS_ps, PS_st, PS_bare, PS_dp, PS_lt, PS_pS, FS_f, FS_t, FS_nf, FS_un, FS_fk, FS_fv, FS_fp, upN_tw]
        rfl
      · split at hr
        · rename_i k0 k4
          subst k4
          obtain ⟨p1, r1, r2⟩ := bnd_ok hr
          unfold caP at r1
          split at r1
          · rename_i j hj
            have hl := tLet_lt hj
            split at r1
            · rename_i d hd
              cases r1
              obtain ⟨-, rfl⟩ := tkP1_ok r2
              have hd : p.dp j = some d := hd
              have hdn := h.dp j d (by omega) hd
              refine ⟨4, d, 0, ((p.s.adv T n).adv T n).adv T n, false, hk5, c1, fun z => absurd z (by decide), fun _ => hdn, Nat.le_refl _, fun z => (by cases z), fun z => absurd z (by decide), ?_⟩
              unfold nwS nwP9 PS.adv
              simp only [PS_s, PS_ns, PS_np, PS_nd, PS_K, PS_A, PS_B, PS_E, PS_L, PS_F, PS_par, PS_bl, PS_ps, PS_st, PS_bare, PS_dp, PS_lt, PS_pS, FS_f, FS_t, FS_nf, FS_un, FS_fk, FS_fv, FS_fp, upN_tw]
              rfl
            · cases r1
          · cases r1
        · split at hr
          · rename_i k0 k4 k3
            subst k3
            obtain ⟨p1, r1, r2⟩ := bnd_ok hr
            unfold nuA at r1
            split at r1
            · rename_i v hv
              cases r1
              obtain ⟨q1, -, rfl⟩ := opB_ok r2
              refine ⟨3, v, 0, ((p.s.adv T n).adv T n).adv T n, true, hk5, c1, fun z => absurd z (by decide), fun z => absurd z (by decide), Nat.le_refl _, fun _ => q1, fun _ => rfl, ?_⟩
              unfold nwS nwP9
              simp only [PS_s, PS_ns, PS_np, PS_nd, PS_K, PS_A, PS_B, PS_E, PS_L, PS_F, PS_par, PS_bl, PS_ps, PS_st, PS_bare, PS_dp, PS_lt, PS_pS, FS_f, FS_t, FS_nf, FS_un, FS_fk, FS_fv, FS_fp, upN_tw]
              rfl
            · cases r1
          · split at hr
            · rename_i k0 k4 k3 k5
              subst k5
              obtain ⟨p1, r1, r2⟩ := bnd_ok hr
              obtain ⟨pa, ra, rb⟩ := bnd_ok r1
              unfold naP at ra
              split at ra
              · rename_i x hx
                cases ra
                obtain ⟨pb, rc, rd⟩ := bnd_ok rb
                obtain ⟨t1, rfl⟩ := tkP1_ok rc
                unfold nuB at rd
                split at rd
                · rename_i v hv
                  cases rd
                  obtain ⟨q1, -, rfl⟩ := opB_ok r2
                  refine ⟨5, x, v, FS.adv T n (FS.adv T n (FS.adv T n (FSm (((p.s.adv T n).adv T n).f) (((p.s.adv T n).adv T n).t) (((p.s.adv T n).adv T n).nf) ((p.s.adv T n).un ||| 2 ^ x) (((p.s.adv T n).adv T n).fk) (((p.s.adv T n).adv T n).fv) (((p.s.adv T n).adv T n).fp)))), true, hk5, c1, fun z => absurd z (by decide), fun z => absurd z (by decide), Nat.le_refl _, fun _ => q1, fun _ => rfl, ?_⟩
                  unfold nwS nwP9 PS.adv
                  simp only [PS_s, PS_ns, PS_np, PS_nd, PS_K, PS_A, PS_B, PS_E, PS_L, PS_F, PS_par, PS_bl, PS_ps, PS_st, PS_bare, PS_dp, PS_lt, PS_pS, FS_f, FS_t, FS_nf, FS_un, FS_fk, FS_fv, FS_fp, upN_tw]
                  rfl
                · cases rd
              · cases ra
            · rename_i k0 k4 k3 k5
              obtain ⟨p1, r1, r2⟩ := bnd_ok hr
              obtain ⟨s', q1, q2⟩ := bnd_ok r1
              cases q2
              obtain ⟨q3, -, rfl⟩ := opB_ok r2
              have nf := rdAmt_nf _ _ _ _ q1
              refine ⟨kd, if kd = 1 then p.np else 0, 0, s'.adv T n, true, hk5, c1, fun z => ⟨if_pos z, hnp z⟩, fun z => absurd z k4, nf, fun _ => q3, fun _ => rfl, ?_⟩
              unfold nwS nwP9
              simp only [PS_s, PS_ns, PS_np, PS_nd, PS_K, PS_A, PS_B, PS_E, PS_L, PS_F, PS_par, PS_bl, PS_ps, PS_st, PS_bare, PS_dp, PS_lt, PS_pS, FS_f, FS_t, FS_nf, FS_un, FS_fk, FS_fv, FS_fp, upN_tw]
              rfl
    · cases hr
end NESTB
/-! the open blocks -/
abbrev STK : Type := List (Option Nat × Nat)
def opn (st : STK) (k : Nat) : Bool := st.any (fun e => e.1 == some k)
def opn0 (st : STK) (k : Nat) : Bool := st.any (fun e => e == (some k, 0))
def topO : STK → Option Nat
  | [] => none
  | e :: _ => e.1
def topN : STK → Nat
  | [] => 0
  | e :: _ => e.2
def stC (par : Nat → Option Nat) (bl : Nat → Nat) : STK → Prop
  | [] => True
  | e :: r => (∀ k, e.1 = some k → par k = topO r ∧ (∀ c, topO r = some c → bl k = topN r)) ∧ stC par bl r
theorem opn_iff {st : STK} {k : Nat} : opn st k = true ↔ ∃ b, (some k, b) ∈ st := by
  unfold opn
  rw [List.any_eq_true]
  constructor
  · rintro ⟨⟨a, b⟩, h1, h2⟩
    have h2 : a = some k := by simpa using h2
    exact ⟨b, by rw [← h2]; exact h1⟩
  · rintro ⟨b, h⟩
    exact ⟨(some k, b), h, by simp⟩
theorem opn0_iff {st : STK} {k : Nat} : opn0 st k = true ↔ (some k, 0) ∈ st := by
  unfold opn0
  rw [List.any_eq_true]
  constructor
  · rintro ⟨a, h1, h2⟩
    have h2 : a = (some k, 0) := by simpa using h2
    rw [← h2]; exact h1
  · intro h
    exact ⟨_, h, by simp⟩
theorem topP_O (p : PS) : topP p = topO p.st := by
  unfold topP topO
  cases p.st <;> rfl
theorem topB_N (p : PS) : topB p = topN p.st := by
  unfold topB topN
  cases p.st <;> rfl
section STK9
variable {par : Nat → Option Nat} {bl : Nat → Nat}
theorem top_mem {st : STK} {c : Nat} (h : topO st = some c) : (some c, topN st) ∈ st := by
  cases st with
  | nil => cases h
  | cons e r =>
    obtain ⟨a, b⟩ := e
    have h : a = some c := h
    rw [h]
    exact List.mem_cons_self
/-- around an open step stands its parent's block -/
theorem stC_par {j c : Nat} : ∀ {st : STK}, stC par bl st → opn st j = true → par j = some c → (some c, bl j) ∈ st
  | [], _, ho, _ => by simp [opn] at ho
  | e :: r, h, ho, hp => by
    obtain ⟨b, hb⟩ := opn_iff.mp ho
    rcases List.mem_cons.mp hb with e1 | e1
    · have e2 : e.1 = some j := by rw [← e1]
      obtain ⟨q1, q2⟩ := h.1 j e2
      rw [hp] at q1
      have q3 := q2 c q1.symm
      rw [q3]
      exact List.mem_cons_of_mem _ (top_mem q1.symm)
    · exact List.mem_cons_of_mem _ (stC_par h.2 (opn_iff.mpr ⟨b, e1⟩) hp)
/-- the top is the last of the open steps -/
theorem stC_top {N c : Nat} (hpar : ∀ k q, k < N → par k = some q → q < k) : ∀ {st : STK}, stC par bl st → botT st → (∀ e k, e ∈ st → e.1 = some k → k < N) → opn st c = true → ∃ q, topO st = some q ∧ c ≤ q
  | [], _, _, _, ho => by simp [opn] at ho
  | e :: r, h, hb, hN, ho => by
    obtain ⟨b, hm⟩ := opn_iff.mp ho
    rcases List.mem_cons.mp hm with e1 | e1
    · exact ⟨c, by show e.1 = some c; rw [← e1], Nat.le_refl _⟩
    · obtain ⟨q, h1, h2⟩ := stC_top hpar h.2 hb.2 (fun e k he => hN e k (List.mem_cons_of_mem _ he)) (opn_iff.mpr ⟨b, e1⟩)
      obtain ⟨a, x⟩ := e
      cases a with
      | none =>
        have := hb.1 rfl
        rw [this] at e1
        exact absurd e1 List.not_mem_nil
      | some k =>
        have h3 := (h.1 k rfl).1
        rw [h1] at h3
        have := hpar k q (hN _ k List.mem_cons_self rfl) h3
        exact ⟨k, rfl, by omega⟩
theorem stC_lt {N k x : Nat} {r : STK} (hpar : ∀ k q, k < N → par k = some q → q < k) (h : stC par bl ((some k, x) :: r)) (hb : botT ((some k, x) :: r)) (hN : ∀ e k9, e ∈ (some k, x) :: r → e.1 = some k9 → k9 < N) {c : Nat} (ho : opn r c = true) : c < k := by
  obtain ⟨q, h1, h2⟩ := stC_top hpar h.2 hb.2 (fun e k he => hN e k (List.mem_cons_of_mem _ he)) ho
  have h3 := (h.1 k rfl).1
  rw [h1] at h3
  have := hpar k q (hN _ k List.mem_cons_self rfl) h3
  omega
theorem stC_eq {par' : Nat → Option Nat} {bl' : Nat → Nat} : ∀ {st : STK}, stC par bl st → (∀ e k, e ∈ st → e.1 = some k → par' k = par k ∧ bl' k = bl k) → stC par' bl' st
  | [], _, _ => trivial
  | e :: r, h, q => ⟨fun k hk => by
      obtain ⟨q1, q2⟩ := q e k List.mem_cons_self hk
      rw [q1, q2]
      exact h.1 k hk, stC_eq h.2 (fun e k he => q e k (List.mem_cons_of_mem _ he))⟩
end STK9
/-! ends, elses, parts, places -/
def trE (n : Nat) (e : Nat → Nat) (par : Nat → Option Nat) : Prop := (∀ k, k < n → k < e k ∧ e k ≤ n) ∧ (∀ j c, j < n → par j = some c → c < j ∧ j < e c ∧ e j ≤ e c) ∧ (∀ c j, j < n → c < j → j < e c → ∃ q, par j = some q ∧ c ≤ q)
def trL (n : Nat) (e l K bl : Nat → Nat) (par : Nat → Option Nat) : Prop := (∀ c, c < n → K c = 5 → c < l c ∧ l c ≤ e c) ∧ (∀ j c, j < n → par j = some c → K c = 5 → (bl j = 0 → e j ≤ l c) ∧ (bl j = 1 → l c ≤ j))
def trP (n nd : Nat) (e pS K A : Nat → Nat) : Prop := pS 0 = 0 ∧ (∀ d, d < nd → pS d ≤ pS (d + 1)) ∧ pS nd ≤ n ∧ (∀ d k, d ≤ nd → k < pS d → e k ≤ pS d) ∧ (∀ k, k < n → K k = 4 → A k < nd ∧ pS (A k + 1) ≤ k)
def trQ (n np : Nat) (K A ps : Nat → Nat) : Prop := (∀ q, q < np → ps q < n ∧ K (ps q) = 1 ∧ A (ps q) = q) ∧ (∀ k, k < n → K k = 1 → A k < np ∧ ps (A k) = k)
theorem pS_le {nd : Nat} {pS : Nat → Nat} (h : ∀ d, d < nd → pS d ≤ pS (d + 1)) : ∀ b, b ≤ nd → ∀ a, a ≤ b → pS a ≤ pS b
  | 0, _, a, ha => by rw [Nat.le_zero.mp ha]; exact Nat.le_refl _
  | b + 1, hb, a, ha => by
    by_cases e : a = b + 1
    · rw [e]; exact Nat.le_refl _
    · exact Nat.le_trans (pS_le h b (by omega) a (by omega)) (h b (by omega))
theorem trE_new {n : Nat} {e e' : Nat → Nat} {par : Nat → Option Nat} {t : Option Nat} {o : Nat → Bool} (h : trE n e par) (h1 : ∀ k, k < n → o k = true → e k = n ∧ e' k = n + 1) (h2 : ∀ k, k < n → o k = false → e' k = e k) (h3 : e' n = n + 1) (h4 : ∀ c, t = some c → c < n ∧ o c = true) (h5 : ∀ c, c < n → o c = true → ∃ q, t = some q ∧ c ≤ q) (h6 : ∀ j c, j < n → o j = true → par j = some c → o c = true) : trE (n + 1) e' (upO par n t) := by
  obtain ⟨a1, a2, a3⟩ := h
  refine ⟨fun k hk => ?_, fun j c hj hp => ?_, fun c j hj hc hlt => ?_⟩
  · by_cases ek : k = n
    · rw [ek, h3]; omega
    · have := a1 k (by omega)
      cases ho : o k with
      | true => have := h1 k (by omega) ho; omega
      | false => have := h2 k (by omega) ho; omega
  · by_cases ej : j = n
    · rw [ej, upO_at] at hp
      have q := h4 c hp
      have q2 := h1 c q.1 q.2
      rw [ej, h3]
      omega
    · rw [upO_ne ej] at hp
      have q := a2 j c (by omega) hp
      have hj' := a1 j (by omega)
      cases hoc : o c with
      | true =>
        have q2 := h1 c (by omega) hoc
        cases ho : o j with
        | true => have := h1 j (by omega) ho; omega
        | false => have := h2 j (by omega) ho; omega
      | false =>
        have q2 := h2 c (by omega) hoc
        cases ho : o j with
        | true =>
          have := h6 j c (by omega) ho hp
          rw [hoc] at this
          cases this
        | false => have := h2 j (by omega) ho; omega
  · by_cases ej : j = n
    · rw [ej, upO_at]
      cases hoc : o c with
      | true => exact h5 c (by omega) hoc
      | false =>
        have q2 := h2 c (by omega) hoc
        have := a1 c (by omega)
        omega
    · rw [upO_ne ej]
      refine a3 c j (by omega) hc ?_
      cases hoc : o c with
      | true => have := h1 c (by omega) hoc; omega
      | false => have := h2 c (by omega) hoc; omega
theorem trL_new {n kd tb : Nat} {e e' l l' K bl : Nat → Nat} {par : Nat → Option Nat} {t : Option Nat} {o o0 : Nat → Bool} (hE : trE n e par) (h : trL n e l K bl par) (h1 : ∀ k, k < n → o k = true → e k = n ∧ e' k = n + 1) (h2 : ∀ k, k < n → o k = false → e' k = e k) (h3 : e' n = n + 1)
    (g1 : ∀ c, c < n → o0 c = true → l c = n ∧ l' c = n + 1 ∧ o c = true) (g2 : ∀ c, c < n → o0 c = false → l' c = l c) (g3 : kd = 5 → l' n = n + 1) (h4 : ∀ c, t = some c → c < n) (g4 : ∀ c, t = some c → tb = 0 → o0 c = true) (g5 : ∀ c, t = some c → tb = 1 → o0 c = false) (g6 : ∀ j c, j < n → o j = true → par j = some c → bl j = 0 → o0 c = true) : trL (n + 1) e' l' (upN K n kd) (upN bl n tb) (upO par n t) := by
  obtain ⟨a1, a2, a3⟩ := hE
  obtain ⟨b1, b2⟩ := h
  refine ⟨fun c hc hk => ?_, fun j c hj hp hk => ⟨fun hb => ?_, fun hb => ?_⟩⟩
  · by_cases ec : c = n
    · rw [ec] at hk ⊢
      rw [upN_at] at hk
      rw [h3, g3 hk]
      omega
    · rw [upN_ne ec] at hk
      have q := b1 c (by omega) hk
      have q2 := a1 c (by omega)
      cases hz : o0 c with
      | true =>
        have q3 := g1 c (by omega) hz
        have q4 := h1 c (by omega) q3.2.2
        omega
      | false =>
        have q3 := g2 c (by omega) hz
        cases ho : o c with
        | true => have := h1 c (by omega) ho; omega
        | false => have := h2 c (by omega) ho; omega
  · have q5 : e' j ≤ n + 1 := by
      by_cases ej : j = n
      · rw [ej, h3]; omega
      · have := a1 j (by omega)
        cases ho : o j with
        | true => have := h1 j (by omega) ho; omega
        | false => have := h2 j (by omega) ho; omega
    by_cases ej : j = n
    · rw [ej, upO_at] at hp
      rw [ej, upN_at] at hb
      have := g1 c (h4 c hp) (g4 c hp hb)
      omega
    · rw [upO_ne ej] at hp
      rw [upN_ne ej] at hb
      have hcj := a2 j c (by omega) hp
      rw [upN_ne (by omega)] at hk
      have q := (b2 j c (by omega) hp hk).1 hb
      cases hz : o0 c with
      | true => have := g1 c (by omega) hz; omega
      | false =>
        have q3 := g2 c (by omega) hz
        cases ho : o j with
        | true =>
          have := g6 j c (by omega) ho hp hb
          rw [hz] at this
          cases this
        | false => have := h2 j (by omega) ho; omega
  · by_cases ej : j = n
    · rw [ej, upO_at] at hp
      rw [ej, upN_at] at hb
      have hc := h4 c hp
      rw [upN_ne (by omega)] at hk
      have := g2 c hc (g5 c hp hb)
      have := b1 c hc hk
      have := a1 c hc
      omega
    · rw [upO_ne ej] at hp
      rw [upN_ne ej] at hb
      have hcj := a2 j c (by omega) hp
      rw [upN_ne (by omega)] at hk
      have q := (b2 j c (by omega) hp hk).2 hb
      cases hz : o0 c with
      | true => have := g1 c (by omega) hz; omega
      | false =>
        have q3 := g2 c (by omega) hz
        omega
theorem trP_new {n nd kd a : Nat} {e e' pS K A : Nat → Nat} {o : Nat → Bool} (h : trP n nd e pS K A) (h2 : ∀ k, k < n → o k = false → e' k = e k) (h5 : ∀ k, k < n → o k = true → pS nd ≤ k) (ha : kd = 4 → a < nd) : trP (n + 1) nd e' pS (upN K n kd) (upN A n a) := by
  obtain ⟨c1, c2, c3, c4, c5⟩ := h
  refine ⟨c1, c2, by omega, fun d k hd hk => ?_, fun k hk hK => ?_⟩
  · have q := pS_le c2 nd (Nat.le_refl _) d hd
    cases ho : o k with
    | true => have := h5 k (by omega) ho; omega
    | false => rw [h2 k (by omega) ho]; exact c4 d k hd hk
  · by_cases ek : k = n
    · rw [ek] at hK ⊢
      rw [upN_at] at hK ⊢
      have ha := ha hK
      have := pS_le c2 nd (Nat.le_refl _) (a + 1) (by omega)
      exact ⟨ha, by omega⟩
    · rw [upN_ne ek] at hK ⊢
      exact c5 k (by omega) hK
theorem trQ_new {n np kd a : Nat} {K A ps : Nat → Nat} (h : trQ n np K A ps) (ha : kd = 1 → a = np) : trQ (n + 1) (if kd = 1 then np + 1 else np) (upN K n kd) (upN A n a) (if kd = 1 then upN ps np n else ps) := by
  obtain ⟨q1, q2⟩ := h
  by_cases z : kd = 1
  · rw [if_pos z, if_pos z]
    refine ⟨fun q hq => ?_, fun k hk hK => ?_⟩
    · by_cases e : q = np
      · rw [e, upN_at, upN_at, upN_at]
        exact ⟨by omega, z, ha z⟩
      · rw [upN_ne e]
        have := q1 q (by omega)
        rw [upN_ne (by omega), upN_ne (by omega)]
        exact ⟨by omega, this.2⟩
    · by_cases e : k = n
      · rw [e, upN_at, ha z, upN_at]
        exact ⟨by omega, rfl⟩
      · rw [upN_ne e] at hK ⊢
        have := q2 k (by omega) hK
        rw [upN_ne (by omega)]
        exact ⟨by omega, this.2⟩
  · rw [if_neg z, if_neg z]
    refine ⟨fun q hq => ?_, fun k hk hK => ?_⟩
    · have := q1 q hq
      rw [upN_ne (by omega), upN_ne (by omega)]
      exact ⟨by omega, this.2⟩
    · by_cases e : k = n
      · rw [e, upN_at] at hK
        exact absurd hK z
      · rw [upN_ne e] at hK ⊢
        exact q2 k (by omega) hK
/-- a chain of parents that ends within m -/
def ancN (par : Nat → Option Nat) : Nat → Option Nat → Prop
  | _, none => True
  | 0, some _ => False
  | m + 1, some q => ancN par m (par q)
theorem ancN_none {par : Nat → Option Nat} : ∀ m, ancN par m none
  | 0 => trivial
  | _ + 1 => trivial
theorem ancN_mono {par : Nat → Option Nat} : ∀ {a b : Nat} {o : Option Nat}, a ≤ b → ancN par a o → ancN par b o
  | _, b, none, _, _ => ancN_none b
  | 0, _, some _, _, h => h.elim
  | a + 1, 0, some q, hab, _ => absurd hab (by omega)
  | a + 1, b + 1, some q, hab, h => ancN_mono (a := a) (b := b) (o := par q) (by omega) h
theorem ancN_up {par : Nat → Option Nat} {N : Nat} {v : Option Nat} (hpar : ∀ k q, k < N → par k = some q → q < k) : ∀ {m : Nat} {o : Option Nat}, (∀ q, o = some q → q < N) → ancN par m o → ancN (upO par N v) m o
  | m, none, _, _ => ancN_none m
  | 0, some _, _, h => h.elim
  | m + 1, some q, hN, h => by
    have hq := hN q rfl
    show ancN (upO par N v) m (upO par N v q)
    rw [upO_ne (by omega)]
    exact ancN_up hpar (fun q' hq' => by have := hpar q q' hq hq'; omega) h
