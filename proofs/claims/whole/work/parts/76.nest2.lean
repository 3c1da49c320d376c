def effE (ns : Nat) (E : Nat → Nat) (st : STK) (k : Nat) : Nat := if opn st k = true then ns else E k
def effL (ns : Nat) (L : Nat → Nat) (st : STK) (k : Nat) : Nat := if opn0 st k = true then ns else L k
/-- the first step of the block that is being read -/
def frst (p : PS) : Nat := match p.st with
  | [] => p.pS p.nd
  | (none, _) :: _ => p.pS p.nd
  | (some k, b) :: _ => if b = 0 then k + 1 else p.L k
def pN (p : PS) : Prop := stC p.par p.bl p.st ∧ trE p.ns (effE p.ns p.E p.st) p.par ∧ trL p.ns (effE p.ns p.E p.st) (effL p.ns p.L p.st) p.K p.bl p.par ∧ trP p.ns p.nd (effE p.ns p.E p.st) p.pS p.K p.A ∧ (∀ e k, e ∈ p.st → e.1 = some k → p.pS p.nd ≤ k) ∧ trQ p.ns p.np p.K p.A p.ps ∧ (∀ k, k < p.ns → p.F k ≤ p.F (k + 1)) ∧ ((p.bare = true → p.ns = frst p) ∧ (p.bare = false → frst p < p.ns)) ∧ ((∀ k, k < p.ns → ancN p.par 8 (p.par k)) ∧ ancN p.par p.st.length (topO p.st)) ∧ (∀ k b, (some k, b) ∈ p.st → (b = 0 → p.K k = 5 → p.L k = 0) ∧ (b = 1 → p.K k = 5 ∧ 0 < p.L k))
section PRESN
variable {T : Nat → Nat} {n : Nat} {p p' : PS}
/-- tokens alone, and the letter -/
theorem pN_s {s1 : FS} (h : pN p) : pN (PSm (s1) (p.ns) (p.np) (p.nd) (p.K) (p.A) (p.B) (p.E) (p.L) (p.F) (p.par) (p.bl) (p.ps) (p.st) (p.bare) (p.dp) (p.lt) (p.pS)) := h
theorem pN_slt {s1 : FS} {j : Nat} (h : pN p) : pN (PSm (s1) (p.ns) (p.np) (p.nd) (p.K) (p.A) (p.B) (p.E) (p.L) (p.F) (p.par) (p.bl) (p.ps) (p.st) (p.bare) (p.dp) (j) (p.pS)) := h
theorem opn_cons {st : STK} {k j b : Nat} : opn ((some k, b) :: st) j = (decide (j = k) || opn st j) := by
  unfold opn
  rw [List.any_cons]
  congr 1
  by_cases e : j = k
  · simp [e]
  · have : ¬ k = j := fun q => e q.symm
    simp [e, this]
theorem opn0_cons {st : STK} {k j b : Nat} : opn0 ((some k, b) :: st) j = ((decide (j = k) && decide (b = 0)) || opn0 st j) := by
  unfold opn0
  rw [List.any_cons]
  congr 1
  by_cases e : j = k
  · by_cases e2 : b = 0
    · simp [e, e2]
    · simp [e, e2]
  · have : ¬ k = j := fun q => e q.symm
    simp [e, this]
theorem opn0_opn {st : STK} {k : Nat} (h : opn0 st k = true) : opn st k = true := opn_iff.mpr ⟨0, opn0_iff.mp h⟩
theorem effE_o {ns k : Nat} {E : Nat → Nat} {st : STK} (h : opn st k = true) : effE ns E st k = ns := by unfold effE; rw [if_pos h]
theorem effE_c {ns k : Nat} {E : Nat → Nat} {st : STK} (h : opn st k = false) : effE ns E st k = E k := by unfold effE; rw [if_neg (by rw [h]; exact Bool.false_ne_true)]
theorem effL_o {ns k : Nat} {E : Nat → Nat} {st : STK} (h : opn0 st k = true) : effL ns E st k = ns := by unfold effL; rw [if_pos h]
theorem effL_c {ns k : Nat} {E : Nat → Nat} {st : STK} (h : opn0 st k = false) : effL ns E st k = E k := by unfold effL; rw [if_neg (by rw [h]; exact Bool.false_ne_true)]
theorem pN_new {kd a b : Nat} {s1 : FS} {pu : Bool} (h : pW T n p) (hv : pV p) (hn : pN p) (h1 : kd = 1 → a = p.np) (h4 : kd = 4 → a < p.nd) (hnf : p.s.nf ≤ s1.nf) (h5 : kd = 5 → pu = true) (h8 : pu = true → p.st.length < 8) : pN (nwP9 p kd a b s1 pu) := by
  obtain ⟨n1, n2, n3, n4, n5, n6, n7, n8, n9, n10⟩ := hn
  have hst : ∀ e k, e ∈ p.st → e.1 = some k → k < p.ns := fun e k he hk => (h.stk e he).2 k hk
  have hop : ∀ k, opn p.st k = true → k < p.ns := fun k ho => by
    obtain ⟨b9, hb9⟩ := opn_iff.mp ho
    exact hst _ k hb9 rfl
  have ho9 : opn p.st p.ns = false := by
    cases z : opn p.st p.ns with
    | true => exact absurd (hop _ z) (Nat.lt_irrefl _)
    | false => rfl
  have ho0 : opn0 p.st p.ns = false := by
    cases z : opn0 p.st p.ns with
    | true => rw [opn0_opn z] at ho9; cases ho9
    | false => rfl
  -- the new row of open blocks
  have so : ∀ k, k < p.ns → opn (if pu = true then (some p.ns, 0) :: p.st else p.st) k = opn p.st k := fun k hk => by
    split
    · rw [opn_cons]
      have : ¬ k = p.ns := by omega
      simp [this]
    · rfl
  have so0 : ∀ k, k < p.ns → opn0 (if pu = true then (some p.ns, 0) :: p.st else p.st) k = opn0 p.st k := fun k hk => by
    split
    · rw [opn0_cons]
      have : ¬ k = p.ns := by omega
      simp [this]
    · rfl
  have e1 : ∀ k, k < p.ns → opn p.st k = true → effE p.ns p.E p.st k = p.ns ∧ effE (p.ns + 1) (upN p.E p.ns (p.ns + 1)) (if pu = true then (some p.ns, 0) :: p.st else p.st) k = p.ns + 1 := fun k hk ho => ⟨effE_o ho, effE_o (by rw [so k hk]; exact ho)⟩
  have e2 : ∀ k, k < p.ns → opn p.st k = false → effE (p.ns + 1) (upN p.E p.ns (p.ns + 1)) (if pu = true then (some p.ns, 0) :: p.st else p.st) k = effE p.ns p.E p.st k := fun k hk ho => by
    rw [effE_c ho, effE_c (by rw [so k hk]; exact ho), upN_ne (by omega)]
  have e3 : effE (p.ns + 1) (upN p.E p.ns (p.ns + 1)) (if pu = true then (some p.ns, 0) :: p.st else p.st) p.ns = p.ns + 1 := by
    unfold effE
    rw [upN_at]
    exact ite_self _
  have t4 : ∀ c, topO p.st = some c → c < p.ns ∧ opn p.st c = true := fun c hc => ⟨hst _ c (top_mem hc) rfl, opn_iff.mpr ⟨_, top_mem hc⟩⟩
  have t5 : ∀ c, c < p.ns → opn p.st c = true → ∃ q, topO p.st = some q ∧ c ≤ q := fun c hc ho => stC_top h.par n1 hv.2.2 hst ho
  have nodup : ∀ c, topO p.st = some c → topN p.st = 1 → opn0 p.st c = false := fun c hc hb => by
    cases hs : p.st with
    | nil => rfl
    | cons e r =>
      obtain ⟨ea, eb⟩ := e
      rw [hs] at hc hb
      have hc : ea = some c := hc
      have hb : eb = 1 := hb
      subst hc; subst hb
      rw [opn0_cons]
      cases z : opn0 r c with
      | false => simp
      | true =>
        have q1 := n1
        rw [hs] at q1
        have q2 := hv.2.2
        rw [hs] at q2
        have := stC_lt h.par q1 q2 (fun e k9 he => hst e k9 (by rw [hs]; exact he)) (opn0_opn z)
        omega
  have k9 : ∀ k, k < p.ns → upN p.K p.ns kd k = p.K k := fun k hk => upN_ne (by omega)
  unfold nwP9 pN
  simp only [PS_s, PS_ns, PS_np, PS_nd, PS_K, PS_A, PS_B, PS_E, PS_L, PS_F, PS_par, PS_bl, PS_ps, PS_st, PS_bare, PS_dp, PS_lt, PS_pS, FS_f, FS_t, FS_nf, FS_un, FS_fk, FS_fv, FS_fp, topP_O, topB_N]
  refine ⟨?_, trE_new n2 e1 e2 e3 t4 t5 (fun j c hj ho hp => opn_iff.mpr ⟨_, stC_par n1 ho hp⟩), trL_new (o := opn p.st) (o0 := opn0 p.st) n2 n3 e1 e2 e3 (fun c hc ho => ⟨effL_o ho, effL_o (by rw [so0 c hc]; exact ho), opn0_opn ho⟩) (fun c hc ho => by rw [effL_c ho, effL_c (by rw [so0 c hc]; exact ho), upN_ne (by omega)]) (fun z => effL_o (by rw [h5 z, if_pos rfl, opn0_cons]; simp)) (fun c hc => (t4 c hc).1) (fun c hc hb => opn0_iff.mpr (by rw [← hb]; exact top_mem hc)) nodup (fun j c hj ho hp hb => opn0_iff.mpr (by rw [← hb]; exact stC_par n1 ho hp)), trP_new (o := opn p.st) n4 e2 (fun k hk ho => by
      obtain ⟨b9, hb9⟩ := opn_iff.mp ho
      exact n5 _ k hb9 rfl) h4, ?_, trQ_new n6 h1, ?_, ?_, ⟨?_, ?_⟩, ?_⟩
  · have q : stC (upO p.par p.ns (topO p.st)) (upN p.bl p.ns (topN p.st)) p.st := stC_eq n1 (fun e k he hk => by
      have := hst e k he hk
      exact ⟨upO_ne (by omega), upN_ne (by omega)⟩)
    split
    · refine ⟨fun k hk => ?_, q⟩
      have hk : some p.ns = some k := hk
      cases hk
      exact ⟨upO_at, fun _ _ => upN_at⟩
    · exact q
  · intro e k he hk
    split at he
    · rcases List.mem_cons.mp he with rfl | he
      · have hk : some p.ns = some k := hk
        cases hk
        exact n4.2.2.1
      · exact n5 e k he hk
    · exact n5 e k he hk
  · intro k hk
    by_cases ek : k = p.ns
    · rw [ek, upN_at, upN_ne (by omega), h.Fn]
      exact hnf
    · rw [upN_ne (by omega), upN_ne (by omega)]
      exact n7 k (by omega)
  · have fr9 : frst (PSm (p.s) (p.ns + 1) (p.np) (p.nd) (p.K) (p.A) (p.B) (p.E) (upN p.L p.ns 0) (p.F) (p.par) (p.bl) (p.ps) (p.st) (p.bare) (p.dp) (p.lt) (p.pS)) = frst p := by
      unfold frst
      simp only [PS_s, PS_ns, PS_np, PS_nd, PS_K, PS_A, PS_B, PS_E, PS_L, PS_F, PS_par, PS_bl, PS_ps, PS_st, PS_bare, PS_dp, PS_lt, PS_pS, FS_f, FS_t, FS_nf, FS_un, FS_fk, FS_fv, FS_fp]
      split
      · rfl
      · rfl
      · rename_i k b9 r hs
        have := hst (some k, b9) k (by rw [hs]; exact List.mem_cons_self) rfl
        rw [upN_ne (by omega)]
    have fr8 : frst p ≤ p.ns := by
      cases z : p.bare with
      | true => exact Nat.le_of_eq (n8.1 z).symm
      | false => exact Nat.le_of_lt (n8.2 z)
    cases pu with
    | true => exact ⟨fun _ => rfl, fun z => (by cases z)⟩
    | false =>
      refine ⟨fun z => (by cases z), fun _ => ?_⟩
      show frst (PSm (p.s) (p.ns + 1) (p.np) (p.nd) (p.K) (p.A) (p.B) (p.E) (upN p.L p.ns 0) (p.F) (p.par) (p.bl) (p.ps) (p.st) (p.bare) (p.dp) (p.lt) (p.pS)) < p.ns + 1
      rw [fr9]
      omega
  · intro k hk
    by_cases ek : k = p.ns
    · rw [ek, upO_at]
      exact ancN_up h.par (fun q hq => (t4 q hq).1) (ancN_mono h.dep n9.2)
    · rw [upO_ne ek]
      exact ancN_up h.par (fun q hq => by have := h.par k q (by omega) hq; omega) (n9.1 k (by omega))
  · have q : ancN (upO p.par p.ns (topO p.st)) p.st.length (topO p.st) := ancN_up h.par (fun q hq => (t4 q hq).1) n9.2
    cases pu with
    | true =>
      show ancN (upO p.par p.ns (topO p.st)) p.st.length (upO p.par p.ns (topO p.st) p.ns)
      rw [upO_at]
      exact q
    | false => exact q
  · intro k b9 hm
    have old : (some k, b9) ∈ p.st → (b9 = 0 → upN p.K p.ns kd k = 5 → upN p.L p.ns 0 k = 0) ∧ (b9 = 1 → upN p.K p.ns kd k = 5 ∧ 0 < upN p.L p.ns 0 k) := fun hm => by
      have := hst _ k hm rfl
      rw [upN_ne (by omega), upN_ne (by omega)]
      exact n10 k b9 hm
    split at hm
    · rcases List.mem_cons.mp hm with e | hm
      · cases e
        rw [upN_at, upN_at]
        exact ⟨fun _ _ => rfl, fun z => absurd z (by decide)⟩
      · exact old hm
    · exact old hm
theorem pN_bgS (h : pW T n p) (hv : pV p) (hn : pN p) (hr : bgS T n p = .ok p') : pN p' := by
  obtain ⟨kd, a, b, s1, pu, q1, q2, q3, q4, q5, q6, q7, rfl⟩ := bgS_form h hr
  exact pN_new h hv hn (fun z => (q3 z).1) q4 q5 q7 q6
theorem trE_eq {n : Nat} {e e' : Nat → Nat} {par : Nat → Option Nat} (h : trE n e par) (he : ∀ k, k < n → e' k = e k) : trE n e' par := by
  obtain ⟨a1, a2, a3⟩ := h
  refine ⟨fun k hk => by rw [he k hk]; exact a1 k hk, fun j c hj hp => ?_, fun c j hj hc hlt => ?_⟩
  · have q := a2 j c hj hp
    rw [he j hj, he c (by omega)]
    exact q
  · rw [he c (by omega)] at hlt
    exact a3 c j hj hc hlt
theorem trL_eq {n : Nat} {e e' l l' K bl : Nat → Nat} {par : Nat → Option Nat} (hp : ∀ k q, k < n → par k = some q → q < k) (h : trL n e l K bl par) (he : ∀ k, k < n → e' k = e k) (hl : ∀ k, k < n → K k = 5 → l' k = l k) : trL n e' l' K bl par := by
  obtain ⟨b1, b2⟩ := h
  refine ⟨fun c hc hk => by rw [he c hc, hl c hc hk]; exact b1 c hc hk, fun j c hj hp2 hk => ?_⟩
  have hc := hp j c hj hp2
  rw [he j hj, hl c (by omega) hk]
  exact b2 j c hj hp2 hk
theorem trP_eq {n nd : Nat} {e e' pS K A : Nat → Nat} (h : trP n nd e pS K A) (he : ∀ k, k < n → e' k = e k) : trP n nd e' pS K A := by
  obtain ⟨c1, c2, c3, c4, c5⟩ := h
  refine ⟨c1, c2, c3, fun d k hd hk => ?_, c5⟩
  have := pS_le c2 nd (Nat.le_refl _) d hd
  rw [he k (by omega)]
  exact c4 d k hd hk
/-- a block of step k is closed; b9: which, r9: the row behind it -/
theorem pN_close {k b : Nat} {r : STK} {s1 : FS} {l9 : Nat → Nat} {el : Bool} (h : pW T n p) (hv : pV p) (hn : pN p) (hb : p.bare = false) (hs : p.st = (some k, b) :: r) (hl : ∀ j, j ≠ k → l9 j = p.L j) (hl1 : p.K k = 5 → b = 0 → l9 k = p.ns) (hl2 : b = 1 → l9 k = p.L k) (hel : el = true → p.K k = 5 ∧ b = 0) : pN (PSm (s1) (p.ns) (p.np) (p.nd) (p.K) (p.A) (p.B) (upN p.E k p.ns) (l9) (p.F) (p.par) (p.bl) (p.ps) (if el = true then (some k, 1) :: r else r) (el) (p.dp) (p.lt) (p.pS)) := by
  obtain ⟨n1, n2, n3, n4, n5, n6, n7, n8, n9, n10⟩ := hn
  have hbt := hv.2.2
  rw [hs] at n1 hbt n9
  have hst : ∀ e k9, e ∈ (some k, b) :: r → e.1 = some k9 → k9 < p.ns := fun e k9 he hk => (h.stk e (by rw [hs]; exact he)).2 k9 hk
  have hk : k < p.ns := hst _ k List.mem_cons_self rfl
  have hb1 : b ≤ 1 := (h.stk _ (by rw [hs]; exact List.mem_cons_self)).1
  have hlt : ∀ c, opn r c = true → c < k := fun c ho => stC_lt h.par n1 hbt hst ho
  have kr : opn r k = false := by
    cases z : opn r k with
    | true => exact absurd (hlt k z) (Nat.lt_irrefl _)
    | false => rfl
  have kr0 : opn0 r k = false := by
    cases z : opn0 r k with
    | true => rw [opn0_opn z] at kr; cases kr
    | false => rfl
  have eE : ∀ j, j < p.ns → effE p.ns (upN p.E k p.ns) (if el = true then (some k, 1) :: r else r) j = effE p.ns p.E p.st j := fun j hj => by
    rw [hs]
    by_cases e : j = k
    · rw [e, effE_o (st := (some k, b) :: r) (by rw [opn_cons]; simp)]
      unfold effE
      rw [upN_at]
      exact ite_self _
    · have o1 : opn (if el = true then (some k, 1) :: r else r) j = opn r j := by
        split
        · rw [opn_cons]; simp [e]
        · rfl
      unfold effE
      rw [o1, opn_cons, upN_ne e]
      simp [e]
  have eL : ∀ j, j < p.ns → p.K j = 5 → effL p.ns l9 (if el = true then (some k, 1) :: r else r) j = effL p.ns p.L p.st j := fun j hj hK => by
    rw [hs]
    have o1 : opn0 (if el = true then (some k, 1) :: r else r) j = opn0 r j := by
      split
      · rw [opn0_cons]; simp
      · rfl
    unfold effL
    rw [o1, opn0_cons]
    by_cases e : j = k
    · rw [e] at hK ⊢
      rw [kr0]
      by_cases e0 : b = 0
      · simp [e0, hl1 hK e0]
      · have : b = 1 := by omega
        simp [this, hl2 this]
    · rw [hl j e]
      simp [e]
  have hpn : p.pS p.nd ≤ k := n5 _ k (by rw [hs]; exact List.mem_cons_self) rfl
  have ck := n1.1 k rfl
  unfold pN
  simp only [PS_s, PS_ns, PS_np, PS_nd, PS_K, PS_A, PS_B, PS_E, PS_L, PS_F, PS_par, PS_bl, PS_ps, PS_st, PS_bare, PS_dp, PS_lt, PS_pS, FS_f, FS_t, FS_nf, FS_un, FS_fk, FS_fv, FS_fp]
  refine ⟨?_, trE_eq n2 eE, trL_eq h.par n3 eE eL, trP_eq n4 eE, ?_, n6, n7, ?_, ⟨n9.1, ?_⟩, ?_⟩
  · split
    · exact ⟨n1.1, n1.2⟩
    · exact n1.2
  · intro e k9 he hk9
    split at he
    · rcases List.mem_cons.mp he with rfl | he
      · have hk9 : some k = some k9 := hk9
        cases hk9
        exact hpn
      · exact n5 e k9 (by rw [hs]; exact List.mem_cons_of_mem _ he) hk9
    · exact n5 e k9 (by rw [hs]; exact List.mem_cons_of_mem _ he) hk9
  · cases el with
    | true =>
      obtain ⟨z1, z2⟩ := hel rfl
      refine ⟨fun _ => ?_, fun z => (by cases z)⟩
      show p.ns = l9 k
      exact (hl1 z1 z2).symm
    | false =>
      refine ⟨fun z => (by cases z), fun _ => ?_⟩
      show frst (PSm (p.s) (p.ns) (p.np) (p.nd) (p.K) (p.A) (p.B) (p.E) (l9) (p.F) (p.par) (p.bl) (p.ps) (r) (p.bare) (p.dp) (p.lt) (p.pS)) < p.ns
      unfold frst
      simp only [PS_s, PS_ns, PS_np, PS_nd, PS_K, PS_A, PS_B, PS_E, PS_L, PS_F, PS_par, PS_bl, PS_ps, PS_st, PS_bare, PS_dp, PS_lt, PS_pS, FS_f, FS_t, FS_nf, FS_un, FS_fk, FS_fv, FS_fp]
      split
      · omega
      · omega
      · rename_i c b9 r9
        have cp : p.par k = some c := ck.1
        have cb : p.bl k = b9 := ck.2 c rfl
        have hc := h.par k c hk cp
        split
        · omega
        · rename_i e0
          have mm : (some c, b9) ∈ p.st := by rw [hs]; exact List.mem_cons_of_mem _ List.mem_cons_self
          have b1 : b9 = 1 := by
            have := (h.stk _ mm).1
            have : b9 ≤ 1 := this
            omega
          have kc := (n10 c b9 mm).2 b1
          have q := (n3.2 k c hk cp kc.1).2 (by rw [cb, b1])
          have o0 : opn0 p.st c = false := by
            rw [hs, opn0_cons]
            have : ¬ c = k := by omega
            have z : opn0 ((some c, b9) :: r9) c = false := by
              rw [opn0_cons]
              have : opn0 r9 c = false := by
                cases z : opn0 r9 c with
                | false => rfl
                | true =>
                  have := stC_lt h.par n1.2 hbt.2 (fun e k9 he => hst e k9 (List.mem_cons_of_mem _ he)) (opn0_opn z)
                  omega
              rw [this]
              simp [b1]
            rw [z]
            simp [this]
          rw [effL_c o0] at q
          rw [hl c (by omega)]
          omega
  · cases el with
    | true => exact n9.2
    | false =>
      have q := n9.2
      have q : ancN p.par r.length (p.par k) := q
      rw [ck.1] at q
      exact q
  · intro k9 b9 hm
    have old : (some k9, b9) ∈ r → (b9 = 0 → p.K k9 = 5 → l9 k9 = 0) ∧ (b9 = 1 → p.K k9 = 5 ∧ 0 < l9 k9) := fun hm => by
      have := hlt k9 (opn_iff.mpr ⟨b9, hm⟩)
      rw [hl k9 (by omega)]
      exact n10 k9 b9 (by rw [hs]; exact List.mem_cons_of_mem _ hm)
    split at hm
    · rename_i z
      rcases List.mem_cons.mp hm with e | hm
      · cases e
        have q := hel z
        exact ⟨fun z => absurd z (by decide), fun _ => ⟨q.1, by rw [hl1 q.1 q.2]; omega⟩⟩
      · exact old hm
    · exact old hm
theorem pN_def {b : Nat} {s1 : FS} {dp9 : Nat → Option Nat} (h : pW T n p) (hv : pV p) (hn : pN p) (hs : p.st = [(none, b)]) : pN (PSm (s1) (p.ns) (p.np) (p.nd + 1) (p.K) (p.A) (p.B) (p.E) (p.L) (p.F) (p.par) (p.bl) (p.ps) ([]) (true) (dp9) (p.lt) (upN p.pS (p.nd + 1) p.ns)) := by
  obtain ⟨n1, n2, n3, n4, n5, n6, n7, n8, n9, n10⟩ := hn
  rw [hs] at n2 n3 n4
  have oo : ∀ k, opn [(none, b)] k = false := fun k => by simp [opn]
  have oo0 : ∀ k, opn0 [(none, b)] k = false := fun k => by simp [opn0]
  have eE : ∀ j, j < p.ns → effE p.ns p.E [] j = effE p.ns p.E [(none, b)] j := fun j _ => by rw [effE_c (oo j), effE_c (by simp [opn])]
  have eL : ∀ j, j < p.ns → p.K j = 5 → effL p.ns p.L [] j = effL p.ns p.L [(none, b)] j := fun j _ _ => by rw [effL_c (oo0 j), effL_c (by simp [opn0])]
  obtain ⟨c1, c2, c3, c4, c5⟩ := trP_eq n4 eE
  unfold pN
  simp only [PS_s, PS_ns, PS_np, PS_nd, PS_K, PS_A, PS_B, PS_E, PS_L, PS_F, PS_par, PS_bl, PS_ps, PS_st, PS_bare, PS_dp, PS_lt, PS_pS, FS_f, FS_t, FS_nf, FS_un, FS_fk, FS_fv, FS_fp]
  refine ⟨trivial, trE_eq n2 eE, trL_eq h.par n3 eE eL, ⟨?_, fun d hd => ?_, ?_, fun d k hd hk => ?_, fun k hk hK => ?_⟩, fun e k he => absurd he List.not_mem_nil, n6, n7, ⟨fun _ => ?_, fun z => (by cases z)⟩, ⟨n9.1, trivial⟩, fun k b9 hm => absurd hm List.not_mem_nil⟩
  · rw [upN_ne (by omega)]; exact c1
  · by_cases e : d = p.nd
    · rw [e, upN_at, upN_ne (by omega)]; exact c3
    · rw [upN_ne (by omega), upN_ne (by omega)]; exact c2 d (by omega)
  · rw [upN_at]; exact Nat.le_refl _
  · by_cases e : d = p.nd + 1
    · rw [e, upN_at] at hk ⊢
      exact ((trE_eq n2 eE).1 k hk).2
    · rw [upN_ne e] at hk ⊢
      exact c4 d k (by omega) hk
  · have q := c5 k hk hK
    rw [upN_ne (by omega)]
    exact ⟨by omega, q.2⟩
  · show p.ns = upN p.pS (p.nd + 1) p.ns (p.nd + 1)
    rw [upN_at]
theorem pN_begin {s1 : FS} {j : Nat} (hn : pN p) (hs : p.st = []) (hb : p.bare = true) : pN (PSm (s1) (p.ns) (p.np) (p.nd) (p.K) (p.A) (p.B) (p.E) (p.L) (p.F) (p.par) (p.bl) (p.ps) ([(none, 0)]) (true) (p.dp) (j) (p.pS)) := by
  obtain ⟨n1, n2, n3, n4, n5, n6, n7, n8, n9, n10⟩ := hn
  have nn := n8.1 hb
  unfold frst at nn
  rw [hs] at n2 n3 n4 nn
  have oo : ∀ k, opn [(none, 0)] k = opn [] k := fun k => by simp [opn]
  have oo0 : ∀ k, opn0 [(none, 0)] k = opn0 [] k := fun k => by simp [opn0]
  have eE : effE p.ns p.E [(none, 0)] = effE p.ns p.E [] := by funext k; unfold effE; rw [oo]
  have eL : effL p.ns p.L [(none, 0)] = effL p.ns p.L [] := by funext k; unfold effL; rw [oo0]
  unfold pN
  simp only [PS_s, PS_ns, PS_np, PS_nd, PS_K, PS_A, PS_B, PS_E, PS_L, PS_F, PS_par, PS_bl, PS_ps, PS_st, PS_bare, PS_dp, PS_lt, PS_pS, FS_f, FS_t, FS_nf, FS_un, FS_fk, FS_fv, FS_fp]
  rw [eE, eL]
  refine ⟨⟨fun k hk => (by cases hk), trivial⟩, n2, n3, n4, fun e k he hk => ?_, n6, n7, ⟨fun _ => nn, fun z => (by cases z)⟩, ⟨n9.1, trivial⟩, fun k b9 hm => ?_⟩
  · rcases List.mem_cons.mp he with rfl | he
    · cases hk
    · exact absurd he List.not_mem_nil
  · rcases List.mem_cons.mp hm with e | he
    · cases e
    · exact absurd he List.not_mem_nil
theorem pN_bgD (hn : pN p) (hr : bgD T n p = .ok p') : pN p' := by
  unfold bgD at hr
  split at hr
  · rename_i c
    have s0 : p.st = [] := List.length_eq_zero_iff.mp c.1
    split at hr
    · rename_i j hj
      split at hr
      · rename_i hd
        obtain ⟨-, -, rfl⟩ := opB_ok hr
        have := pN_begin (s1 := ((p.s.adv T n).adv T n).adv T n) (j := j) hn s0 c.2
        simp only [PS_s, PS_ns, PS_np, PS_nd, PS_K, PS_A, PS_B, PS_E, PS_L, PS_F, PS_par, PS_bl, PS_ps, PS_st, PS_bare, PS_dp, PS_lt, PS_pS, FS_f, FS_t, FS_nf, FS_un, FS_fk, FS_fv, FS_fp]
        rw [s0]
        exact this
      · cases hr
    · cases hr
  · cases hr
theorem pN_clB (h : pW T n p) (hv : pV p) (hn : pN p) (hr : clB T n p = .ok p') : pN p' := by
  unfold clB at hr
  split at hr
  · cases hr
  · rename_i hbar
    have hbar : p.bare = false := by simpa using hbar
    split at hr
    · cases hr
    · rename_i b r hs
      cases hr
      have hbt := hv.2.2
      rw [hs] at hbt
      have r0 : r = [] := hbt.1 rfl
      subst r0
      exact pN_def h hv hn hs
    · rename_i k b r hs
      have hb1 : b ≤ 1 := (h.stk _ (by rw [hs]; exact List.mem_cons_self)).1
      unfold clE at hr
      split at hr
      · rename_i c
        have c : p.K k = 5 ∧ b = 0 := c
        have l1 : ∀ j, j ≠ k → upN p.L k p.ns j = p.L j := fun j hj => upN_ne hj
        split at hr
        · obtain ⟨-, -, rfl⟩ := opB_ok hr
          have q := pN_close (s1 := FS.adv T n (FS.adv T n (FS.adv T n p.s))) (l9 := upN p.L k p.ns) (el := true) h hv hn hbar hs l1 (fun _ _ => upN_at) (fun z => absurd z (by omega)) (fun _ => c)
          exact q
        · cases hr
          have q := pN_close (s1 := FS.adv T n p.s) (l9 := upN p.L k p.ns) (el := false) h hv hn hbar hs l1 (fun _ _ => upN_at) (fun z => absurd z (by omega)) (fun z => (by cases z))
          simp only [PS_s, PS_ns, PS_np, PS_nd, PS_K, PS_A, PS_B, PS_E, PS_L, PS_F, PS_par, PS_bl, PS_ps, PS_st, PS_bare, PS_dp, PS_lt, PS_pS, FS_f, FS_t, FS_nf, FS_un, FS_fk, FS_fv, FS_fp]
          rw [hbar]
          exact q
      · rename_i c
        have c : ¬ (p.K k = 5 ∧ b = 0) := c
        cases hr
        have q := pN_close (s1 := FS.adv T n p.s) (l9 := p.L) (el := false) h hv hn hbar hs (fun _ _ => rfl) (fun z1 z2 => absurd ⟨z1, z2⟩ c) (fun _ => rfl) (fun z => (by cases z))
        rw [hbar]
        exact q
theorem rnd_N (h : pW T n p) (hv : pV p) (hn : pN p) (hr : rnd T n p = .ok p') : pN p' := by
  unfold rnd at hr
  split at hr
  · exact pN_bgD hn hr
  · split at hr
    · exact pN_clB h hv hn hr
    · exact pN_bgS h hv hn hr
theorem p00_N : pN (p00 T n) := by
  unfold pN p00
  simp only [PS_s, PS_ns, PS_np, PS_nd, PS_K, PS_A, PS_B, PS_E, PS_L, PS_F, PS_par, PS_bl, PS_ps, PS_st, PS_bare, PS_dp, PS_lt, PS_pS, FS_f, FS_t, FS_nf, FS_un, FS_fk, FS_fv, FS_fp]
  refine ⟨trivial, ⟨fun k hk => absurd hk (Nat.not_lt_zero k), fun j c hj => absurd hj (Nat.not_lt_zero j), fun c j hj => absurd hj (Nat.not_lt_zero j)⟩, ⟨fun k hk => absurd hk (Nat.not_lt_zero k), fun j c hj => absurd hj (Nat.not_lt_zero j)⟩, ⟨rfl, fun d hd => absurd hd (Nat.not_lt_zero d), Nat.le_refl _, fun d k _ hk => absurd hk (Nat.not_lt_zero k), fun k hk => absurd hk (Nat.not_lt_zero k)⟩, fun e k he => absurd he List.not_mem_nil, ⟨fun q hq => absurd hq (Nat.not_lt_zero q), fun k hk => absurd hk (Nat.not_lt_zero k)⟩, fun k hk => absurd hk (Nat.not_lt_zero k), ⟨fun _ => rfl, fun z => (by cases z)⟩, ⟨fun k hk => absurd hk (Nat.not_lt_zero k), trivial⟩, fun k b9 hm => absurd hm List.not_mem_nil⟩
theorem prs_N : ∀ (m : Nat) {p p' : PS}, pW T n p → pV p → pN p → prs T n m p = .ok p' → pW T n p' ∧ pV p' ∧ pN p' ∧ whP n p' = true
  | 0, _, _, _, _, _, hr => by cases hr
  | m + 1, p, p', h, hv, hn, hr => by
    rw [prs_s] at hr
    split at hr
    · rename_i w
      cases hr
      exact ⟨h, hv, hn, w⟩
    · obtain ⟨p1, r1, r2⟩ := bnd_ok hr
      have w := rnd_W h hv r1
      exact prs_N m w.1 w.2.1 (rnd_N h hv hn r1) r2
end PRESN
