/-! what an ask brings: one value for both -/
section TWOF
variable {T : Nat → Nat} {n : Nat} {p : PS}
theorem whP_st (h : whP n p = true) : p.st = [] ∧ p.bare = false := by
  unfold whP at h
  simp only [Bool.and_eq_true, decide_eq_true_eq, Bool.not_eq_true'] at h
  exact ⟨List.length_eq_zero_iff.mp h.1.2, h.2⟩
theorem pSw_le {d : Nat} (h : d ≤ p.nd) : pSw p d = p.pS d := by unfold pSw; rw [upN_ne (by omega)]
theorem pSw_n : pSw p (p.nd + 1) = p.ns := by unfold pSw; rw [upN_at]
theorem parW_lt {j c : Nat} (hW : pW T n p) (h : parW p j = some c) : c < j := by
  unfold parW at h
  split at h
  · exact hW.par j c (by assumption) h
  · cases h
theorem tW_of (hW : pW T n p) (hn : pN p) (hw : whP n p = true) : tW p.ns p.nd p.K p.E p.L p.A p.bl (pSw p) (parW p) := by
  obtain ⟨s0, b0⟩ := whP_st hw
  obtain ⟨n1, n2, n3, n4, n5, n6, n7, n8, n9, n10⟩ := hn
  rw [s0] at n2 n3 n4
  have eE : effE p.ns p.E [] = p.E := by funext k; exact effE_c rfl
  have eL : effL p.ns p.L [] = p.L := by funext k; exact effL_c rfl
  rw [eE] at n2 n3 n4
  rw [eL] at n3
  obtain ⟨c1, c2, c3, c4, c5⟩ := n4
  refine ⟨⟨n2.1, fun j c hj hp => ?_, fun c j hj hc hlt => ?_⟩, ⟨n3.1, fun j c hj hp hk => ?_⟩, hW.bl, ⟨?_, fun d hd => ?_, pSw_n⟩, fun d k hd hk => ?_, fun k hk hK => ?_, fun k hk => (hW.row k hk).1⟩
  · rw [parW_eq hj] at hp; exact n2.2.1 j c hj hp
  · rw [parW_eq hj]; exact n2.2.2 c j hj hc hlt
  · rw [parW_eq hj] at hp; exact n3.2 j c hj hp hk
  · rw [pSw_le (Nat.zero_le _)]; exact c1
  · by_cases e : d = p.nd
    · rw [e, pSw_n, pSw_le (Nat.le_refl _)]; exact c3
    · rw [pSw_le (by omega), pSw_le (by omega)]; exact c2 d (by omega)
  · by_cases e : d = p.nd + 1
    · rw [e, pSw_n] at hk ⊢
      exact (n2.1 k hk).2
    · rw [pSw_le (by omega)] at hk ⊢
      exact c4 d k (by omega) hk
  · have q := c5 k hk hK
    rw [pSw_le (by omega)]
    exact q
end TWOF
/-- time and room of each step -/
def xOf (p : PS) (cp : Nat → Option Nat) (ask : Nat → Nat) (s : (Nat → Nat) × (Nat → Nat) × (Nat → Nat)) : (Nat → Nat) × (Nat → Nat) × (Nat → Nat) := rkA (amtK ask p.F p.s.fk p.s.fv p.s.fp) cp ask p.K p.E p.L p.A p.B (pSw p) (fun d => pSw p (d + 1)) p.ns p.nd (pSw p p.nd) s
def zr3 : (Nat → Nat) × (Nat → Nat) × (Nat → Nat) := (fun _ => 0, fun _ => 0, fun _ => 0)
def stV (p : PS) (sort : Int32) (cp : Nat → Option Nat) (ask : Nat → Nat) (k : Nat) : Nat := xsP sort (xOf p cp ask zr3) k
/-- what an ask brings -/
def brV (p : PS) (sort : Int32) (cp : Nat → Option Nat) (ask : Nat → Nat) : Nat := chX sort p.E (stV p sort cp ask) (pSw p p.nd) p.ns
def figV (p : PS) (cp : Nat → Option Nat) (ask : Nat → Nat) : Nat → Nat := figK (amtK ask p.F p.s.fk p.s.fv p.s.fp) cp ask p.K p.A p.B
section VAL
variable {T : Nat → Nat} {n : Nat} {p : PS} {sort : Int32} {cp : Nat → Option Nat} {ask : Nat → Nat}
theorem rkL_b {am : Nat → Nat} {K E L A B dF dT : Nat → Nat} {N : Nat} (ham : ∀ k, am k ≤ MU) (hN : N ≤ 60) (hE : ∀ j, j < N → j < E j ∧ E j ≤ N) (hK : ∀ k, k < N → K k ≤ 5) (hL : ∀ k, k < N → K k = 5 → k < L k ∧ L k ≤ E k) (hd : ∀ k, k < N → K k = 4 → dT (A k) ≤ 60) : ∀ (m lo : Nat) (s : (Nat → Nat) × (Nat → Nat) × (Nat → Nat)), lo + m ≤ N → (∀ k, s.1 k ≤ MU) → (∀ k, s.2.1 k ≤ MU) → (∀ k, (rkL am cp ask K E L A B dF dT m lo s).1 k ≤ MU) ∧ (∀ k, (rkL am cp ask K E L A B dF dT m lo s).2.1 k ≤ MU)
  | 0, _, _, _, h1, h2 => ⟨h1, h2⟩
  | m + 1, lo, s, hm, h1, h2 => by
    refine rkL_b ham hN hE hK hL hd m lo _ (by omega) (fun k => ?_) (fun k => ?_)
    · show upN s.1 (lo + m) _ k ≤ MU
      by_cases e : k = lo + m
      · rw [e, upN_at]; exact tmK_le (ham _)
      · rw [upN_ne e]; exact h1 k
    · show upN s.2.1 (lo + m) _ k ≤ MU
      by_cases e : k = lo + m
      · rw [e, upN_at]
        have q := hE (lo + m) (by omega)
        refine rmK_le (fun j _ => h2 j) (by omega) (fun z => ?_) (hd _ (by omega)) (hK _ (by omega))
        have := hL (lo + m) (by omega) z
        omega
      · rw [upN_ne e]; exact h2 k
theorem rkD_b {am : Nat → Nat} {K E L A B pS : Nat → Nat} {bl : Nat → Nat} {par : Nat → Option Nat} {N nd : Nat} (ham : ∀ k, am k ≤ MU) (hN : N ≤ 60) (h : tW N nd K E L A bl pS par) (s : (Nat → Nat) × (Nat → Nat) × (Nat → Nat)) (h1 : ∀ k, s.1 k ≤ MU) (h2 : ∀ k, s.2.1 k ≤ MU) : ∀ m, m ≤ nd + 1 → (∀ k, (rkD am cp ask K E L A B pS (fun d => pS (d + 1)) m 0 s).1 k ≤ MU) ∧ (∀ k, (rkD am cp ask K E L A B pS (fun d => pS (d + 1)) m 0 s).2.1 k ≤ MU)
  | 0, _ => ⟨h1, h2⟩
  | m + 1, hm => by
    obtain ⟨a, b⟩ := rkD_b ham hN h s h1 h2 m (by omega)
    rw [rkD_snoc, Nat.zero_add]
    have := tW_n h hm
    have := h.2.2.2.1.2.1 m (by omega)
    refine rkL_b ham hN h.1.1 h.2.2.2.2.2.2 h.2.1.1 (fun k hk z => ?_) _ _ _ (by show pS m + (pS (m + 1) - pS m) ≤ N; omega) a b
    have := h.2.2.2.2.2.1 k hk z
    show pS (A k + 1) ≤ 60
    omega
theorem figV_le {k : Nat} : figV p cp ask k ≤ MU := figK_le amtK_le
theorem xOf_G (hW : pW T n p) (hn : pN p) (hw : whP n p = true) (s : (Nat → Nat) × (Nat → Nat) × (Nat → Nat)) {k : Nat} (hk : k < p.ns) : rkG (amtK ask p.F p.s.fk p.s.fv p.s.fp) cp ask p.K p.E p.L p.A p.B (pSw p) (fun d => pSw p (d + 1)) (xOf p cp ask s) k := rkA_G (tW_of hW hn hw) s hk
theorem xOf_b (hW : pW T n p) (hn : pN p) (hw : whP n p = true) {s : (Nat → Nat) × (Nat → Nat) × (Nat → Nat)} (h1 : ∀ k, s.1 k ≤ MU) (h2 : ∀ k, s.2.1 k ≤ MU) (k : Nat) : xsP sort (xOf p cp ask s) k ≤ MU := by
  have q := rkD_b (cp := cp) (ask := ask) (am := amtK ask p.F p.s.fk p.s.fv p.s.fp) (B := p.B) (fun k => amtK_le) hW.ns (tW_of hW hn hw) s h1 h2 (p.nd + 1) (Nat.le_refl _)
  unfold xOf
  rw [rkA_D (tW_of hW hn hw)]
  unfold xsP
  split
  · exact q.1 k
  · exact q.2 k
theorem stV_b (hW : pW T n p) (hn : pN p) (hw : whP n p = true) (k : Nat) : stV p sort cp ask k ≤ MU := xOf_b hW hn hw (fun _ => Nat.zero_le _) (fun _ => Nat.zero_le _) k
/-- a run of the class's meter -/
def brR (p : PS) (sort : Int32) (cp : Nat → Option Nat) (ask f0 : Nat → Nat) (s : brT) : brT := brD sort p.K p.A (cutN (figV p cp ask) f0 p.ns) p.bl (parW p) (pSw p) (p.nd + 1) 0 (cutN (fun _ => 0) s.1 p.ns, s.2.1, s.2.2)
theorem brR_G (hW : pW T n p) (hn : pN p) (hw : whP n p = true) {f0 : Nat → Nat} {s : brT} (hf : ∀ k, f0 k ≤ MU) (h1 : ∀ k, s.1 k ≤ MU) (h3 : ∀ d, s.2.2 d ≤ MU) : ∀ d, d ≤ p.nd → brG sort p.K p.A (cutN (figV p cp ask) f0 p.ns) p.bl (pSw p) (parW p) (brR p sort cp ask f0 s) d := by
  have q := (br_G (sort := sort) (f := cutN (figV p cp ask) f0 p.ns) (tW_of hW hn hw) (fun j c => parW_lt hW) (fun k => by unfold cutN; split; exact figV_le; exact hf k) (cutN (fun _ => 0) s.1 p.ns, s.2.1, s.2.2) (fun k => by show cutN (fun _ => 0) s.1 p.ns k ≤ MU; unfold cutN; split; exact Nat.zero_le _; exact h1 k) h3 (fun k hk => by show cutN (fun _ => 0) s.1 p.ns k = 0; unfold cutN; rw [if_pos hk]) (p.nd + 1) (Nat.le_refl _)).1
  exact fun d hd => q d (by omega)
theorem brR_x (hW : pW T n p) (hn : pN p) (hw : whP n p = true) {f0 : Nat → Nat} {s : brT} (hf : ∀ k, f0 k ≤ MU) (h1 : ∀ k, s.1 k ≤ MU) (h3 : ∀ d, s.2.2 d ≤ MU) {t : (Nat → Nat) × (Nat → Nat) × (Nat → Nat)} (t1 : ∀ k, t.1 k ≤ MU) (t2 : ∀ k, t.2.1 k ≤ MU) {k : Nat} (hk : k < p.ns) : (brR p sort cp ask f0 s).2.1 k = xsP sort (xOf p cp ask t) k :=
  meter_eq (sort := sort) (am := amtK ask p.F p.s.fk p.s.fv p.s.fp) (cp := cp) (ask := ask) (B := p.B) (f := cutN (figV p cp ask) f0 p.ns) (tW_of hW hn hw) (fun k hk => by unfold cutN figV; rw [if_pos hk]) (X := xsP sort (xOf p cp ask t)) (fun k _ => xOf_b hW hn hw t1 t2 k) (fun k hk => xsP_fix (tW_of hW hn hw) hk (xOf_G hW hn hw t hk)) (brR_G hW hn hw hf h1 h3) (p.nd + 1) (Nat.le_refl _) k (by rw [pSw_n]; exact hk)
/-- the class's steps -/
theorem brR_w (hW : pW T n p) (hn : pN p) (hw : whP n p = true) {f0 : Nat → Nat} {s : brT} (hf : ∀ k, f0 k ≤ MU) (h1 : ∀ k, s.1 k ≤ MU) (h3 : ∀ d, s.2.2 d ≤ MU) {k : Nat} (hk : k < p.ns) : (brR p sort cp ask f0 s).2.1 k = stV p sort cp ask k := brR_x hW hn hw hf h1 h3 (fun _ => Nat.zero_le _) (fun _ => Nat.zero_le _) hk
/-- the model's steps -/
theorem xOf_w (hW : pW T n p) (hn : pN p) (hw : whP n p = true) {t : (Nat → Nat) × (Nat → Nat) × (Nat → Nat)} (t1 : ∀ k, t.1 k ≤ MU) (t2 : ∀ k, t.2.1 k ≤ MU) {k : Nat} (hk : k < p.ns) : xsP sort (xOf p cp ask t) k = stV p sort cp ask k := by
  have a := brR_x (sort := sort) (cp := cp) (ask := ask) (f0 := fun _ => 0) (s := (fun _ => 0, fun _ => 0, fun _ => 0)) hW hn hw (fun _ => Nat.zero_le _) (fun _ => Nat.zero_le _) (fun _ => Nat.zero_le _) t1 t2 hk
  have b := brR_w (sort := sort) (cp := cp) (ask := ask) (f0 := fun _ => 0) (s := (fun _ => 0, fun _ => 0, fun _ => 0)) hW hn hw (fun _ => Nat.zero_le _) (fun _ => Nat.zero_le _) (fun _ => Nat.zero_le _) hk
  exact a.symm.trans b
/-- what the class says -/
theorem brR_v (hW : pW T n p) (hn : pN p) (hw : whP n p = true) {f0 : Nat → Nat} {s : brT} (hf : ∀ k, f0 k ≤ MU) (h1 : ∀ k, s.1 k ≤ MU) (h3 : ∀ d, s.2.2 d ≤ MU) : (brR p sort cp ask f0 s).2.2 p.nd = brV p sort cp ask := by
  have hT := tW_of hW hn hw
  rw [(brR_G hW hn hw hf h1 h3 p.nd (Nat.le_refl _)).2]
  unfold brV
  have e := ch_roots (sort := sort) (X := stV p sort cp ask) hT (fun k _ => stV_b hW hn hw k) (Nat.le_refl p.nd)
  rw [pSw_n] at e ⊢
  rw [e]
  have hle := tW_n hT (show p.nd ≤ p.nd + 1 by omega)
  exact jnS_congr _ _ (fun j q1 q2 => memb_congr (brR_w hW hn hw hf h1 h3 (by omega)))
/-- what the model says -/
theorem xOf_v (hW : pW T n p) (hn : pN p) (hw : whP n p = true) {t : (Nat → Nat) × (Nat → Nat) × (Nat → Nat)} (t1 : ∀ k, t.1 k ≤ MU) (t2 : ∀ k, t.2.1 k ≤ MU) : spV p.E p.ns (pSw p p.nd) (xOf p cp ask t) sort = brV p sort cp ask := by
  have hT := tW_of hW hn hw
  have e : spV p.E p.ns (pSw p p.nd) (xOf p cp ask t) sort = chX sort p.E (xsP sort (xOf p cp ask t)) (pSw p p.nd) p.ns := by
    unfold spV chX xsP
    split <;> rfl
  rw [e]
  exact chX_congr (fun j _ hj => (hT.1.1 j hj).1) (fun j _ hj => xOf_w hW hn hw t1 t2 hj)
theorem brV_le (hW : pW T n p) (hn : pN p) (hw : whP n p = true) : brV p sort cp ask ≤ MU := by
  unfold brV chX
  split
  · exact chT_le _ _ _ _ (Nat.zero_le _)
  · exact chR_le (fun k _ => stV_b hW hn hw k) _ _ _ _ (Nat.le_refl _) (Nat.zero_le _)
end VAL
theorem lonE_B {J : Nat → Nat → Int64} {o n : Nat} (h : lonE J o n) : ∃ T, lonT J o T n ∧ ∀ k, T k ≤ MU := by
  obtain ⟨T, hT⟩ := lonE_T h
  refine ⟨fun k => if k < n then T k else 0, fun k hk => ?_, fun k => ?_⟩
  · show J o k = lN (if k < n then T k else 0) ∧ (if k < n then T k else 0) ≤ MU
    rw [if_pos hk]
    exact hT k hk
  · show (if k < n then T k else 0) ≤ MU
    split
    · exact (hT k (by assumption)).2
    · exact Nat.zero_le _
