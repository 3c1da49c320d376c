/-! a cap never makes more -/
def capLe (cp cp' : Nat → Option Nat) : Prop := ∀ q a, trnK (cp q) a ≤ trnK (cp' q) a
theorem sat_mono {a b : Nat} (h : a ≤ b) : sat a ≤ sat b := by unfold sat; omega
theorem cT_mono {K f f' i i' : Nat} (hf : f ≤ f') (hi : i ≤ i') : cT K f i ≤ cT K f' i' := by
  unfold cT
  split
  · exact hf
  · split
    · exact sat_mono (Nat.mul_le_mul hf (sat_mono (by omega)))
    · split
      · exact sat_mono (by omega)
      · exact hi
theorem chT_mono {E T T' : Nat → Nat} {lo hi : Nat} (h : ∀ j, lo ≤ j → j < hi → T j ≤ T' j) (hE : ∀ j, lo ≤ j → j < hi → j < E j) : ∀ (m k acc acc' : Nat), lo ≤ k → acc ≤ acc' → chT E T m k hi acc ≤ chT E T' m k hi acc' := by
  intro m
  induction m with
  | zero => intro k acc acc' _ ha; exact ha
  | succ m ih =>
    intro k acc acc' hk ha
    unfold chT
    split
    · exact ha
    · have := h k hk (by omega)
      exact ih _ _ _ (by have := hE k hk (by omega); omega) (sat_mono (by omega))
section MONO
variable {am : Nat → Nat} {cp cp' : Nat → Option Nat} {ask K E L A B bl pS : Nat → Nat} {par : Nat → Option Nat} {n nd : Nat}
theorem figK_mono (hc : capLe cp cp') {k : Nat} : figK am cp ask K A B k ≤ figK am cp' ask K A B k := by
  unfold figK
  split
  · exact Nat.le_refl _
  · split
    · exact hc _ _
    · exact Nat.le_refl _
theorem mono_fix (h : tW n nd K E L A bl pS par) (hc : capLe cp cp') {X Y : Nat → Nat} (hX : ∀ k, k < n → X k = cT (K k) (figK am cp ask K A B k) (inX 0 ask K E L A B pS (fun d => pS (d + 1)) X k)) (hY : ∀ k, k < n → Y k = cT (K k) (figK am cp' ask K A B k) (inX 0 ask K E L A B pS (fun d => pS (d + 1)) Y k)) :
    ∀ d, d ≤ nd + 1 → ∀ k, k < pS d → X k ≤ Y k
  | 0, _, k, hk => by rw [h.2.2.2.1.1] at hk; omega
  | d + 1, hd, k, hk => by
    have ih := mono_fix h hc hX hY d (by omega)
    have hn := tW_n h hd
    have dn : ∀ m k, pS (d + 1) ≤ k + m → pS d ≤ k → k < pS (d + 1) → X k ≤ Y k := by
      intro m
      induction m with
      | zero => intro k q1 q2 q3; omega
      | succ m im =>
        intro k q1 q2 q3
        have hb : ∀ j, k < j → j < pS (d + 1) → X j ≤ Y j := fun j r1 r2 => im j (by omega) (by omega) r2
        have hEk := h.2.2.2.2.1 (d + 1) k (by omega) q3
        have hE := h.1.1 k (by omega)
        rw [hX k (by omega), hY k (by omega)]
        refine cT_mono (figK_mono hc) ?_
        unfold inX chX
        rw [if_pos rfl, if_pos rfl, if_pos rfl, if_pos rfl, if_pos rfl, if_pos rfl]
        by_cases c : K k = 4
        · rw [if_pos c, if_pos c]
          have cc := tW_call h (by omega) q2 q3 c
          exact chT_mono (lo := pS (A k)) (hi := pS (A k + 1)) (fun j r1 r2 => ih j (by omega)) (fun j r1 r2 => (h.1.1 j (by omega)).1) _ _ _ _ (Nat.le_refl _) (Nat.le_refl _)
        · rw [if_neg c, if_neg c]
          by_cases k5 : K k = 5
          · rw [if_pos k5, if_pos k5]
            have hL := h.2.1.1 k (by omega) k5
            have ab : k + 1 ≤ ifA ask L A B k ∧ ifB ask E L A B k ≤ E k := by
              unfold ifA ifB
              split <;> exact ⟨by omega, by omega⟩
            exact chT_mono (lo := ifA ask L A B k) (fun j r1 r2 => hb j (by omega) (by omega)) (fun j r1 r2 => (h.1.1 j (by omega)).1) _ _ _ _ (Nat.le_refl _) (Nat.le_refl _)
          · rw [if_neg k5, if_neg k5]
            exact chT_mono (lo := k + 1) (fun j r1 r2 => hb j (by omega) (by omega)) (fun j r1 r2 => (h.1.1 j (by omega)).1) _ _ _ _ (Nat.le_refl _) (Nat.le_refl _)
    by_cases e : k < pS d
    · exact ih k e
    · exact dn (pS (d + 1)) k (by omega) (by omega) hk
end MONO
section MONO2
variable {T : Nat → Nat} {n : Nat} {p : PS} {cp cp' : Nat → Option Nat} {ask : Nat → Nat}
theorem stV_fix (hW : pW T n p) (hn : pN p) (hw : whP n p = true) {k : Nat} (hk : k < p.ns) : stV p 0 cp ask k = cT (p.K k) (figK (amtK ask p.F p.s.fk p.s.fv p.s.fp) cp ask p.K p.A p.B k) (inX 0 ask p.K p.E p.L p.A p.B (pSw p) (fun d => pSw p (d + 1)) (stV p 0 cp ask) k) := by
  have := xsP_fix (sort := 0) (tW_of hW hn hw) hk (xOf_G (cp := cp) (ask := ask) hW hn hw zr3 hk)
  rw [if_pos rfl] at this
  exact this
theorem brV_mono (hW : pW T n p) (hn : pN p) (hw : whP n p = true) (hc : capLe cp cp') : brV p 0 cp ask ≤ brV p 0 cp' ask := by
  have hT := tW_of hW hn hw
  have q := mono_fix hT hc (X := stV p 0 cp ask) (Y := stV p 0 cp' ask) (fun k hk => stV_fix hW hn hw hk) (fun k hk => stV_fix hW hn hw hk) (p.nd + 1) (Nat.le_refl _)
  rw [pSw_n] at q
  unfold brV chX
  rw [if_pos rfl, if_pos rfl]
  exact chT_mono (lo := pSw p p.nd) (fun j _ hj => q j hj) (fun j _ hj => (hT.1.1 j hj).1) _ _ _ _ (Nat.le_refl _) (Nat.le_refl _)
end MONO2
/-! sets of places, from both ends -/
def rvN (np s : Nat) : Nat := (List.range np).foldl (fun a q => if s.testBit q = true then a + 2 ^ (np - 1 - q) else a) 0
def rvB (np s : Nat) : Bool := decide (rvN np s < 2 ^ np) && (pc8 (rvN np s) == pc8 s) && (rvN np (rvN np s) == s) && (List.range np).all (fun q => (rvN np s).testBit (np - 1 - q) == s.testBit q) && (rvN 8 s == rvN np s * 2 ^ (8 - np))
theorem rvB_ok : (List.range 9).all (fun np => (List.range (2 ^ np)).all (fun s => rvB np s)) = true := by decide +kernel
theorem rv_all (np : Nat) (h9 : np < 9) (s : Nat) (_ : s < 256) (hs : s < 2 ^ np) : rvN np s < 2 ^ np ∧ pc8 (rvN np s) = pc8 s ∧ rvN np (rvN np s) = s ∧ (∀ q, q < 8 → q < np → (rvN np s).testBit (np - 1 - q) = s.testBit q) ∧ rvN 8 s = rvN np s * 2 ^ (8 - np) := by
  have h := List.all_eq_true.mp (List.all_eq_true.mp rvB_ok np (List.mem_range.mpr h9)) s (List.mem_range.mpr hs)
  unfold rvB at h
  simp only [Bool.and_eq_true, decide_eq_true_eq, beq_iff_eq] at h
  obtain ⟨⟨⟨⟨h1, h2⟩, h3⟩, h4⟩, h5⟩ := h
  refine ⟨h1, h2, h3, fun q _ hq => ?_, h5⟩
  have := List.all_eq_true.mp h4 q (List.mem_range.mpr hq)
  simpa using this
def lo8 (x : Nat) : Nat := ((List.range 8).find? (fun i => x.testBit i)).getD 8
def loB (x : Nat) : Bool := x == 0 || (decide (lo8 x < 8) && x.testBit (lo8 x) && (List.range (lo8 x)).all (fun j => !x.testBit j) && decide (nI x &&& -nI x = nI (2 ^ lo8 x)))
theorem loB_ok : (List.range 256).all loB = true := by decide +kernel
theorem lo_all {x : Nat} (hx : x < 256) (h0 : x ≠ 0) : lo8 x < 8 ∧ x.testBit (lo8 x) = true ∧ (∀ j, j < lo8 x → x.testBit j = false) ∧ nI x &&& -nI x = nI (2 ^ lo8 x) := by
  have h := List.all_eq_true.mp loB_ok x (List.mem_range.mpr hx)
  unfold loB at h
  simp only [Bool.or_eq_true, Bool.and_eq_true, decide_eq_true_eq, beq_iff_eq] at h
  rcases h with h | ⟨⟨⟨h1, h2⟩, h3⟩, h4⟩
  · exact absurd h h0
  · refine ⟨h1, h2, fun j hj => ?_, h4⟩
    have := List.all_eq_true.mp h3 j (List.mem_range.mpr hj)
    simpa using this
theorem lt_bit {x y i : Nat} (hx : x.testBit i = false) (hy : y.testBit i = true) (h : ∀ j, i < j → x.testBit j = y.testBit j) : x < y := by
  have e : x / 2 ^ (i + 1) = y / 2 ^ (i + 1) := by
    rw [← Nat.shiftRight_eq_div_pow, ← Nat.shiftRight_eq_div_pow]
    apply Nat.eq_of_testBit_eq
    intro j
    rw [Nat.testBit_shiftRight, Nat.testBit_shiftRight]
    exact h _ (by omega)
  rw [Nat.testBit_eq_decide_div_mod_eq] at hx hy
  have hx : ¬ x / 2 ^ i % 2 = 1 := by simpa using hx
  have hy : y / 2 ^ i % 2 = 1 := by simpa using hy
  rw [Nat.pow_succ, ← Nat.div_div_eq_div_mul, ← Nat.div_div_eq_div_mul] at e
  by_cases c : x < y
  · exact c
  · have := Nat.div_le_div_right (c := 2 ^ i) (show y ≤ x by omega)
    omega
theorem nx_xor (a b : Nat) : nI a ^^^ nI b = nI (a ^^^ b) := by
  apply b_ext
  intro i hi
  rw [b_xor, b_nI hi, b_nI hi, b_nI hi, Nat.testBit_xor]
theorem fs_rv (a : Nat) (ha : a < 256) (b : Nat) (hb : b < 256) (hne : a ≠ b) : (fsB a b = true ↔ rvN 8 b < rvN 8 a) := by
  have hx : a ^^^ b < 256 := Nat.xor_lt_two_pow (n := 8) ha hb
  have h0 : a ^^^ b ≠ 0 := fun z => hne (by
    apply Nat.eq_of_testBit_eq
    intro i
    have : (a ^^^ b).testBit i = false := by rw [z, Nat.zero_testBit]
    rw [Nat.testBit_xor] at this
    simpa using this)
  obtain ⟨l1, l2, l3, l4⟩ := lo_all hx h0
  generalize lo8 (a ^^^ b) = i at l1 l2 l3 l4
  have fa := rv_all 8 (by omega) a ha ha
  have fb := rv_all 8 (by omega) b hb hb
  have df : a.testBit i ≠ b.testBit i := by
    rw [Nat.testBit_xor] at l2
    intro z
    rw [z] at l2
    simp at l2
  have lo : ∀ j, j < i → a.testBit j = b.testBit j := fun j hj => by
    have := l3 j hj
    rw [Nat.testBit_xor] at this
    simpa using this
  have up : ∀ j, 7 - i < j → (rvN 8 a).testBit j = (rvN 8 b).testBit j := fun j hj => by
    by_cases c : j < 8
    · have e1 := fa.2.2.2.1 (7 - j) (by omega) (by omega)
      have e2 := fb.2.2.2.1 (7 - j) (by omega) (by omega)
      have e3 : 8 - 1 - (7 - j) = j := by omega
      rw [e3] at e1 e2
      rw [e1, e2]
      exact lo _ (by omega)
    · have g : ∀ x, x < 2 ^ 8 → x.testBit j = false := fun x hx => Nat.testBit_lt_two_pow (Nat.lt_of_lt_of_le hx (Nat.pow_le_pow_right (by omega) (by omega)))
      rw [g _ fa.1, g _ fb.1]
  have ea := fa.2.2.2.1 i l1 l1
  have eb := fb.2.2.2.1 i l1 l1
  have e7 : 8 - 1 - i = 7 - i := by omega
  rw [e7] at ea eb
  have ef : fsB a b = a.testBit i := by
    unfold fsB
    rw [nx_xor, Int32.and_assoc, l4]
    cases z : a.testBit i with
    | false =>
      have := (an_p i l1 a ha).mpr z
      simp [this]
    | true =>
      have : ¬ nI a &&& nI (2 ^ i) = 0 := fun w => by
        have := (an_p i l1 a ha).mp w
        rw [z] at this
        cases this
      simp [this]
  rw [ef]
  constructor
  · intro z
    have zb : b.testBit i = false := by
      cases w : b.testBit i with
      | false => rfl
      | true => rw [z, w] at df; exact absurd rfl df
    exact lt_bit (i := 7 - i) (by rw [eb]; exact zb) (by rw [ea]; exact z) (fun j hj => (up j hj).symm)
  · intro z
    cases w : a.testBit i with
    | true => rfl
    | false =>
      have wb : b.testBit i = true := by
        cases y : b.testBit i with
        | true => rfl
        | false => rw [w, y] at df; exact absurd rfl df
      have := lt_bit (i := 7 - i) (x := rvN 8 a) (y := rvN 8 b) (by rw [ea]; exact w) (by rw [eb]; exact wb) up
      omega
theorem fwC_spec {P : Nat → Bool} : ∀ n, match fwC P n with
    | none => ∀ c, c < n → P c = false
    | some c => c < n ∧ P c = true ∧ ∀ d, d < n → P d = true → d ≤ c
  | 0 => fun c hc => absurd hc (Nat.not_lt_zero c)
  | n + 1 => by
    have ih := fwC_spec (P := P) n
    show match (if P n = true then some n else fwC P n) with
      | none => ∀ c, c < n + 1 → P c = false
      | some c => c < n + 1 ∧ P c = true ∧ ∀ d, d < n + 1 → P d = true → d ≤ c
    by_cases h : P n = true
    · rw [if_pos h]
      exact ⟨by omega, h, fun d hd _ => by omega⟩
    · rw [if_neg h]
      cases e : fwC P n with
      | none =>
        rw [e] at ih
        intro c hc
        by_cases z : c = n
        · rw [z]; simpa using h
        · exact ih c (by omega)
      | some c =>
        rw [e] at ih
        refine ⟨by have := ih.1; omega, ih.2.1, fun d hd hp => ?_⟩
        by_cases z : d = n
        · rw [z] at hp; exact absurd hp h
        · exact ih.2.2 d (by omega) hp
theorem bgI_spec {P : Nat → Bool} : ∀ n, n ≤ 256 → match bgI P n with
    | none => ∀ c, c < n → P c = false
    | some c => c < n ∧ P c = true ∧ ∀ d, d < n → P d = true → rvN 8 d ≤ rvN 8 c
  | 0, _ => fun c hc => absurd hc (Nat.not_lt_zero c)
  | n + 1, hn => by
    have ih := bgI_spec (P := P) n (by omega)
    show match (if (fsO n (bgI P n) && P n) = true then some n else bgI P n) with
      | none => ∀ c, c < n + 1 → P c = false
      | some c => c < n + 1 ∧ P c = true ∧ ∀ d, d < n + 1 → P d = true → rvN 8 d ≤ rvN 8 c
    cases e : bgI P n with
    | none =>
      rw [e] at ih
      by_cases h : P n = true
      · rw [if_pos (by rw [h]; rfl)]
        refine ⟨by omega, h, fun d hd hp => ?_⟩
        by_cases z : d = n
        · rw [z]; exact Nat.le_refl _
        · rw [ih d (by omega)] at hp; cases hp
      · rw [if_neg (by simp [h])]
        intro c hc
        by_cases z : c = n
        · rw [z]; simpa using h
        · exact ih c (by omega)
    | some b =>
      rw [e] at ih
      have fs := fs_rv n (by omega) b (by have := ih.1; omega) (by have := ih.1; omega)
      by_cases h : (fsO n (some b) && P n) = true
      · rw [if_pos h]
        rw [Bool.and_eq_true] at h
        have h1 : rvN 8 b < rvN 8 n := fs.mp h.1
        refine ⟨by omega, h.2, fun d hd hp => ?_⟩
        by_cases z : d = n
        · rw [z]; exact Nat.le_refl _
        · have := ih.2.2 d (by omega) hp
          omega
      · rw [if_neg h]
        refine ⟨by have := ih.1; omega, ih.2.1, fun d hd hp => ?_⟩
        by_cases z : d = n
        · rw [z] at hp ⊢
          have : ¬ rvN 8 b < rvN 8 n := fun w => h (by rw [Bool.and_eq_true]; exact ⟨fs.mpr w, hp⟩)
          omega
        · exact ih.2.2 d (by omega) hp
theorem cnB_iff {s : Nat} {nd : Nat → Nat} : ∀ k, cnB s nd k = true ↔ ∀ q, q < k → s.testBit q = true → nd q ≤ 1000000
  | 0 => ⟨fun _ q hq => absurd hq (Nat.not_lt_zero q), fun _ => rfl⟩
  | k + 1 => by
    show (cnB s nd k && !(s.testBit k && decide (1000000 < nd k))) = true ↔ _
    rw [Bool.and_eq_true, cnB_iff k]
    constructor
    · rintro ⟨h1, h2⟩ q hq hs
      by_cases e : q = k
      · rw [e] at hs ⊢
        rw [hs] at h2
        simpa using h2
      · exact h1 q (by omega) hs
    · intro h
      refine ⟨fun q hq => h q (by omega), ?_⟩
      cases e : s.testBit k with
      | false => rfl
      | true =>
        have := h k (by omega) e
        simp
        omega
section BUDG9
variable {np : Nat} {nd : Nat → Nat} {us : Nat → Bool} {r sz : Nat → Nat} {v v' : (Nat → Option Nat) → Nat → Nat} {b : Int}
/-- one choice, both ways of writing it -/
theorem cp_same (h8 : np ≤ 8) {s : Nat} (hs : s < 2 ^ np) (hc : cnB s nd np = true) : cpM np s nd = cpO np (rvN np s) nd := by
  have f := rv_all np (by omega) s (Nat.lt_of_lt_of_le hs (pw8 h8)) hs
  funext q
  unfold cpM cpO
  by_cases e : q < np
  · rw [f.2.2.2.1 q (by omega) e]
    by_cases z : s.testBit q = true
    · rw [if_pos ⟨e, z⟩, if_pos ⟨e, z⟩]
      have := (cnB_iff np).mp hc q e z
      unfold ndC
      rw [if_neg (by omega)]
    · rw [if_neg (fun w => z w.2), if_neg (fun w => z w.2)]
  · rw [if_neg (fun w => e w.1), if_neg (fun w => e w.1)]
theorem cap_sub {c d : Nat} (h : ∀ q, q < np → d.testBit (np - 1 - q) = true → c.testBit (np - 1 - q) = true) : capLe (cpO np c nd) (cpO np d nd) := by
  intro q a
  unfold cpO
  by_cases e : q < np ∧ d.testBit (np - 1 - q) = true
  · rw [if_pos e, if_pos ⟨e.1, h q e.1 e.2⟩]
    exact Nat.le_refl _
  · rw [if_neg e]
    split
    · exact Nat.min_le_left _ _
    · exact Nat.le_refl _
theorem cap_none {cp : Nat → Option Nat} : capLe cp (fun _ => none) := by
  intro q a
  unfold trnK
  split
  · exact Nat.le_refl _
  · exact Nat.min_le_left _ _
theorem sub_can (h8 : np ≤ 8) {s : Nat} (hs : s < 2 ^ np) : subB (rvN np s) (abN nd np np) = true ↔ cnB s nd np = true := by
  have f := rv_all np (by omega) s (Nat.lt_of_lt_of_le hs (pw8 h8)) hs
  rw [subB_iff, cnB_iff]
  constructor
  · intro h q hq hb
    have := h (np - 1 - q) (by omega) (by rw [f.2.2.2.1 q (by omega) hq]; exact hb)
    exact ((abN_bit hq np (Nat.le_refl _)).mp this).2
  · intro h i hi hb
    by_cases e : i < np
    · have e2 : i = np - 1 - (np - 1 - i) := by omega
      have e3 : np - 1 - i < np := by omega
      rw [e2] at hb ⊢
      rw [f.2.2.2.1 (np - 1 - i) (by omega) e3] at hb
      exact (abN_bit e3 np (Nat.le_refl _)).mpr ⟨e3, h _ e3 hb⟩
    · have : (rvN np s).testBit i = false := Nat.testBit_lt_two_pow (Nat.lt_of_lt_of_le f.1 (Nat.pow_le_pow_right (by omega) (by omega)))
      rw [this] at hb
      cases hb
/-- what is kept below -/
theorem kp_iff (hr : ∀ k, k < 4 → r k = if us k = true then sz k else 0) (hv : ∀ cp i j, (∀ k, k < 4 → us k = true → dgD r i k = dgD sz j k) → v' cp i = v cp j) (hm : ∀ cp cp' i, capLe cp cp' → v' cp i ≤ v' cp' i) (cp : Nat → Option Nat) : kpB v' b (rsL (v' (fun _ => none)) b (prN r 4)) cp = true ↔ ∀ j, j < prN sz 4 → (v cp j : Int) ≤ b := by
  rw [← bl_same hr (hv cp) b]
  unfold kpB
  rw [List.all_eq_true]
  constructor
  · intro h i hi
    by_cases c : b < (v' (fun _ => none) i : Int)
    · have := h i ((rsL_mem _).mpr ⟨hi, c⟩)
      simpa using this
    · have := hm cp (fun _ => none) i cap_none
      omega
  · intro h x hx
    have := (rsL_mem _).mp hx
    simpa using h x this.1
theorem fit_same (h8 : np ≤ 8) (hr : ∀ k, k < 4 → r k = if us k = true then sz k else 0) (hv : ∀ cp i j, (∀ k, k < 4 → us k = true → dgD r i k = dgD sz j k) → v' cp i = v cp j) (hm : ∀ cp cp' i, capLe cp cp' → v' cp i ≤ v' cp' i) {m s : Nat} (hs : s < 2 ^ np) : fwP v' b np nd (rsL (v' (fun _ => none)) b (prN r 4)) m (rvN np s) = bgP v b np (prN sz 4) nd m s := by
  have f := rv_all np (by omega) s (Nat.lt_of_lt_of_le hs (pw8 h8)) hs
  rw [Bool.eq_iff_iff]
  unfold fwP bgP
  simp only [Bool.and_eq_true, decide_eq_true_eq]
  rw [f.2.1, sub_can h8 hs, kp_iff hr hv hm, blB_iff]
  constructor
  · rintro ⟨⟨h1, h2⟩, h3⟩
    refine ⟨⟨h1, h2⟩, ?_⟩
    rw [cp_same h8 hs h2]
    exact h3
  · rintro ⟨⟨h1, h2⟩, h3⟩
    refine ⟨⟨h1, h2⟩, ?_⟩
    rw [← cp_same h8 hs h2]
    exact h3
theorem rv_inj (h8 : np ≤ 8) {s t : Nat} (hs : s < 2 ^ np) (ht : t < 2 ^ np) (h : rvN np s = rvN np t) : s = t := by
  have f := rv_all np (by omega) s (Nat.lt_of_lt_of_le hs (pw8 h8)) hs
  have g := rv_all np (by omega) t (Nat.lt_of_lt_of_le ht (pw8 h8)) ht
  rw [← f.2.2.1, h, g.2.2.1]
theorem pick_same (h8 : np ≤ 8) {P Pm : Nat → Bool} (hP : ∀ s, s < 2 ^ np → P (rvN np s) = Pm s) : fwC P (2 ^ np) = (bgI Pm (2 ^ np)).map (rvN np) := by
  have a := fwC_spec (P := P) (2 ^ np)
  have c := bgI_spec (P := Pm) (2 ^ np) (pw8 h8)
  have lt : ∀ s, s < 2 ^ np → s < 256 := fun s hs => Nat.lt_of_lt_of_le hs (pw8 h8)
  have ff := fun s hs => rv_all np (by omega) s (lt s hs) hs
  cases e1 : fwC P (2 ^ np) with
  | none =>
    rw [e1] at a
    cases e2 : bgI Pm (2 ^ np) with
    | none => rfl
    | some s =>
      rw [e2] at c
      have := a (rvN np s) (ff s c.1).1
      rw [hP s c.1, c.2.1] at this
      cases this
  | some x =>
    rw [e1] at a
    have hx := ff x a.1
    have px : Pm (rvN np x) = true := by
      rw [← hP (rvN np x) hx.1, hx.2.2.1]
      exact a.2.1
    cases e2 : bgI Pm (2 ^ np) with
    | none =>
      rw [e2] at c
      rw [c (rvN np x) hx.1] at px
      cases px
    | some s =>
      rw [e2] at c
      show some x = some (rvN np s)
      have h1 := a.2.2 (rvN np s) (ff s c.1).1 (by rw [hP s c.1]; exact c.2.1)
      have h2 := c.2.2 (rvN np x) hx.1 px
      have g1 := (ff s c.1).2.2.2.2
      have g2 := (ff (rvN np x) hx.1).2.2.2.2
      rw [g1, g2, hx.2.2.1] at h2
      have h3 : x ≤ rvN np s := Nat.le_of_mul_le_mul_right h2 (Nat.two_pow_pos _)
      have : x = rvN np s := by omega
      rw [this]
theorem many_same (h8 : np ≤ 8) {P Pm : Nat → Nat → Bool} (hP : ∀ m s, s < 2 ^ np → P m (rvN np s) = Pm m s) : ∀ f m, fwM P np f m = (bgM Pm np f m).map (rvN np)
  | 0, _ => rfl
  | f + 1, m => by
    unfold fwM bgM
    rw [pick_same h8 (hP m)]
    cases bgI (Pm m) (2 ^ np) with
    | none => exact many_same h8 hP f (m + 1)
    | some s => rfl
theorem bgM_some {P : Nat → Nat → Bool} (h8 : np ≤ 8) : ∀ {f m s : Nat}, bgM P np f m = some s → s < 2 ^ np ∧ ∃ k, P k s = true
  | 0, m, s, h => by simp [bgM] at h
  | f + 1, m, s, h => by
    unfold bgM at h
    split at h
    · rename_i x hx
      cases h
      have := bgI_spec (P := P m) (2 ^ np) (pw8 h8)
      rw [hx] at this
      exact ⟨this.1, m, this.2.1⟩
    · exact bgM_some h8 h
/-- what both choose -/
theorem budg_same (h8 : np ≤ 8) (hr : ∀ k, k < 4 → r k = if us k = true then sz k else 0) (hv : ∀ cp i j, (∀ k, k < 4 → us k = true → dgD r i k = dgD sz j k) → v' cp i = v cp j) (hm : ∀ cp cp' i, capLe cp cp' → v' cp i ≤ v' cp' i) : fwR v' b np nd (rsL (v' (fun _ => none)) b (prN r 4)) = (bgM (bgP v b np (prN sz 4) nd) np (np + 1) 0).map (rvN np) := by
  unfold fwR
  by_cases c : kpB v' b (rsL (v' (fun _ => none)) b (prN r 4)) (cpO np (abN nd np np) nd) = true
  · rw [if_pos c]
    exact many_same h8 (fun m s hs => fit_same h8 hr hv hm hs) (np + 1) 0
  · rw [if_neg c]
    cases e : bgM (bgP v b np (prN sz 4) nd) np (np + 1) 0 with
    | none => rfl
    | some s =>
      exfalso
      obtain ⟨hs, m, hp⟩ := bgM_some h8 e
      rw [← fit_same h8 hr hv hm hs] at hp
      unfold fwP at hp
      simp only [Bool.and_eq_true, decide_eq_true_eq] at hp
      apply c
      rw [kp_iff hr hv hm]
      have h3 := (kp_iff hr hv hm _).mp hp.2
      have f := rv_all np (by omega) s (Nat.lt_of_lt_of_le hs (pw8 h8)) hs
      have le : capLe (cpO np (abN nd np np) nd) (cpO np (rvN np s) nd) := cap_sub (fun q hq hb => by
        have := (subB_iff.mp hp.1.2) (np - 1 - q) (by omega) hb
        exact this)
      intro j hj
      obtain ⟨i, i1, i2, -⟩ := fw_down (wt := fun _ => 0) hr j
      have e1 := hv (cpO np (abN nd np np) nd) i j (fun k hk hu => by rw [i2 k hk]; unfold prA; rw [if_pos hu])
      have e2 := hv (cpO np (rvN np s) nd) i j (fun k hk hu => by rw [i2 k hk]; unfold prA; rw [if_pos hu])
      have := h3 j hj
      have := hm _ _ i le
      omega
end BUDG9
