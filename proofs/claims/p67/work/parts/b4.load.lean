/-! the class's text cells against what the parser has read -/
theorem gb_1 (x : Int32) {k : Nat} (hk : k < 31) : ((x >>> (nI k &&& 31)) &&& 1 = 0) ↔ x.toBitVec.getLsbD k = false := by
  have h4 : (nI k &&& 31).toBitVec.smod 32 = BitVec.ofNat 32 k := (nx_amt k (by omega)).2
  have h3 : (x >>> (nI k &&& 31)).toBitVec = x.toBitVec.sshiftRight k := by
    show x.toBitVec.sshiftRight' ((nI k &&& 31).toBitVec.smod 32) = _
    rw [h4]
    show x.toBitVec.sshiftRight (BitVec.ofNat 32 k).toNat = _
    congr 1
    simp
    omega
  have h5 : ((x >>> (nI k &&& 31)) &&& 1).toBitVec = x.toBitVec.sshiftRight k &&& 1#32 := by
    show (x >>> (nI k &&& 31)).toBitVec &&& 1#32 = _
    rw [h3]
  have hg : ∀ i, (x.toBitVec.sshiftRight k &&& 1#32).getLsbD i = (x.toBitVec.getLsbD k && decide (i = 0)) := fun i => by
    rw [BitVec.getLsbD_and, BitVec.getLsbD_sshiftRight, BitVec.getLsbD_one]
    by_cases i0 : i = 0
    · subst i0
      have hk2 : k < 32 := by omega
      simp [hk2]
    · simp [i0]
  rw [← Int32.toBitVec_inj, h5]
  constructor
  · intro h
    have h6 := hg 0
    rw [h] at h6
    simp at h6
    simpa using h6
  · intro h
    apply BitVec.eq_of_getLsbD_eq
    intro i hi
    rw [hg i, h]
    simp
theorem gb_2 (x : Int32) {k j : Nat} (hk : k < 31) (hj : j < 31) : (x ||| (1 <<< (nI k &&& 31))).toBitVec.getLsbD j = (x.toBitVec.getLsbD j || decide (j = k)) := by
  have h4 : (nI k &&& 31).toBitVec.smod 32 = BitVec.ofNat 32 k := (nx_amt k (by omega)).2
  have h1 : ((1 : Int32) <<< (nI k &&& 31)).toBitVec = 1#32 <<< k := by
    show (1#32) <<< ((nI k &&& 31).toBitVec.smod 32) = _
    rw [h4, BitVec.shiftLeft_eq']
    congr 1
    simp
    omega
  show (x.toBitVec ||| ((1 : Int32) <<< (nI k &&& 31)).toBitVec).getLsbD j = _
  rw [h1, BitVec.getLsbD_or, BitVec.getLsbD_shiftLeft, BitVec.getLsbD_one]
  congr 1
  by_cases c : j = k
  · subst c
    have hj2 : j < 32 := by omega
    simp [hj2]
  · by_cases d : j < k
    · simp [c, d]
    · have e : ¬ j - k = 0 := by omega
      simp [c, e]
theorem gv_bit (μ : pM) {k : Nat} (hk : k < 31) : gv μ k = (μ 322 49).toBitVec.getLsbD k := by
  unfold gv
  have h := gb_1 (μ 322 49) hk
  rw [Bool.eq_iff_iff, decide_eq_true_eq]
  rcases e : (μ 322 49).toBitVec.getLsbD k with _ | _
  · exact ⟨fun z => absurd (h.mpr e) z, fun z => (by cases z)⟩
  · refine ⟨fun _ => rfl, fun _ z => ?_⟩
    rw [h.mp z] at e
    cases e
theorem u1_s (μ : pM) (a k : Nat) (x : Int32) : u1 μ a k x a k = x := if_pos ⟨rfl, rfl⟩
theorem u1_n (μ : pM) {a k i j : Nat} (x : Int32) (h : ¬ (i = a ∧ j = k)) : u1 μ a k x i j = μ i j := if_neg h
theorem gv_S (μ : pM) {k j : Nat} (hk : k < 31) (hj : j < 31) : gv (gvS μ k) j = (gv μ j || decide (j = k)) := by
  rw [gv_bit _ hj, gv_bit _ hj]
  unfold gvS
  rw [u1_s]
  exact gb_2 _ hk hj
theorem gv_u (μ : pM) (a k : Nat) (x : Int32) (j : Nat) (h : ¬ (a = 322 ∧ k = 49)) : gv (u1 μ a k x) j = gv μ j := by
  unfold gv
  rw [u1_n _ _ (fun z => h ⟨z.1.symm, z.2.symm⟩)]
/-- the order of plans: by month, then by place in the text -/
def plB (μ : pM) (a b : Nat) : Prop := μ 350 (3 * a + 1) < μ 350 (3 * b + 1) ∨ μ 350 (3 * a + 1) = μ 350 (3 * b + 1) ∧ a < b
def lPl (σ : jM) (μ : pM) : Prop := ∃ ρ : Nat → Nat, (∀ i, i < pn μ → ρ i < pn μ ∧ σ.1 27 i = μ 350 (3 * ρ i) ∧ σ.1 28 i = μ 350 (3 * ρ i + 1) ∧ σ.1 29 i = μ 350 (3 * ρ i + 2)) ∧ ∀ i j, i < j → j < pn μ → plB μ (ρ i) (ρ j)
def wV (μ : pM) (p r : Nat) : Int32 := if μ 347 (8 + 20 * p + (13 + r)) = 1 then -1 else μ 347 (8 + 20 * p + (7 + r))
/-- the class's cells: rooms and persons, its count of persons N -/
def lA (N : Nat) (σ : jM) (μ : pM) : Prop :=
  rm μ ≤ 6 ∧ pe μ ≤ 10 ∧ μ 322 43 = nI (rm μ) ∧ σ.1 4 0 = nI (rm μ) ∧ μ 322 44 = nI (pe μ) ∧ σ.1 4 1 = nI N ∧
  (∀ j, j < rm μ → σ.1 25 j = μ 348 j) ∧ (∀ j, j < pe μ → σ.1 26 j = μ 349 j) ∧ (∀ p q, p < q → q < pe μ → ¬ μ 349 p = μ 349 q) ∧
  (∀ p, p < pe μ → σ.1 7 p = μ 347 (8 + 20 * p + 1)) ∧ (∀ p r, p < pe μ → r < rm μ → σ.1 (9 + p) r = wV μ p r) ∧ (∀ p q, p < q → q < rm μ → ¬ μ 348 p = μ 348 q)
/-- what may be given once -/
def vC (σ : jM) (k : Nat) : Int32 := if k < 3 then σ.1 5 k else σ.1 4 (k - 1)
def gC (σ : jM) (k : Nat) : Int32 := if k < 3 then σ.1 30 k else σ.1 1 k
def lBs (σ : jM) (μ : pM) : Prop := ∀ k, k < 5 → vC σ k = μ 347 k ∧ (gC σ k = 0 ↔ gv μ k = false)
/-- the plans -/
def lC (σ : jM) (μ : pM) : Prop := pn μ ≤ 20 ∧ μ 322 45 = nI (pn μ) ∧ σ.1 24 5 = nI (pn μ) ∧ lPl σ μ
def lRN (N : Nat) (σ : jM) (μ : pM) : Prop := lA N σ μ ∧ lBs σ μ ∧ lC σ μ
def lR (σ : jM) (μ : pM) : Prop := lRN (pe μ) σ μ
def lUA (μ : pM) (a j : Nat) : Prop := (a = 4 ∧ j ≤ 1) ∨ (a = 25 ∧ j < rm μ) ∨ (a = 26 ∧ j < pe μ) ∨ (a = 7 ∧ j < pe μ) ∨ (9 ≤ a ∧ a < 9 + pe μ ∧ j < rm μ)
def lVA (μ : pM) (a j : Nat) : Prop := (a = 322 ∧ (j = 43 ∨ j = 44)) ∨ (a = 348 ∧ j < rm μ) ∨ (a = 349 ∧ j < pe μ) ∨ (a = 347 ∧ 8 ≤ j ∧ j < 8 + 20 * pe μ)
theorem lA_cg {N : Nat} {σ τ : jM} {μ ν : pM} (h : lA N σ μ) (h1 : ∀ a j, lUA μ a j → τ.1 a j = σ.1 a j) (h2 : ∀ a j, lVA μ a j → ν a j = μ a j) : lA N τ ν := by
  have e43 : ν 322 43 = μ 322 43 := h2 _ _ (Or.inl ⟨rfl, by omega⟩)
  have e44 : ν 322 44 = μ 322 44 := h2 _ _ (Or.inl ⟨rfl, by omega⟩)
  have r : rm ν = rm μ := by unfold rm; rw [e43]
  have p : pe ν = pe μ := by unfold pe; rw [e44]
  obtain ⟨a1, a2, a3, a4, a5, a6, a7, a8, a9, b1, b2, b3⟩ := h
  unfold lA
  rw [r, p, e43, e44]
  refine ⟨a1, a2, a3, (h1 _ _ (by unfold lUA; omega)).trans a4, a5, (h1 _ _ (by unfold lUA; omega)).trans a6, fun j hj => ?_, fun j hj => ?_, fun i j hij hj => ?_, fun i hi => ?_, fun i j hi hj => ?_, fun i j hij hj => ?_⟩
  · rw [h1 _ _ (by unfold lUA; omega), h2 _ _ (by unfold lVA; omega)]; exact a7 j hj
  · rw [h1 _ _ (by unfold lUA; omega), h2 _ _ (by unfold lVA; omega)]; exact a8 j hj
  · rw [h2 _ _ (by unfold lVA; omega), h2 _ _ (by unfold lVA; omega)]; exact a9 i j hij hj
  · rw [h1 _ _ (by unfold lUA; omega), h2 _ _ (by unfold lVA; omega)]; exact b1 i hi
  · rw [h1 _ _ (by unfold lUA; omega)]
    unfold wV
    rw [h2 _ _ (by unfold lVA; omega), h2 _ _ (by unfold lVA; omega)]
    exact b2 i j hi hj
  · rw [h2 _ _ (by unfold lVA; omega), h2 _ _ (by unfold lVA; omega)]; exact b3 i j hij hj
def lUB (a j : Nat) : Prop := (a = 4 ∧ (j = 2 ∨ j = 3)) ∨ (a = 5 ∧ j < 3) ∨ (a = 30 ∧ j < 3) ∨ (a = 1 ∧ (j = 3 ∨ j = 4))
def lVB (a j : Nat) : Prop := (a = 322 ∧ j = 49) ∨ (a = 347 ∧ j ≤ 4)
theorem vC_cg {σ τ : jM} (h1 : ∀ a j, lUB a j → τ.1 a j = σ.1 a j) {k : Nat} (hk : k < 5) : vC τ k = vC σ k ∧ gC τ k = gC σ k := by
  unfold vC gC
  by_cases c : k < 3
  · rw [if_pos c, if_pos c, if_pos c, if_pos c]
    exact ⟨h1 _ _ (by unfold lUB; omega), h1 _ _ (by unfold lUB; omega)⟩
  · rw [if_neg c, if_neg c, if_neg c, if_neg c]
    exact ⟨h1 _ _ (by unfold lUB; omega), h1 _ _ (by unfold lUB; omega)⟩
theorem lB_cg {σ τ : jM} {μ ν : pM} (h : lBs σ μ) (h1 : ∀ a j, lUB a j → τ.1 a j = σ.1 a j) (h2 : ∀ a j, lVB a j → ν a j = μ a j) : lBs τ ν := by
  intro k hk
  obtain ⟨v1, g1⟩ := vC_cg h1 hk
  have e49 : gv ν k = gv μ k := by
    unfold gv
    rw [h2 322 49 (Or.inl ⟨rfl, rfl⟩)]
  rw [v1, g1, h2 347 k (Or.inr ⟨rfl, by omega⟩), e49]
  exact h k hk
theorem lB_up {σ τ : jM} {μ : pM} (h : lBs σ μ) {k : Nat} (hk : k < 5) {x : Int32} (hv : vC τ k = x) (hg : gC τ k = 1) (ho : ∀ j, j < 5 → ¬ j = k → vC τ j = vC σ j ∧ gC τ j = gC σ j) : lBs τ (u1 (gvS μ k) 347 k x) := by
  intro j hj
  rw [gv_u _ _ _ _ _ (fun z => by omega), gv_S _ (by omega) (by omega)]
  by_cases c : j = k
  · subst c
    rw [u1_s, hv, hg, decide_eq_true rfl, Bool.or_true]
    exact ⟨rfl, fun z => absurd z (by decide), fun z => (by cases z)⟩
  · obtain ⟨o1, o2⟩ := ho j hj c
    have e : (u1 (gvS μ k) 347 k x) 347 j = μ 347 j := by
      rw [u1_n _ _ (fun z => c z.2)]
      unfold gvS
      exact u1_n _ _ (fun z => by omega)
    rw [e, o1, o2, decide_eq_false c, Bool.or_false]
    exact h j hj
def lUC (μ : pM) (a j : Nat) : Prop := (a = 24 ∧ j = 5) ∨ (27 ≤ a ∧ a ≤ 29 ∧ j < pn μ)
def lVC (μ : pM) (a j : Nat) : Prop := (a = 322 ∧ j = 45) ∨ (a = 350 ∧ j < 3 * pn μ)
theorem lC_cg {σ τ : jM} {μ ν : pM} (h : lC σ μ) (h1 : ∀ a j, lUC μ a j → τ.1 a j = σ.1 a j) (h2 : ∀ a j, lVC μ a j → ν a j = μ a j) : lC τ ν := by
  have e45 : ν 322 45 = μ 322 45 := h2 _ _ (Or.inl ⟨rfl, rfl⟩)
  have q : pn ν = pn μ := by unfold pn; rw [e45]
  obtain ⟨a1, a2, a3, ρ, c1, c2⟩ := h
  unfold lC lPl
  rw [q, e45]
  refine ⟨a1, a2, (h1 _ _ (Or.inl ⟨rfl, rfl⟩)).trans a3, ρ, fun i hi => ?_, fun i j hij hj => ?_⟩
  · obtain ⟨d0, d1, d2, d3⟩ := c1 i hi
    rw [h1 27 i (by unfold lUC; omega), h1 28 i (by unfold lUC; omega), h1 29 i (by unfold lUC; omega), h2 350 (3 * ρ i) (by unfold lVC; omega), h2 350 (3 * ρ i + 1) (by unfold lVC; omega), h2 350 (3 * ρ i + 2) (by unfold lVC; omega)]
    exact ⟨d0, d1, d2, d3⟩
  · have d0 := (c1 i (by omega)).1
    have d1 := (c1 j hj).1
    unfold plB
    rw [h2 350 (3 * ρ i + 1) (by unfold lVC; omega), h2 350 (3 * ρ j + 1) (by unfold lVC; omega)]
    exact c2 i j hij hj
theorem ln_of {a j : Nat} (h1 : ¬ a = 2) (h2 : ¬ (a = 1 ∧ 6 ≤ j)) : aLn a j = false := by
  unfold aLn aTo
  simp only [Bool.or_eq_false_iff, Bool.and_eq_false_iff, beq_eq_false_iff_ne]
  omega
theorem lR_ln {N : Nat} {σ τ : jM} {μ : pM} (h : lRN N σ μ) (f : jfr aLn b0 σ τ) : lRN N τ μ :=
  ⟨lA_cg h.1 (fun a j q => f.2.2 a j (ln_of (by unfold lUA at q; omega) (by unfold lUA at q; omega))) (fun _ _ _ => rfl), lB_cg h.2.1 (fun a j q => f.2.2 a j (ln_of (by unfold lUB at q; omega) (by unfold lUB at q; omega))) (fun _ _ _ => rfl), lC_cg h.2.2 (fun a j q => f.2.2 a j (ln_of (by unfold lUC at q; omega) (by unfold lUC at q; omega))) (fun _ _ _ => rfl)⟩
/-- all that reading writes -/
def aLq (a j : Nat) : Bool := aLn a j || (a == 1 && (j == 3 || j == 4) || a == 4 && Nat.ble j 3 || a == 5 || a == 7 || Nat.ble 9 a && Nat.ble a 18 || a == 24 && j == 5 || Nat.ble 25 a && Nat.ble a 30)
theorem lw_ln {a j : Nat} (h : aLq a j = false) : aLn a j = false := by
  unfold aLq at h
  simp only [Bool.or_eq_false_iff] at h
  exact h.1
theorem lw_fr {σ τ : jM} (f : jfr aLq b0 σ τ) : τ.1 3 = σ.1 3 ∧ kLn τ = kLn σ ∧ (kT σ → kT τ) := by
  have e2 : τ.1 2 2 = σ.1 2 2 := f.2.2 2 2 rfl
  refine ⟨funext fun j => f.2.2 3 j rfl, by unfold kLn; rw [e2], fun h => ?_⟩
  unfold kT
  rw [e2]
  exact h
/-- what a statement leaves -/
def lRes (v : Option Value) (τ : jM) : pE ⊕ pS → Prop
  | .inl e => lEr v τ e
  | .inr q => v = some (.int 1) ∧ toP τ q.1 ∧ lR τ q.2
theorem lR_n {σ : jM} {μ ν : pM} (h : lR σ μ) (h2 : lR σ ν) : rm μ = rm ν ∧ pe μ = pe ν ∧ pn μ = pn ν := by
  have a := h.1
  have b := h2.1
  have c := h.2.2
  have d := h2.2.2
  refine ⟨?_, ?_, ?_⟩
  · exact (nI_eq (by have := a.1; omega) (by have := b.1; omega)).mp (a.2.2.2.1.symm.trans b.2.2.2.1)
  · exact (nI_eq (by have := a.2.1; omega) (by have := b.2.1; omega)).mp (a.2.2.2.2.2.1.symm.trans b.2.2.2.2.2.1)
  · exact (nI_eq (by have := c.1; omega) (by have := d.1; omega)).mp (c.2.2.1.symm.trans d.2.2.1)
theorem ff_all {p : Nat → Bool} : ∀ (d k : Nat), ff p d k = -1 → k + d < 2 ^ 31 → ∀ q, k ≤ q → q < k + d → ¬ p q = true
  | 0, _, _, _, _, _, _ => by omega
  | d + 1, k, h, hb, q, h1, h2 => by
    simp only [ff] at h
    by_cases c : p k = true
    · rw [if_pos c] at h
      exact absurd h (fun z => (nI_m1 (by omega)).mp z)
    · rw [if_neg c] at h
      by_cases e : q = k
      · rw [e]; exact c
      · exact ff_all d (k + 1) h (by omega) q (by omega) (by omega)
theorem lm_all {p : Nat → Bool} : ∀ (N : Nat), lm p N = -1 → N < 2 ^ 31 → ∀ q, q < N → ¬ p q = true
  | 0, _, _, _, _ => by omega
  | N + 1, h, hb, q, h2 => by
    simp only [lm] at h
    by_cases c : p N = true
    · rw [if_pos c] at h
      exact absurd h (fun z => (nI_m1 (by omega)).mp z)
    · rw [if_neg c] at h
      by_cases e : q = N
      · rw [e]; exact c
      · exact lm_all N h (by omega) q (by omega)
theorem ff_lm {p : Nat → Bool} {N : Nat} (hN : N < 2 ^ 31) (hu : ∀ a b, a < N → b < N → p a = true → p b = true → a = b) : lm p N = ff p N 0 := by
  rcases ff_rng (p := p) N 0 with e | ⟨j, -, hj, pj, e⟩
  · rcases lm_rng (p := p) N with e2 | ⟨k, hk, pk, -⟩
    · rw [e, e2]
    · exact absurd pk (ff_all N 0 e (by omega) k (by omega) (by omega))
  · rcases lm_rng (p := p) N with e2 | ⟨k, hk, pk, e2⟩
    · exact absurd pj (lm_all N e2 hN j (by omega))
    · rw [e, e2, hu k j hk (by omega) pk pj]
theorem al_ex {p : Nat → Bool} (n : Nat) : (!(al p n)) = true ↔ ∃ j, j < n ∧ ¬ p j = true := by
  rcases e : al p n with _ | _
  · refine ⟨fun _ => ?_, fun _ => rfl⟩
    by_cases z : ∃ j, j < n ∧ ¬ p j = true
    · exact z
    · exfalso
      have := (al_iff (p := p) n).mpr (fun j hj => by
        by_cases q : p j = true
        · exact q
        · exact absurd ⟨j, hj, q⟩ z)
      rw [e] at this
      cases this
  · refine ⟨fun h => (by cases h), fun ⟨j, hj, h⟩ => absurd ((al_iff (p := p) n).mp e j hj) h⟩
/-- a name stands already -/
theorem dup_ff {b : Nat → Int32} {len s a c N : Nat} {μ : pM} {σ : jM} (hN : N ≤ 10) (h : ∀ j, j < N → σ.1 c j = μ a j) : dup b len μ a N s = true ↔ ¬ ff (fun k => decide (σ.1 c k = nI (nm b len s))) N 0 = -1 := by
  unfold dup
  rw [al_ex]
  constructor
  · rintro ⟨j, hj, q⟩ z
    have := ff_all N 0 z (by omega) j (by omega) (by omega)
    simp only [decide_eq_true_eq] at this q
    exact q (fun y => this ((h j hj).trans y))
  · intro z
    rcases ff_rng (p := fun k => decide (σ.1 c k = nI (nm b len s))) N 0 with e | ⟨j, -, hj, pj, -⟩
    · exact absurd e z
    · refine ⟨j, by omega, ?_⟩
      simp only [decide_eq_true_eq] at pj ⊢
      exact fun y => y ((h j (by omega)).symm.trans pj)
