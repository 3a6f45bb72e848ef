/-! the best choice of rooms: it may be taken, and none is better -/
theorem qR_ge {f : Nat → qC} : ∀ (R r : Nat), r < R → ∀ b, f r = some b → ∃ a, qR f R = some a ∧ b.1 ≤ a.1
  | 0, r, h, _, _ => by omega
  | R + 1, r, h, b, hb => by
    simp only [qR]
    by_cases e : r = R
    · subst e
      rw [hb]
      rcases qR f r with _ | c
      · exact ⟨b, rfl, Nat.le_refl _⟩
      · simp only [qB]
        split
        · exact ⟨b, rfl, Nat.le_refl _⟩
        · split
          · exact ⟨_, rfl, by dsimp only; omega⟩
          · exact ⟨_, rfl, by omega⟩
    · obtain ⟨a, h1, h2⟩ := qR_ge R r (by omega) b hb
      rw [h1]
      rcases f R with _ | c
      · exact ⟨a, rfl, h2⟩
      · simp only [qB]
        split
        · exact ⟨c, rfl, by omega⟩
        · split
          · exact ⟨_, rfl, by dsimp only; omega⟩
          · exact ⟨_, rfl, by omega⟩
theorem qR_is {f : Nat → qC} : ∀ (R : Nat) (a : Nat × Nat × (Nat → Nat)), qR f R = some a → ∃ r, r < R ∧ ∃ b, f r = some b ∧ b.1 = a.1 ∧ b.2.2 = a.2.2 ∧ ∀ r', r' < r → ∀ c, f r' = some c → c.1 < a.1
  | 0, _, h => by cases h
  | R + 1, a, h => by
    simp only [qR] at h
    rcases e1 : qR f R with _ | x
    · rw [e1] at h
      refine ⟨R, by omega, a, h, rfl, rfl, fun r' hr c hc => ?_⟩
      obtain ⟨z, hz, -⟩ := qR_ge R r' hr c hc
      rw [e1] at hz; cases hz
    · obtain ⟨r, h1, b, h2, h3, h4, h5⟩ := qR_is R x e1
      rw [e1] at h
      rcases e2 : f R with _ | y
      · rw [e2] at h
        have h : some x = some a := h
        cases h
        exact ⟨r, by omega, b, h2, h3, h4, h5⟩
      · rw [e2] at h
        simp only [qB] at h
        by_cases c1 : x.1 < y.1
        · rw [if_pos c1] at h
          cases h
          refine ⟨R, by omega, _, e2, rfl, rfl, fun r' hr c hc => ?_⟩
          obtain ⟨z, hz, hz2⟩ := qR_ge R r' hr c hc
          rw [e1] at hz
          cases hz
          omega
        · rw [if_neg c1] at h
          by_cases c2 : x.1 = y.1
          · rw [if_pos c2] at h
            cases h
            exact ⟨r, by omega, b, h2, h3, h4, h5⟩
          · rw [if_neg c2] at h
            cases h
            exact ⟨r, by omega, b, h2, h3, h4, h5⟩
/-- d places from i on have rooms by b that are free of t -/
def vA (W : Nat → Nat → Option Nat) (R : Nat) (b : Nat → Nat) : Nat → Nat → Nat → Prop
  | 0, _, _ => True
  | d + 1, i, t => b i < R ∧ (W i (b i)).isSome = true ∧ t.testBit (b i) = false ∧ vA W R b d (i + 1) (t ||| 1 <<< b i)
def sV (W : Nat → Nat → Option Nat) (b : Nat → Nat) : Nat → Nat → Nat
  | 0, _ => 0
  | d + 1, i => (W i (b i)).getD 0 + sV W b d (i + 1)
theorem vA_congr {W : Nat → Nat → Option Nat} {R : Nat} {b b' : Nat → Nat} : ∀ (d i t : Nat), (∀ j, i ≤ j → b' j = b j) → vA W R b d i t → vA W R b' d i t
  | 0, _, _, _, _ => trivial
  | d + 1, i, t, h, hv => by
    simp only [vA] at hv ⊢
    rw [h i (Nat.le_refl _)]
    exact ⟨hv.1, hv.2.1, hv.2.2.1, vA_congr d (i + 1) _ (fun j hj => h j (by omega)) hv.2.2.2⟩
theorem sV_congr {W : Nat → Nat → Option Nat} {b b' : Nat → Nat} : ∀ (d i : Nat), (∀ j, i ≤ j → b' j = b j) → sV W b' d i = sV W b d i
  | 0, _, _ => rfl
  | d + 1, i, h => by
    simp only [sV]
    rw [h i (Nat.le_refl _), sV_congr d (i + 1) (fun j hj => h j (by omega))]
/-- what a place ahead adds -/
def qF (W : Nat → Nat → Option Nat) (R d i t r : Nat) : qC := match W i r with
  | none => none
  | some v => if t.testBit r then none else qS v i r (qT W R d (i + 1) (t ||| 1 <<< r))
theorem qT_s (W : Nat → Nat → Option Nat) (R d i t : Nat) : qT W R (d + 1) i t = qR (qF W R d i t) R := rfl
theorem qF_some {W : Nat → Nat → Option Nat} {R d i t r : Nat} {b : Nat × Nat × (Nat → Nat)} (h : qF W R d i t r = some b) : ∃ v c, W i r = some v ∧ t.testBit r = false ∧ qT W R d (i + 1) (t ||| 1 <<< r) = some c ∧ b = (c.1 + v, c.2.1, fun j => if j = i then r else c.2.2 j) := by
  unfold qF at h
  split at h
  · cases h
  · rename_i v hv
    by_cases ht : t.testBit r = true
    · rw [if_pos ht] at h; cases h
    · rw [if_neg ht] at h
      rcases hc : qT W R d (i + 1) (t ||| 1 <<< r) with _ | c
      · rw [hc] at h; cases h
      · rw [hc] at h
        exact ⟨v, c, hv, by simpa using ht, rfl, (Option.some.inj h).symm⟩
theorem qT_mem {W : Nat → Nat → Option Nat} {R : Nat} : ∀ (d i t : Nat) (a : Nat × Nat × (Nat → Nat)), qT W R d i t = some a → vA W R a.2.2 d i t ∧ a.1 = sV W a.2.2 d i
  | 0, _, _, a, h => by
    have h : some (0, 1, fun _ => 0) = some a := h
    cases h
    exact ⟨trivial, rfl⟩
  | d + 1, i, t, a, h => by
    rw [qT_s] at h
    obtain ⟨r, h1, b, h2, h3, h4, -⟩ := qR_is R a h
    obtain ⟨v, c, e1, e2, e3, e4⟩ := qF_some h2
    subst e4
    obtain ⟨i1, i2⟩ := qT_mem d (i + 1) _ c e3
    dsimp only at h3 h4
    have e5 : a.2.2 i = r := by rw [← h4]; simp
    have e6 : ∀ j, i + 1 ≤ j → a.2.2 j = c.2.2 j := fun j hj => by
      rw [← h4]
      exact if_neg (by omega)
    simp only [vA, sV]
    rw [e5, e1]
    refine ⟨⟨h1, rfl, e2, vA_congr d (i + 1) _ e6 i1⟩, ?_⟩
    rw [sV_congr d (i + 1) e6, ← i2, ← h3]
    simp only [Option.getD_some]
    omega
theorem qT_le {W : Nat → Nat → Option Nat} {R : Nat} {b : Nat → Nat} : ∀ (d i t : Nat), vA W R b d i t → ∃ a, qT W R d i t = some a ∧ sV W b d i ≤ a.1
  | 0, _, _, _ => ⟨_, rfl, Nat.le_refl _⟩
  | d + 1, i, t, h => by
    simp only [vA] at h
    obtain ⟨h1, h2, h3, h4⟩ := h
    obtain ⟨c, i1, i2⟩ := qT_le d (i + 1) _ h4
    obtain ⟨v, hv⟩ := Option.isSome_iff_exists.mp h2
    have e : qF W R d i t (b i) = some (c.1 + v, c.2.1, fun j => if j = i then b i else c.2.2 j) := by
      unfold qF
      rw [hv]
      dsimp only
      rw [h3, i1]
      rfl
    obtain ⟨a, j1, j2⟩ := qR_ge R (b i) h1 _ e
    refine ⟨a, by rw [qT_s]; exact j1, ?_⟩
    simp only [sV]
    rw [hv]
    simp only [Option.getD_some]
    dsimp only at j2
    omega
theorem tb_or (t r k : Nat) : (t ||| 1 <<< r).testBit k = (t.testBit k || decide (r = k)) := by
  rw [Nat.testBit_or, Nat.one_shiftLeft, Nat.testBit_two_pow]
theorem vA_iff {W : Nat → Nat → Option Nat} {R : Nat} {b : Nat → Nat} : ∀ (d i t : Nat), vA W R b d i t ↔ (∀ j, i ≤ j → j < i + d → b j < R ∧ (W j (b j)).isSome = true ∧ t.testBit (b j) = false) ∧ (∀ j k, i ≤ j → j < i + d → i ≤ k → k < i + d → b j = b k → j = k)
  | 0, i, t => by
    simp only [vA, true_iff]
    exact ⟨fun j h1 h2 => by omega, fun j k h1 h2 => by omega⟩
  | d + 1, i, t => by
    simp only [vA, vA_iff d (i + 1), tb_or, Bool.or_eq_false_iff, decide_eq_false_iff_not]
    refine ⟨fun h => ?_, fun h => ?_⟩
    · obtain ⟨h1, h2, h3, h4, h5⟩ := h
      refine ⟨fun j q1 q2 => ?_, fun j k q1 q2 q3 q4 q5 => ?_⟩
      · by_cases e : j = i
        · subst e; exact ⟨h1, h2, h3⟩
        · obtain ⟨a1, a2, a3⟩ := h4 j (by omega) (by omega)
          exact ⟨a1, a2, a3.1⟩
      · by_cases e : j = i
        · by_cases e2 : k = i
          · omega
          · have := (h4 k (by omega) (by omega)).2.2.2
            rw [e] at q5
            exact absurd q5 this
        · by_cases e2 : k = i
          · have := (h4 j (by omega) (by omega)).2.2.2
            rw [e2] at q5
            exact absurd q5.symm this
          · exact h5 j k (by omega) (by omega) (by omega) (by omega) q5
    · obtain ⟨h1, h2⟩ := h
      obtain ⟨a1, a2, a3⟩ := h1 i (Nat.le_refl _) (by omega)
      refine ⟨a1, a2, a3, fun j q1 q2 => ?_, fun j k q1 q2 q3 q4 q5 => h2 j k (by omega) (by omega) (by omega) (by omega) q5⟩
      obtain ⟨c1, c2, c3⟩ := h1 j (by omega) (by omega)
      refine ⟨c1, c2, c3, fun q => ?_⟩
      have := h2 i j (Nat.le_refl _) (by omega) (by omega) (by omega) q
      omega
theorem sI_head (f : Nat → Int) : ∀ n, sI f (n + 1) = f 0 + sI (fun j => f (j + 1)) n
  | 0 => by simp only [sI]; omega
  | n + 1 => by
    rw [sI, sI_head f n]
    simp only [sI]
    omega
theorem sV_sI (W : Nat → Nat → Option Nat) (b : Nat → Nat) : ∀ (d i : Nat), (sV W b d i : Int) = sI (fun j => (((W (i + j) (b (i + j))).getD 0 : Nat) : Int)) d
  | 0, _ => rfl
  | d + 1, i => by
    rw [sI_head]
    simp only [sV]
    rw [Int.natCast_add, sV_sI W b d (i + 1)]
    have : (fun j => (((W (i + 1 + j) (b (i + 1 + j))).getD 0 : Nat) : Int)) = fun j => (((W (i + (j + 1)) (b (i + (j + 1)))).getD 0 : Nat) : Int) := by
      funext j
      rw [show i + 1 + j = i + (j + 1) by omega]
    rw [this]
    rfl
theorem sV_le {W : Nat → Nat → Option Nat} {R : Nat} (hW : ∀ i r v, r < R → W i r = some v → v ≤ 9999) (b : Nat → Nat) : ∀ (d i t : Nat), vA W R b d i t → sV W b d i ≤ 9999 * d
  | 0, _, _, _ => Nat.le_refl _
  | d + 1, i, t, hv => by
    simp only [vA] at hv
    have := sV_le hW b d (i + 1) _ hv.2.2.2
    simp only [sV]
    rcases h : W i (b i) with _ | v
    · simp only [Option.getD_none]; omega
    · have := hW _ _ _ hv.1 h
      simp only [Option.getD_some]; omega
/-- different rooms for m places: there are as many rooms -/
def lb (b : Nat → Nat) : Nat → List Nat
  | 0 => []
  | n + 1 => b n :: lb b n
theorem lb_mem (b : Nat → Nat) : ∀ (n y : Nat), y ∈ lb b n ↔ ∃ j, j < n ∧ b j = y
  | 0, y => by simp [lb]
  | n + 1, y => by
    simp only [lb, List.mem_cons, lb_mem b n y]
    refine ⟨fun h => ?_, fun ⟨j, h1, h2⟩ => ?_⟩
    · rcases h with h | ⟨j, h1, h2⟩
      · exact ⟨n, by omega, h.symm⟩
      · exact ⟨j, by omega, h2⟩
    · by_cases e : j = n
      · subst e; exact Or.inl h2.symm
      · exact Or.inr ⟨j, by omega, h2⟩
theorem lb_nd (b : Nat → Nat) : ∀ (n : Nat), (∀ i j, i < n → j < n → b i = b j → i = j) → (lb b n).Nodup ∧ (lb b n).length = n
  | 0, _ => ⟨List.nodup_nil, rfl⟩
  | n + 1, h => by
    obtain ⟨i1, i2⟩ := lb_nd b n (fun i j h1 h2 => h i j (by omega) (by omega))
    refine ⟨List.nodup_cons.mpr ⟨fun q => ?_, i1⟩, by simp only [lb, List.length_cons, i2]⟩
    obtain ⟨j, h1, h2⟩ := (lb_mem b n _).mp q
    have := h j n (by omega) (by omega) h2
    omega
theorem inj_le {b : Nat → Nat} {m R : Nat} (h1 : ∀ j, j < m → b j < R) (h2 : ∀ i j, i < m → j < m → b i = b j → i = j) : m ≤ R := by
  obtain ⟨i1, i2⟩ := lb_nd b m h2
  have := nd_len R (lb b m) i1 (fun x hx => by
    obtain ⟨j, h3, h4⟩ := (lb_mem b m x).mp hx
    rw [← h4]; exact h1 j h3)
  omega
/-! prices: the least and the greatest numbers with which nobody envies -/
def gF (W : Nat → Nat → Option Nat) (p r : Nat) : Int := (((W p r).getD 0 : Nat) : Int)
def gE (W : Nat → Nat → Option Nat) (a : Nat → Nat) (p q : Nat) : Bool := decide (p ≠ q) && (W p (a q)).isSome
def gG (W : Nat → Nat → Option Nat) (a : Nat → Nat) : Nat → Nat → Int := gw (gF W) a
def gLo (W : Nat → Nat → Option Nat) (a : Nat → Nat) (m : Nat) : Nat → Int := wF m (gE W a) (gG W a) 5
def gHi (W : Nat → Nat → Option Nat) (a : Nat → Nat) (m : Nat) : Nat → Int := wF m (fun p q => gE W a q p) (fun p q => gG W a q p) 5
theorem qT_best {W : Nat → Nat → Option Nat} {R m : Nat} {a : Nat × Nat × (Nat → Nat)} (hR : R ≤ 6) (h : qT W R m 0 0 = some a) : (∀ j, j < m → a.2.2 j < R ∧ (W j (a.2.2 j)).isSome = true) ∧ (∀ i j, i < m → j < m → a.2.2 i = a.2.2 j → i = j) ∧ m ≤ R ∧ sol m (gE W a.2.2) (gG W a.2.2) (gLo W a.2.2 m) ∧ sol m (fun p q => gE W a.2.2 q p) (fun p q => gG W a.2.2 q p) (gHi W a.2.2 m) := by
  obtain ⟨h1, h2⟩ := qT_mem m 0 0 a h
  obtain ⟨h3, h4⟩ := (vA_iff m 0 0).mp h1
  have ha : ∀ j, j < m → a.2.2 j < R ∧ (W j (a.2.2 j)).isSome = true := fun j hj => ⟨(h3 j (by omega) (by omega)).1, (h3 j (by omega) (by omega)).2.1⟩
  have hi : ∀ i j, i < m → j < m → a.2.2 i = a.2.2 j → i = j := fun i j q1 q2 => h4 i j (by omega) (by omega) (by omega) (by omega)
  have hm : m ≤ R := inj_le (fun j hj => (ha j hj).1) hi
  have hC := best_cl (m := m) (e := gE W a.2.2) (F := gF W) (Ok := fun j r => r < R ∧ (W j r).isSome = true) (a := a.2.2) hi ha (fun p q _ hq he => by
    simp only [gE, Bool.and_eq_true] at he
    exact ⟨(ha q hq).1, he.2⟩) (fun b q1 q2 => by
    have hv : vA W R b m 0 0 := (vA_iff m 0 0).mpr ⟨fun j _ hj => ⟨(q2 j (by omega)).1, (q2 j (by omega)).2, by simp⟩, fun j k _ h6 _ h7 => q1 j k (by omega) (by omega)⟩
    obtain ⟨c, c1, c2⟩ := qT_le m 0 0 hv
    rw [h] at c1
    cases c1
    have e1 := sV_sI W b m 0
    have e2 := sV_sI W a.2.2 m 0
    simp only [Nat.zero_add] at e1 e2
    show sI (fun j => (((W j (b j)).getD 0 : Nat) : Int)) m ≤ sI (fun j => (((W j (a.2.2 j)).getD 0 : Nat) : Int)) m
    rw [← e1, ← e2]
    omega)
  refine ⟨ha, hi, hm, wF_sol (by omega) (fun x l q1 q2 => hC x l q1 q2), wF_sol (by omega) (fun x l q1 q2 => ?_)⟩
  have hE : ∀ p q, eE m (fun p q => gE W a.2.2 q p) p q → eE m (gE W a.2.2) q p := fun p q z => ⟨z.2.1, z.1, z.2.2⟩
  have q3 : wk (fun p q => eE m (gE W a.2.2) q p) x l := by
    have aux : ∀ (x : Nat) (l : List Nat), wk (eE m (fun p q => gE W a.2.2 q p)) x l → wk (fun p q => eE m (gE W a.2.2) q p) x l := by
      intro x l
      induction l generalizing x with
      | nil => intro _; trivial
      | cons y t ih => intro z; exact ⟨hE _ _ z.1, ih y z.2⟩
    exact aux x l q1
  exact cl_rev (E := eE m (gE W a.2.2)) (w := gG W a.2.2) hC x l q3 q2
theorem wF_bd {m : Nat} {e : Nat → Nat → Bool} {w : Nat → Nat → Int} {B : Int} (hB : 0 ≤ B) (h : ∀ p q, p < m → q < m → e p q = true → w p q ≤ B) : ∀ (k q : Nat), q < m → wF m e w k q ≤ B * k
  | 0, _, _ => by simp [wF]
  | k + 1, q, hq => by
    have e1 : B * ((k + 1 : Nat) : Int) = B * k + B := by rw [Int.natCast_add, Int.mul_add]; simp
    rw [e1]
    simp only [wF]
    rcases mx_is (fun p => wF m e w k p + w p q) (fun p => e p q) (wF m e w k q) m with h1 | ⟨p, h1, h2, h3⟩
    · rw [h1]
      have := wF_bd hB h k q hq
      omega
    · rw [h3]
      have := wF_bd hB h k p h1
      have := h p q h1 hq h2
      try dsimp only
      omega
theorem gG_bd {W : Nat → Nat → Option Nat} {R m : Nat} {a : Nat → Nat} (hW : ∀ i r v, r < R → W i r = some v → v ≤ 9999) (ha : ∀ j, j < m → a j < R) {p q : Nat} (hp : p < m) (hq : q < m) : gG W a p q ≤ 1199880 ∧ -1199880 ≤ gG W a p q := by
  have hF : ∀ r, r < R → 0 ≤ gF W p r ∧ gF W p r ≤ 9999 := fun r hr => by
    unfold gF
    rcases h : W p r with _ | v
    · simp
    · have := hW _ _ _ hr h
      simp only [Option.getD_some]
      omega
  have h1 := hF (a q) (ha q hq)
  have h2 := hF (a p) (ha p hp)
  unfold gG gw
  omega
theorem gLo_bd {W : Nat → Nat → Option Nat} {R m : Nat} {a : Nat → Nat} (hW : ∀ i r v, r < R → W i r = some v → v ≤ 9999) (ha : ∀ j, j < m → a j < R) {q : Nat} (hq : q < m) : gLo W a m q ≤ 5999400 ∧ gHi W a m q ≤ 5999400 := by
  have h1 := wF_bd (m := m) (e := gE W a) (w := gG W a) (B := 1199880) (by decide) (fun p q h1 h2 _ => (gG_bd hW ha h1 h2).1) 5 q hq
  have h2 := wF_bd (m := m) (e := fun p q => gE W a q p) (w := fun p q => gG W a q p) (B := 1199880) (by decide) (fun p q h1 h2 _ => (gG_bd hW ha h2 h1).1) 5 q hq
  exact ⟨by unfold gLo; omega, by unfold gHi; omega⟩
