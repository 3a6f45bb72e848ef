/-! units that are left: the law's way and the class's -/
def hoIt (m : Nat) : Nat → (Nat → Int) × (Nat → Int32) → (Nat → Int) × (Nat → Int32)
  | 0, x => x
  | n + 1, x => match hoB (hoIt m n x).1 m with
    | none => hoIt m n x
    | some b => (hoU (hoIt m n x).1 b, hoA (hoIt m n x).2 b)
theorem hoIt_s (m n : Nat) (x : (Nat → Int) × (Nat → Int32)) : hoIt m (n + 1) x = match hoB (hoIt m n x).1 m with
    | none => hoIt m n x
    | some b => (hoU (hoIt m n x).1 b, hoA (hoIt m n x).2 b) := rfl
theorem hoIt_none {m : Nat} {x : (Nat → Int) × (Nat → Int32)} (h : hoB x.1 m = none) : ∀ n, hoIt m n x = x
  | 0 => rfl
  | n + 1 => by rw [hoIt_s, hoIt_none h n, h]
theorem hoIt_some {m b : Nat} {x : (Nat → Int) × (Nat → Int32)} (h : hoB x.1 m = some b) : ∀ n, hoIt m (n + 1) x = hoIt m n (hoU x.1 b, hoA x.2 b)
  | 0 => by
    rw [hoIt_s]
    show (match hoB x.1 m with | none => x | some b => (hoU x.1 b, hoA x.2 b)) = _
    rw [h]
    rfl
  | n + 1 => by rw [hoIt_s, hoIt_some h n, ← hoIt_s]
theorem hoS_It (m : Nat) : ∀ (n : Nat) (r : Nat → Int) (s : Nat → Int32), hoS m n r s = (hoIt m n (r, s)).2
  | 0, _, _ => rfl
  | n + 1, r, s => by
    simp only [hoS]
    rcases e : hoB r m with _ | b
    · rw [hoIt_none (x := (r, s)) e]
    · dsimp only
      rw [hoS_It m n, hoIt_some (x := (r, s)) e]
section RS
variable {l : Nat → Bool} {N : Nat} {has : Nat → Int32}
theorem rsT_ho {left : Nat → Int64} {r : Nat → Int} (hh : ∀ p, p < N → (has p = 0 ↔ ¬ l p = true)) (hl : ∀ p, p < N → l p = true → left p = lI (r (cn l p)) ∧ lB (r (cn l p))) : ∀ k, k ≤ N → (∀ b, hoB r (cn l k) = some b → ∃ t, rsT has left k = some t ∧ t < k ∧ l t = true ∧ cn l t = b) ∧ (hoB r (cn l k) = none → ∀ t, rsT has left k = some t → t < k ∧ l t = true ∧ r (cn l t) < 0)
  | 0, _ => ⟨fun b h => (by cases h), fun _ t h => (by cases h)⟩
  | k + 1, hk => by
    obtain ⟨i1, i2⟩ := rsT_ho hh hl k (by omega)
    by_cases c : l k = true
    · have hk0 : ¬ has k = 0 := fun z => (hh k (by omega)).mp z c
      have ec : cn l (k + 1) = cn l k + 1 := by simp only [cn]; rw [if_pos c]
      obtain ⟨lk, bk⟩ := hl k (by omega) c
      have eT : rsT has left (k + 1) = match rsT has left k with
        | none => some k
        | some t => if left k ≤ left t then some t else some k := if_neg hk0
      have eB : hoB r (cn l k + 1) = match hoB r (cn l k) with
        | none => if 0 ≤ r (cn l k) then some (cn l k) else none
        | some b => if 0 ≤ r (cn l k) ∧ r b < r (cn l k) then some (cn l k) else some b := rfl
      rw [ec, eT, eB]
      rcases hB : hoB r (cn l k) with _ | b
      · have i2 := i2 hB
        dsimp only
        by_cases d : 0 ≤ r (cn l k)
        · rw [if_pos d]
          refine ⟨fun b hb => ?_, fun z => (by cases z)⟩
          cases hb
          refine ⟨k, ?_, by omega, c, rfl⟩
          rcases hT : rsT has left k with _ | t
          · rfl
          · obtain ⟨t1, t2, t3⟩ := i2 t hT
            obtain ⟨lt, bt⟩ := hl t (by omega) t2
            dsimp only
            rw [if_neg]
            rw [lk, lt, lI_le bk bt]
            omega
        · rw [if_neg d]
          refine ⟨fun b hb => (by cases hb), fun _ t ht => ?_⟩
          rcases hT : rsT has left k with _ | t'
          · rw [hT] at ht
            cases ht
            exact ⟨by omega, c, by omega⟩
          · obtain ⟨t1, t2, t3⟩ := i2 t' hT
            rw [hT] at ht
            dsimp only at ht
            split at ht
            · cases ht; exact ⟨by omega, t2, t3⟩
            · cases ht; exact ⟨by omega, c, by omega⟩
      · obtain ⟨t, t1, t2, t3, t4⟩ := i1 b hB
        obtain ⟨lt, bt⟩ := hl t (by omega) t3
        have b0 := (hoB_lt hB).2
        rw [t1]
        dsimp only
        have hle : lI (r (cn l k)) ≤ lI (r (cn l t)) ↔ r (cn l k) ≤ r b := by rw [lI_le bk bt, t4]
        rw [lk, lt]
        by_cases d : r b < r (cn l k)
        · rw [if_pos ⟨by omega, d⟩, if_neg (fun z => by have := hle.mp z; omega)]
          refine ⟨fun b' hb => ?_, fun z => (by cases z)⟩
          cases hb
          exact ⟨k, rfl, by omega, c, rfl⟩
        · rw [if_neg (fun z => d z.2), if_pos (hle.mpr (by omega))]
          refine ⟨fun b' hb => ?_, fun z => (by cases z)⟩
          cases hb
          exact ⟨t, rfl, by omega, t3, t4⟩
    · have hk0 : has k = 0 := (hh k (by omega)).mpr c
      have ec : cn l (k + 1) = cn l k := by simp only [cn]; rw [if_neg c]; rfl
      have eT : rsT has left (k + 1) = rsT has left k := if_pos hk0
      rw [ec, eT]
      refine ⟨fun b hb => ?_, fun z t ht => ?_⟩
      · obtain ⟨t, t1, t2, t3, t4⟩ := i1 b hb
        exact ⟨t, t1, by omega, t3, t4⟩
      · obtain ⟨t1, t2, t3⟩ := i2 z t ht
        exact ⟨by omega, t2, t3⟩
theorem rs_ho {row : Nat → Int32} {left : Nat → Int64} {r : Nat → Int} {s : Nat → Int32} (hh : ∀ p, p < N → (has p = 0 ↔ ¬ l p = true)) (hl : ∀ p, p < N → l p = true → row p = s (cn l p) ∧ left p = lI (r (cn l p))) (hb : ∀ i, i < cn l N → -1 ≤ r i ∧ r i ≤ 1000000000000) : ∀ n, n ≤ hoN r (cn l N) →
    (∀ p, p < N → l p = true → (rsS has N n (row, left)).1 p = (hoIt (cn l N) n (r, s)).2 (cn l p) ∧ (rsS has N n (row, left)).2 p = lI ((hoIt (cn l N) n (r, s)).1 (cn l p))) ∧ (∀ p, p < N → ¬ l p = true → (rsS has N n (row, left)).1 p = row p) ∧ (∀ i, i < cn l N → -1 ≤ (hoIt (cn l N) n (r, s)).1 i ∧ (hoIt (cn l N) n (r, s)).1 i ≤ 1000000000000) ∧ hoN (hoIt (cn l N) n (r, s)).1 (cn l N) = hoN r (cn l N) - n
  | 0, _ => ⟨hl, fun _ _ _ => rfl, hb, rfl⟩
  | n + 1, hn => by
    obtain ⟨i1, i2, i3, i4⟩ := rs_ho hh hl hb n (by omega)
    obtain ⟨x, ex⟩ : ∃ x, x = hoIt (cn l N) n (r, s) := ⟨_, rfl⟩
    obtain ⟨y, ey⟩ : ∃ y, y = rsS has N n (row, left) := ⟨_, rfl⟩
    rw [hoIt_s]
    rw [← ex] at i1 i3 i4 ⊢
    rw [← ey] at i1 i2
    have eS : rsS has N (n + 1) (row, left) = match rsT has y.2 N with
      | none => y
      | some t => (fun j => if j = t then y.1 t + 1 else y.1 j, fun j => if j = t then -1 else y.2 j) := by rw [ey]; rfl
    rw [eS]
    have hT := rsT_ho (left := y.2) (r := x.1) hh (fun p hp lp => by
      have := i3 _ (cn_lt lp hp)
      exact ⟨(i1 p hp lp).2, by omega⟩) N (Nat.le_refl _)
    rcases hB : hoB x.1 (cn l N) with _ | b
    · have := hoN_pos hB
      omega
    · obtain ⟨t, t1, t2, t3, t4⟩ := hT.1 b hB
      obtain ⟨b1, b2⟩ := hoB_lt hB
      rw [t1]
      dsimp only
      refine ⟨fun p hp lp => ?_, fun p hp lp => ?_, fun i hi => ?_, ?_⟩
      · obtain ⟨j1, j2⟩ := i1 p hp lp
        unfold hoA hoU
        by_cases e : p = t
        · subst e
          rw [if_pos rfl, if_pos rfl, if_pos t4, if_pos t4, j1]
          exact ⟨rfl, rfl⟩
        · have e2 : ¬ cn l p = b := fun z => e (cn_inj lp t3 (by rw [z, t4]))
          rw [if_neg e, if_neg e, if_neg e2, if_neg e2]
          exact ⟨j1, j2⟩
      · rw [if_neg (fun z => lp (by rw [z]; exact t3))]
        exact i2 p hp lp
      · unfold hoU
        split
        · omega
        · exact i3 i hi
      · have := (hoN_upd b2 (cn l N)).1
        rw [this, if_pos b1, i4]
        omega
/-- the law's split is the class's -/
theorem uRow_sp {A : Nat} {wt : Nat → Nat} (hN : N ≤ 5) (hh : ∀ p, p < N → (has p = 0 ↔ ¬ l p = true)) (hw : ∀ p, p < N → wt p ≤ 100000000) {p : Nat} (hp : p < N) : uRow A has wt N p = if l p = true then spS A (fun i => wt (qpl l N i)) (cn l N) (cn l p) else 0 := by
  have ecn : cn (fun p => !decide (has p = 0)) N = cn l N := cn_congr N (fun j hj => by
    by_cases c : l j = true
    · have : ¬ has j = 0 := fun z => (hh j hj).mp z c
      simp [c, this]
    · have : has j = 0 := (hh j hj).mpr c
      simp [c, this])
  unfold uRow
  rw [ecn]
  by_cases c : cn l N = 0
  · rw [if_pos c, if_neg (fun z => by have := cn_lt z hp; omega)]
    unfold fillI
    split <;> rfl
  · rw [if_neg c]
    obtain ⟨w, ew⟩ : ∃ w : Nat → Nat, w = fun i => wt (qpl l N i) := ⟨_, rfl⟩
    have wq : ∀ q, q < N → l q = true → w (cn l q) = wt q := fun q hq lq => by
      rw [ew]
      dsimp only
      rw [qpl_cn lq hq]
    have eAll : uAll has wt N = smN w (cn l N) := by
      unfold uAll
      rw [← smN_cn l w N]
      refine smN_cg N (fun q hq => ?_)
      by_cases d : l q = true
      · rw [if_neg (fun z => (hh q hq).mp z d), if_pos d, wq q hq d]
      · rw [if_pos ((hh q hq).mpr d), if_neg d]
    have eSum : uSum has wt N = spA w (cn l N) := by
      rw [uSum_eq, eAll, ecn]
      rfl
    have eWg : ∀ q, q < N → uWg has wt (uAll has wt N) q = if l q = true then spW w (cn l N) (cn l q) else 0 := fun q hq => by
      unfold uWg spW
      rw [eAll]
      by_cases d : l q = true
      · rw [if_neg (fun z => (hh q hq).mp z d), if_pos d, wq q hq d]
      · rw [if_pos ((hh q hq).mpr d), if_neg d]
    have eQ : ∀ q, q < N → uQ A has wt N q = if l q = true then spP A w (cn l N) (cn l q) else 0 := fun q hq => by
      unfold uQ spP
      rw [eWg q hq, eSum]
      by_cases d : l q = true
      · rw [if_pos d, if_pos d]
      · rw [if_neg d, if_neg d, Nat.mul_zero, Nat.zero_div]
    have eR : ∀ q, q < N → l q = true → uR A has wt N q = spR A w (cn l N) (cn l q) := fun q hq d => by
      unfold uR spR
      rw [eWg q hq, eSum, if_pos d]
    have eL : A - smN (uQ A has wt N) N = spL A w (cn l N) := by
      unfold spL
      rw [← smN_cn l (spP A w (cn l N)) N]
      rw [smN_cg N eQ]
    obtain ⟨s1, s2, s3⟩ := sp_le A w (m := cn l N) (by omega)
    have hcn := cn_le l N
    have hA9 : spA w (cn l N) ≤ 600000000 := by
      unfold spA
      split
      · omega
      · have : smN w (cn l N) ≤ 100000000 * cn l N := smN_le _ (fun i hi => by
          rw [ew]
          exact hw _ (qpl_is hi).2.1)
        omega
    have hR : ∀ i, i < cn l N → -1 ≤ (spR A w (cn l N) i : Int) ∧ (spR A w (cn l N) i : Int) ≤ 1000000000000 := fun i _ => by
      have : spR A w (cn l N) i < spA w (cn l N) := Nat.mod_lt _ s1
      omega
    have hNn : hoN (fun i => (spR A w (cn l N) i : Int)) (cn l N) = cn l N := by
      unfold hoN
      have : ∀ k, cn (fun i => decide ((0 : Int) ≤ (spR A w (cn l N) i : Int))) k = k := fun k => by
        induction k with
        | zero => rfl
        | succ k ih =>
          simp only [cn]
          rw [ih, if_pos (by rw [decide_eq_true_eq]; omega)]
      exact this _
    have key := rs_ho (row := fillI (fun p => nI (uQ A has wt N p)) N) (left := fillL (fun p => lN (uR A has wt N p)) N) (r := fun i => (spR A w (cn l N) i : Int)) (s := fun i => nI (spP A w (cn l N) i)) hh (fun q hq d => by
      rw [fillI_lt hq, fillL_lt hq, eQ q hq, if_pos d, eR q hq d, lI_nat]
      exact ⟨rfl, rfl⟩) hR (spL A w (cn l N)) (by rw [hNn]; omega)
    rw [eL]
    by_cases d : l p = true
    · rw [if_pos d, (key.1 p hp d).1, ← ew]
      unfold spS
      rw [hoS_It]
    · rw [if_neg d, key.2.1 p hp d, fillI_lt hp, eQ p hp, if_neg d]
      rfl
end RS
