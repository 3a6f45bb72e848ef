/-! the reference's choice is the best of all choices too -/
def qPh (l : Nat → Bool) (N i : Nat) : qC → zC
  | none => none
  | some a => some (a.1, a.2.1, cod (fun p => if l p = true ∧ i ≤ cn l p then a.2.2 (cn l p) + 1 else 0) N)
def pls (l : Nat → Bool) (N : Nat) : Nat → Nat → List Nat
  | _, 0 => []
  | i, d + 1 => qpl l N i :: pls l N (i + 1) d
theorem cod_0 {h : Nat → Nat} : ∀ (n : Nat), (∀ j, j < n → h j = 0) → cod h n = 0
  | 0, _ => rfl
  | n + 1, e => by
    simp only [cod]
    rw [cod_0 n (fun j hj => e j (by omega)), e n (by omega)]
section QT
variable {W : Nat → Nat → Option Nat} {R N : Nat} {l : Nat → Bool}
theorem qF_d (hR : R ≤ 6) {d i t r : Nat} (hd : i + (d + 1) = cn l N) (hr : r < R) {b : Nat × Nat × (Nat → Nat)} (h : qF W R d i t r = some b) : b.2.2 i = r ∧ ∀ p, p < N → (if l p = true ∧ i ≤ cn l p then b.2.2 (cn l p) + 1 else 0) < 8 := by
  obtain ⟨v, c, -, -, h3, rfl⟩ := qF_some h
  obtain ⟨h4, -⟩ := qT_mem d (i + 1) _ c h3
  have h5 := ((vA_iff d (i + 1) _).mp h4).1
  refine ⟨if_pos rfl, fun p hp => ?_⟩
  dsimp only
  by_cases q : l p = true ∧ i ≤ cn l p
  · rw [if_pos q]
    have := cn_lt q.1 hp
    by_cases e : cn l p = i
    · rw [if_pos e]; omega
    · rw [if_neg e]
      have := (h5 (cn l p) (by omega) (by omega)).1
      omega
  · rw [if_neg q]; omega
theorem qPh_R (hR : R ≤ 6) {d i t : Nat} (hd : i + (d + 1) = cn l N) : ∀ (n : Nat), n ≤ R → qPh l N i (qR (qF W R d i t) n) = zR (fun r => qPh l N i (qF W R d i t r)) n
  | 0, _ => rfl
  | n + 1, hn => by
    simp only [qR, zR]
    rw [← qPh_R hR hd n (by omega)]
    rcases ha : qR (qF W R d i t) n with _ | a
    · rfl
    rcases hb : qF W R d i t n with _ | b
    · rw [qB_none]; exact (zB_n _).symm
    rw [qB_some]
    show _ = zB (some _) (some _)
    rw [zB_s]
    dsimp only
    rcases Nat.lt_trichotomy a.1 b.1 with k | k | k
    · rw [if_pos k, if_pos k]; rfl
    · obtain ⟨r0, h1, c, h2, -, h4, -⟩ := qR_is n a ha
      obtain ⟨d1, d2⟩ := qF_d (l := l) (N := N) hR hd (by omega) h2
      obtain ⟨d3, -⟩ := qF_d (l := l) (N := N) hR hd (by omega) hb
      rw [h4] at d1 d2
      obtain ⟨x1, x2, x3⟩ := qpl_is (p := l) (N := N) (i := i) (by omega)
      have hlt := cod_lt (h := fun p => if l p = true ∧ i ≤ cn l p then a.2.2 (cn l p) + 1 else 0) (h' := fun p => if l p = true ∧ i ≤ cn l p then b.2.2 (cn l p) + 1 else 0) (p := qpl l N i) (fun j hj => by
        by_cases q : l j = true
        · have := cn_lt q hj
          rw [if_neg (by omega), if_neg (by omega)]
        · rw [if_neg (fun z => q z.1), if_neg (fun z => q z.1)]) (by
        rw [if_pos ⟨by assumption, by omega⟩, if_pos ⟨by assumption, by omega⟩, x3, d1, d3]
        omega) N x2 d2
      rw [if_neg (by omega), if_pos k, if_neg (by omega), if_neg (by omega)]
      show some (a.1, a.2.1 + b.2.1, _) = _
      rw [Nat.min_eq_left (Nat.le_of_lt hlt)]
    · rw [if_neg (by omega), if_neg (by omega), if_neg (by omega), if_pos k]; rfl
theorem qPh_S {i : Nat} (hi : i < cn l N) (v r : Nat) (x : qC) : qPh l N i (qS v i r x) = zS v ((r + 1) * 8 ^ (N - 1 - qpl l N i)) (qPh l N (i + 1) x) := by
  rcases x with _ | a
  · rfl
  obtain ⟨x1, x2, x3⟩ := qpl_is (p := l) (N := N) (i := i) hi
  show some (a.1 + v, a.2.1, _) = some (a.1 + v, a.2.1, _ + _)
  have h0 : (fun p => if l p = true ∧ i + 1 ≤ cn l p then a.2.2 (cn l p) + 1 else 0) (qpl l N i) = 0 := by
    dsimp only
    rw [if_neg (by omega)]
  have k : cod (fun j => if j = qpl l N i then r + 1 else (if l j = true ∧ i + 1 ≤ cn l j then a.2.2 (cn l j) + 1 else 0)) N = cod (fun p => if l p = true ∧ i + 1 ≤ cn l p then a.2.2 (cn l p) + 1 else 0) N + (r + 1) * 8 ^ (N - 1 - qpl l N i) := cod_up (h := fun p => if l p = true ∧ i + 1 ≤ cn l p then a.2.2 (cn l p) + 1 else 0) (p := qpl l N i) (x := r + 1) h0 N x2
  show _ = some (a.1 + v, a.2.1, cod (fun p => if l p = true ∧ i + 1 ≤ cn l p then a.2.2 (cn l p) + 1 else 0) N + (r + 1) * 8 ^ (N - 1 - qpl l N i))
  rw [← k]
  refine congrArg some (congrArg (fun z => (a.1 + v, a.2.1, z)) (cod_cg N (fun p hp => ?_)))
  dsimp only
  by_cases c : p = qpl l N i
  · subst c
    rw [if_pos rfl, if_pos ⟨by assumption, by omega⟩, if_pos (by assumption)]
  · rw [if_neg c]
    by_cases q : l p = true ∧ i ≤ cn l p
    · have e : cn l p ≠ i := fun z => c (by rw [← z, qpl_cn q.1 hp])
      rw [if_pos q, if_neg e, if_pos ⟨q.1, by omega⟩]
    · rw [if_neg q, if_neg (fun z => q ⟨z.1, by omega⟩)]
theorem qT_T (hR : R ≤ 6) : ∀ (d i t : Nat), i + d = cn l N → qPh l N i (qT W R d i t) = zT (fun p r => W (cn l p) r) (fun p => 8 ^ (N - 1 - p)) R (pls l N i d) t
  | 0, i, t, hd => by
    show some (0, 1, _) = some (0, 1, 0)
    rw [cod_0 N (fun p hp => ?_)]
    by_cases q : l p = true
    · have := cn_lt q hp
      rw [if_neg (by omega)]
    · rw [if_neg (fun z => q z.1)]
  | d + 1, i, t, hd => by
    rw [qT_s, qPh_R hR hd R (Nat.le_refl _)]
    refine zR_cg R (fun r _ => ?_)
    obtain ⟨x1, x2, x3⟩ := qpl_is (p := l) (N := N) (i := i) (by omega)
    unfold qF
    dsimp only
    rw [x3]
    cases W i r with
    | none => rfl
    | some v =>
      dsimp only
      by_cases c : t.testBit r = true
      · rw [if_pos c, if_pos c]; rfl
      · rw [if_neg c, if_neg c, qPh_S (by omega), qT_T hR d (i + 1) _ (by omega)]
end QT
/-! the lists are the same persons -/
theorem pls_app (l : Nat → Bool) (N : Nat) : ∀ (d i : Nat), pls l N i (d + 1) = pls l N i d ++ [qpl l N (i + d)]
  | 0, _ => rfl
  | d + 1, i => by
    show qpl l N i :: pls l N (i + 1) (d + 1) = qpl l N i :: (pls l N (i + 1) d ++ [qpl l N (i + (d + 1))])
    rw [pls_app l N d (i + 1), show i + 1 + d = i + (d + 1) by omega]
theorem lvD_pls (l : Nat → Bool) (N : Nat) : ∀ (n : Nat), n ≤ N → (lvD l n).reverse = pls l N 0 (cn l n)
  | 0, _ => rfl
  | n + 1, hn => by
    have ih := lvD_pls l N n (by omega)
    simp only [lvD, cn]
    by_cases c : l n = true
    · rw [if_pos c, if_pos c, List.reverse_cons, ih, pls_app, Nat.zero_add, qpl_cn c (by omega)]
    · rw [if_neg c, if_neg c, ih]
      rfl
/-- the best choice of the reference, as the law's -/
theorem qT_law {W : Nat → Nat → Option Nat} {R N : Nat} {l : Nat → Bool} (hR : R ≤ 6) : qPh l N 0 (qT W R (cn l N) 0 0) = zT (fun p r => W (cn l p) r) (fun p => 8 ^ (N - 1 - p)) R (lvD l N) 0 := by
  rw [qT_T hR (cn l N) 0 0 (Nat.zero_add _), ← lvD_pls l N N (Nat.le_refl _)]
  exact zT_perm _ _ _ (List.reverse_perm _) 0
