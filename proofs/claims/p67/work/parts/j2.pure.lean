/-! the law's choose is the best of all choices -/
def dgt (x : Int32) : Nat := (x + 1).toNatClampNeg
/-- a digit: nobody's room, or one of the flat's -/
def dgO (M : Nat) (x : Int32) : Prop := x = -1 ∨ ∃ r, r < M ∧ x = nI r
theorem dgt_n : dgt (-1) = 0 := by decide
theorem dgt_r {r : Nat} (h : r < 1000) : dgt (nI r) = r + 1 := by
  unfold dgt
  rw [show (1 : Int32) = nI 1 from rfl, nI_add, nI_clamp (by omega)]
theorem dgt_lt {M : Nat} {x : Int32} (hM : M ≤ 6) (h : dgO M x) : dgt x < 8 := by
  rcases h with rfl | ⟨r, hr, rfl⟩
  · decide
  · rw [dgt_r (by omega)]; omega
theorem dgt_inj {M : Nat} {x y : Int32} (hM : M ≤ 6) (h : dgO M x) (k : dgO M y) (e : dgt x = dgt y) : x = y := by
  rcases h with rfl | ⟨r, hr, rfl⟩
  · rcases k with rfl | ⟨q, hq, rfl⟩
    · rfl
    · rw [dgt_n, dgt_r (by omega)] at e; omega
  · rcases k with rfl | ⟨q, hq, rfl⟩
    · rw [dgt_n, dgt_r (by omega)] at e; omega
    · rw [dgt_r (by omega), dgt_r (by omega)] at e
      rw [show r = q by omega]
theorem dgt_le {M : Nat} {x y : Int32} (hM : M ≤ 6) (h : dgO M x) (k : dgO M y) : x < y ↔ dgt x < dgt y := by
  rcases h with rfl | ⟨r, hr, rfl⟩
  · rcases k with rfl | ⟨q, hq, rfl⟩
    · exact ⟨fun z => absurd z (by decide), fun z => absurd z (by omega)⟩
    · rw [dgt_n, dgt_r (by omega)]
      refine ⟨fun _ => by omega, fun _ => ?_⟩
      rw [Int32.lt_iff_toInt_lt, nI_toInt (by omega), show (-1 : Int32).toInt = -1 by decide]
      omega
  · rcases k with rfl | ⟨q, hq, rfl⟩
    · rw [dgt_n]
      refine ⟨fun z => ?_, fun z => by omega⟩
      rw [Int32.lt_iff_toInt_lt, nI_toInt (by omega), show (-1 : Int32).toInt = -1 by decide] at z
      omega
    · rw [dgt_r (by omega), dgt_r (by omega), nI_ltI (by omega) (by omega)]
      omega
theorem lxl_cod {M : Nat} (hM : M ≤ 6) {f h : Nat → Int32} : ∀ (d k : Nat), (∀ p, p < k + d → dgO M (f p) ∧ dgO M (h p)) → (∀ p, p < k → f p = h p) → (lxl f h d k = true ↔ cod (fun p => dgt (f p)) (k + d) < cod (fun p => dgt (h p)) (k + d))
  | 0, k, _, e => by
    have : cod (fun p => dgt (f p)) (k + 0) = cod (fun p => dgt (h p)) (k + 0) := cod_cg _ (fun p hp => by rw [e p (by omega)])
    rw [this]
    exact ⟨fun z => (by cases z), fun z => absurd z (Nat.lt_irrefl _)⟩
  | d + 1, k, o, e => by
    unfold lxl
    have e9 : k + (d + 1) = k + 1 + d := by omega
    by_cases c : f k = h k
    · rw [if_pos c, e9]
      refine lxl_cod hM d (k + 1) (fun p hp => o p (by omega)) (fun p hp => ?_)
      by_cases c2 : p = k
      · rw [c2]; exact c
      · exact e p (by omega)
    · rw [if_neg c, decide_eq_true_eq]
      obtain ⟨o1, o2⟩ := o k (by omega)
      rw [dgt_le hM o1 o2]
      refine ⟨fun z => cod_lt (fun j hj => by rw [e j hj]) z _ (by omega) (fun j hj => dgt_lt hM (o j (by omega)).1), fun z => ?_⟩
      have hne : dgt (f k) ≠ dgt (h k) := fun q => c (dgt_inj hM o1 o2 q)
      by_cases c2 : dgt (f k) < dgt (h k)
      · exact c2
      · have := cod_lt (h := fun p => dgt (h p)) (h' := fun p => dgt (f p)) (fun j hj => by rw [e j hj]) (p := k) (by omega) (k + (d + 1)) (by omega) (fun j hj => dgt_lt hM (o j (by omega)).2)
        omega
/-- what stands of a choice so far -/
def chW (N M : Nat) (X : Nat) (s : chT) : Prop := match s.2.2.1 with
  | none => s.1 = -1 ∧ s.2.1 = 0
  | some f => ∃ S C : Nat, s.1 = nI S ∧ s.2.1 = nI C ∧ S ≤ 1000000 ∧ 1 ≤ C ∧ C ≤ X ∧ ∀ p, p < N → dgO M (f p)
def chC (N : Nat) (s : chT) : zC := match s.2.2.1 with
  | none => none
  | some f => some (s.1.toNatClampNeg, s.2.1.toNatClampNeg, cod (fun p => dgt (f p)) N)
theorem chW_le {N M X Y : Nat} {s : chT} (h : chW N M X s) (e : X ≤ Y) : chW N M Y s := by
  unfold chW at h ⊢
  split
  · rename_i q; rw [q] at h; exact h
  · rename_i f q
    rw [q] at h
    obtain ⟨S, C, h1, h2, h3, h4, h5, h6⟩ := h
    exact ⟨S, C, h1, h2, h3, h4, by omega, h6⟩
/-- a choice that is whole -/
theorem chE_T {N M X I : Nat} {s : chT} (hM : M ≤ 6) (h : chW N M X s) (hX : X ≤ 100000) (hI : I ≤ 1000000) (o : ∀ p, p < N → dgO M (s.2.2.2 p)) : chW N M (X + 1) (chE N (nI I) s) ∧ (chE N (nI I) s).2.2.2 = s.2.2.2 ∧ chC N (chE N (nI I) s) = zB (chC N s) (some (I, 1, cod (fun p => dgt (s.2.2.2 p)) N)) := by
  obtain ⟨S9, C9, b, c⟩ := s
  dsimp only at o
  cases b with
  | none =>
    obtain ⟨h1, h2⟩ := h
    dsimp only at h1 h2
    subst h1 h2
    have l : ¬ nI I < -1 := by
      rw [Int32.lt_iff_toInt_lt, nI_toInt (by omega), show (-1 : Int32).toInt = -1 by decide]
      omega
    have l2 : (-1 : Int32) < nI I := by
      rw [Int32.lt_iff_toInt_lt, nI_toInt (by omega), show (-1 : Int32).toInt = -1 by decide]
      omega
    have e : chE N (nI I) (-1, 0, none, c) = (nI I, 1, some c, c) := by
      unfold chE
      rw [if_neg l]
      dsimp only
      rw [if_pos l2]
    rw [e]
    refine ⟨⟨I, 1, rfl, rfl, hI, Nat.le_refl _, by omega, o⟩, rfl, ?_⟩
    show some ((nI I).toNatClampNeg, (1 : Int32).toNatClampNeg, _) = zB none _
    rw [nI_clamp (by omega), zB_0]
    rfl
  | some f =>
    obtain ⟨S, C, h1, h2, h3, h4, h5, h6⟩ := h
    dsimp only at h1 h2 h6
    subst h1 h2
    have hL := lxl_cod hM (f := c) (h := f) N 0 (fun p hp => ⟨o p (by omega), h6 p (by omega)⟩) (fun p hp => by omega)
    rw [Nat.zero_add] at hL
    have hc : chC N (nI S, nI C, some f, c) = some (S, C, cod (fun p => dgt (f p)) N) := by
      show some ((nI S).toNatClampNeg, (nI C).toNatClampNeg, _) = _
      rw [nI_clamp (by omega), nI_clamp (by omega)]
    rw [hc, zB_s]
    dsimp only
    rcases Nat.lt_trichotomy S I with k | k | k
    · have l : ¬ nI I < nI S := nI_nlt (by omega) (by omega)
      have l2 : nI S < nI I := nI_lt k (by omega)
      have e : chE N (nI I) (nI S, nI C, some f, c) = (nI I, 1, some c, c) := by
        unfold chE
        rw [if_neg l]
        dsimp only
        rw [if_pos l2, if_pos rfl]
      rw [e, if_pos k]
      refine ⟨⟨I, 1, rfl, rfl, hI, Nat.le_refl _, by omega, o⟩, rfl, ?_⟩
      show some ((nI I).toNatClampNeg, (1 : Int32).toNatClampNeg, _) = _
      rw [nI_clamp (by omega)]
      rfl
    · subst k
      have l : ¬ nI S < nI S := nI_nlt (by omega) (by omega)
      have l3 : ¬ nI C + 1 = 1 := fun q => by
        rw [show (1 : Int32) = nI 1 from rfl, nI_add] at q
        have := (nI_eq (by omega) (by omega)).mp q
        omega
      have eC : nI C + 1 = nI (C + 1) := by rw [show (1 : Int32) = nI 1 from rfl, nI_add]
      have e : chE N (nI S) (nI S, nI C, some f, c) = (nI S, nI (C + 1), if lxl c f N 0 = true then some c else some f, c) := by
        unfold chE
        rw [if_neg l]
        dsimp only
        rw [if_neg l, if_neg l3, eC]
      rw [e, if_neg (Nat.lt_irrefl _), if_neg (Nat.lt_irrefl _)]
      by_cases q : lxl c f N 0 = true
      · rw [if_pos q]
        refine ⟨⟨S, C + 1, rfl, rfl, h3, by omega, by omega, o⟩, rfl, ?_⟩
        show some ((nI S).toNatClampNeg, (nI (C + 1)).toNatClampNeg, _) = _
        have := hL.mp q
        rw [nI_clamp (by omega), nI_clamp (by omega), Nat.min_eq_right (by omega)]
      · rw [if_neg q]
        refine ⟨⟨S, C + 1, rfl, rfl, h3, by omega, by omega, h6⟩, rfl, ?_⟩
        show some ((nI S).toNatClampNeg, (nI (C + 1)).toNatClampNeg, _) = _
        have : ¬ _ := fun z => q (hL.mpr z)
        rw [nI_clamp (by omega), nI_clamp (by omega), Nat.min_eq_left (by omega)]
    · have l : nI I < nI S := nI_lt k (by omega)
      have e : chE N (nI I) (nI S, nI C, some f, c) = (nI S, nI C, some f, c) := by
        unfold chE
        rw [if_pos l]
      rw [e, if_neg (by omega), if_pos k]
      exact ⟨⟨S, C, rfl, rfl, h3, h4, by omega, h6⟩, rfl, hc⟩
