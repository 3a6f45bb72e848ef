/-! a snapshot out of a row alone; what a month does to the row -/
def mkA (f : Nat → Int32) (R N : Nat) : jM := (fun a j =>
  if a = 37 then (if j = 0 then nI R else if j = 1 then nI N else if j = 2 then f 3 else if j = 3 then f 4 else if j = 4 then f 6 else if j = 5 then f 5 else 0)
  else if a = 38 then f j else if a = 39 then f (8 + 20 * j + 0) else if a = 40 then f (8 + 20 * j + 1)
  else if 42 ≤ a ∧ a < 52 then wR f (a - 42) j
  else if a = 52 then f (8 + 20 * j + 2) else if a = 53 then f (8 + 20 * j + 3) else if a = 54 then f (8 + 20 * j + 4) else if a = 55 then f (8 + 20 * j + 5) else if a = 56 then f (8 + 20 * j + 6)
  else if a = 322 then (if j = 3 then nI R else if j = 4 then nI N else 0)
  else if a = 323 then f j else 0, fun _ _ => 0, fun _ _ => 0)
theorem mkA_R {f : Nat → Int32} {R N : Nat} (hR : R ≤ 6) (hN : N ≤ 10) (d : dG f R N) : xRk (mkA f R N) R N 0 := by
  have z : ∀ a j, a < 37 ∨ (56 < a ∧ a ≠ 322 ∧ a ≠ 323) → (mkA f R N).1 a j = 0 := fun a j h => by
    show (if a = 37 then _ else _) = _
    rw [if_neg (by omega), if_neg (by omega), if_neg (by omega), if_neg (by omega), if_neg (by omega), if_neg (by omega), if_neg (by omega), if_neg (by omega), if_neg (by omega), if_neg (by omega), if_neg (by omega), if_neg (by omega)]
  have e323 : (mkA f R N).1 323 = f := funext fun j => rfl
  have z0 : (0 : Int32) = nI 0 := rfl
  refine ⟨⟨⟨hR, hN⟩, ⟨rfl, rfl⟩, fun r _ => ?_, fun p _ => ?_⟩, ?_, ⟨⟨?_, rfl, by omega⟩, ⟨fun i => i, fun i hi => by omega, fun i j _ hj => by omega⟩, fun k hk => by omega⟩, ⟨0, 0, ⟨by omega, by omega⟩, ⟨?_, ?_, rfl⟩, fun q hq => by omega⟩, ⟨?_, ⟨0, by omega, ?_, rfl⟩, fun j _ => ?_⟩, ⟨0, by omega, ?_, rfl, fun j hj => by omega⟩, ?_, Or.inl ?_⟩
  · rw [z 32 r (by omega), z 325 r (by omega)]
  · rw [z 33 p (by omega), z 326 p (by omega)]
  · rw [e323]
    refine ⟨⟨⟨rfl, rfl, rfl, rfl, rfl, rfl⟩, fun j _ => rfl, fun p _ => ⟨rfl, rfl, rfl, rfl, rfl, rfl⟩, fun p hp => ⟨rfl, fun r hr => ?_⟩⟩, d, ⟨0, rfl, by omega, fun i hi => by omega⟩, fun k hk => by omega⟩
    show (mkA f R N).1 (37 + (5 + p)) r = wR f p r
    show (if 37 + (5 + p) = 37 then _ else _) = _
    rw [if_neg (by omega), if_neg (by omega), if_neg (by omega), if_neg (by omega), if_pos ⟨by omega, by omega⟩, show 37 + (5 + p) - 42 = p by omega]
  · rw [z 31 5 (by omega)]; rfl
  · rw [z 57 1 (by omega)]; rfl
  · rw [z 57 2 (by omega)]; rfl
  · exact funext fun j => by rw [z 3 j (by omega), z 346 j (by omega)]
  · rw [z 2 1 (by omega)]; rfl
  · rw [z 346 j (by omega)]
    exact ⟨by decide, by decide⟩
  · rw [z 320 1 (by omega)]; rfl
  · rw [z 1 9 (by omega)]; rfl
  · exact z 0 5 (by omega)
theorem mkA_f (f : Nat → Int32) (R N : Nat) : (mkA f R N).1 323 = f := funext fun _ => rfl
/-- the desk says what the row f says -/
def rRw (σ : dM) (f : Nat → Int32) (N M : Nat) : Prop := dk σ N M ∧ rDf σ f N M ∧ dG f M N
theorem rRw_D {σ : dM} {f : Nat → Int32} {N M : Nat} (h : rRw σ f N M) : rDs σ (mkA f M N) N M 0 := ⟨h.1, mkA_R (by have := h.1.1.2; omega) (by have := h.1.1.1; omega) h.2.2, h.2.1⟩
theorem rDs_R {σ : dM} {s0 : jM} {N M K : Nat} (h : rDs σ s0 N M K) : rRw σ (s0.1 323) N M := ⟨h.1, h.2.2, h.2.1.2.1.2.1⟩
/-- numbers that dG says nothing of -/
theorem dG_free {f f' : Nat → Int32} {R N : Nat} (hN : N ≤ 10) (d : dG f R N) (e : ∀ j, j ≠ 5 → j ≠ 6 → j ≠ 7 → (∀ p, j ≠ 8 + 20 * p + 4 ∧ j ≠ 8 + 20 * p + 6) → f' j = f j) (e5 : 0 ≤ f' 5 ∧ f' 5 ≤ 999) : dG f' R N := by
  obtain ⟨⟨d1, d2, d3, d4, d5⟩, d6, d7, d8, d9, d10, d11⟩ := d
  have g : ∀ p w, w < 20 → w ≠ 4 → w ≠ 6 → f' (8 + 20 * p + w) = f (8 + 20 * p + w) := fun p w h1 h2 h3 => e _ (by omega) (by omega) (by omega) (fun q => ⟨by omega, by omega⟩)
  have l : ∀ j, j < 5 → f' j = f j := fun j hj => e j (by omega) (by omega) (by omega) (fun q => ⟨by omega, by omega⟩)
  refine ⟨⟨fun p hp r hr => ?_, fun p hp => ?_, ?_, ?_, ?_⟩, e5, fun p hp r hr => ?_, fun p hp => ?_, fun p hp => ?_, fun p hp => ?_, ?_⟩
  · rw [g p (7 + r) (by omega) (by omega) (by omega)]; exact d1 p hp r hr
  · rw [g p 1 (by omega) (by omega) (by omega)]; exact d2 p hp
  · rw [l 3 (by omega)]; exact d3
  · rw [l 4 (by omega)]; exact d4
  · rw [l 1 (by omega)]; exact d5
  · rw [g p (13 + r) (by omega) (by omega) (by omega), g p (7 + r) (by omega) (by omega) (by omega)]; exact d7 p hp r hr
  · rw [g p 2 (by omega) (by omega) (by omega), g p 3 (by omega) (by omega) (by omega), g p 0 (by omega) (by omega) (by omega)]; exact d8 p hp
  · rw [g p 3 (by omega) (by omega) (by omega)]; exact d9 p hp
  · rw [g p 5 (by omega) (by omega) (by omega)]; exact d10 p hp
  · rw [cn_congr N (fun j hj => by
      unfold dL
      rw [g j 0 (by omega) (by omega) (by omega)] : ∀ j, j < N → dL f' j = dL f j)]
    exact d11
/-- the plans of the month -/
theorem ps1_fu (s : jM) (k : Nat) (f : Nat → Int32) : ps1 s k f = f ∨ ((f 7 >>> (nI k &&& 31)) &&& 1 = 0 ∧ s.1 328 k = f 5 ∧ ps1 s k f = fun j => if j = 7 then f 7 ||| (1 <<< (nI k &&& 31)) else fu f (8 + 20 * (s.1 327 k).toNatClampNeg + 1) (s.1 329 k) j) := by
  unfold ps1
  by_cases c : (f 7 >>> (nI k &&& 31)) &&& 1 = 0 ∧ s.1 328 k = f 5
  · rw [if_pos c]
    exact Or.inr ⟨c.1, c.2, rfl⟩
  · rw [if_neg c]
    exact Or.inl rfl
theorem dG_ps {s : jM} {R N K : Nat} (hs : xRk s R N K) {f : Nat → Int32} (d : dG f R N) : ∀ k, k ≤ K → dG (psI s f k) R N
  | 0, _ => d
  | k + 1, hk => by
    have ih := dG_ps hs d k (by omega)
    have n10 := hs.1.1.2
    obtain ⟨⟨p, p1, p2⟩, -, b1, b2⟩ := hs.2.2.1.2.2 k (by omega)
    rcases ps1_fu s k (psI s f k) with e | ⟨-, -, e⟩
    · show dG (ps1 s k (psI s f k)) R N
      rw [e]; exact ih
    · show dG (ps1 s k (psI s f k)) R N
      rw [e]
      have ep : (s.1 327 k).toNatClampNeg = p := by rw [p2, nI_clamp (by omega)]
      have q := dG_fu (k := 8 + 20 * (s.1 327 k).toNatClampNeg + 1) (x := s.1 329 k) n10 ih (Or.inr ⟨p, by omega, by rw [ep]⟩) (dI_fu ih.1 (Or.inr (Or.inr (Or.inr ⟨⟨p, by omega, by rw [ep]⟩, b1, b2⟩))))
      refine dG_free n10 q (fun j h5 h6 h7 _ => if_neg h7) ?_
      rw [if_neg (by omega)]
      exact q.2.1
/-- an agreement -/
theorem sR_rw (s : jM) {R N K : Nat} (hs : xRk s R N K) (f : Nat → Int32) : sR (mkA f R N) (rw3 s f) := ⟨by rw [mkA_f]; exact funext fun j => rw3_sf s f j, by rw [rw3_of _ _ (by omega)]; exact hs.1.2.1.1, by rw [rw3_of _ _ (by omega)]; exact hs.1.2.1.2⟩
theorem paF_A {s : jM} {R N K : Nat} (hs : xRk s R N K) (f : Nat → Int32) : paF s f = if f 2 = 1 ∧ (dC (mkA f R N)).isSome = true then agR (mCh (mkA f R N)) (mPy (mkA f R N)) f N else f := by
  have e := sR_rw s hs f
  unfold paF
  rw [sR_C e, (sR_Ch e).1, (sR_Ch e).2, (xv_n hs).2.2.1]
theorem dG_pa {s : jM} {R N K : Nat} (hs : xRk s R N K) {f : Nat → Int32} (d : dG f R N) : dG (paF s f) R N := by
  rw [paF_A hs]
  split
  · have h := xv_ag (mkA_R hs.1.1.1 hs.1.1.2 d)
    rw [mkA_f] at h
    exact dG_ag hs.1.1.1 hs.1.1.2 d h
  · exact d
theorem dG_pm {s : jM} {R N K : Nat} (hs : xRk s R N K) {f : Nat → Int32} (d : dG f R N) (h5 : 0 ≤ f 5 + 1 ∧ f 5 + 1 ≤ 999) : dG (pmF s f) R N ∧ pmF s f 5 = f 5 + 1 := by
  have n3 := (xv_n hs).2.2.1
  have n5 := (xv_n hs).2.2.2.2.1
  have d1 := dG_ps hs d K (Nat.le_refl _)
  have d2 := dG_pa hs d1
  have e5 : paF s (psI s f K) 5 = f 5 := by
    unfold paF
    split
    · rw [agX_lo (by omega), psX_o s f (by omega) (fun p => by omega)]
    · rw [psX_o s f (by omega) (fun p => by omega)]
  have e : pmF s f 5 = f 5 + 1 := by
    unfold pmF peF
    rw [if_pos rfl, clI_lo _ (by omega), n5, e5]
  refine ⟨dG_free hs.1.1.2 d2 (fun j h1 h2 h3 h4 => ?_) (by rw [e]; exact h5), e⟩
  unfold pmF peF
  rw [if_neg h1, if_neg h2, n5, n3]
  by_cases c : j < 8
  · exact clI_lo _ c N
  · obtain ⟨p, w, hw, rfl⟩ : ∃ p w, w < 20 ∧ j = 8 + 20 * p + w := ⟨(j - 8) / 20, (j - 8) % 20, by omega, by omega⟩
    rw [clI_at _ hw, if_neg (fun q => (h4 p).2 (by rw [q.2.2])), if_neg (fun q => (h4 p).1 (by rw [q.2.2]))]
