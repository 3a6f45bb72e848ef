/-! changes: what is kept for undo, on both sides -/
theorem nI10 {c : Nat} (h : c ≤ 10) : nI c = 10 ↔ c = 10 := by
  rw [show (10 : Int32) = nI 10 from rfl, nI_eq (by omega) (by omega)]
theorem mRem_at {σ : jM} {c : Nat} (e : σ.1 322 2 = nI c) (hc : c ≤ 10) : (mRem σ).1 322 2 = nI (min (c + 1) 10) ∧ (∀ a j, a ≠ 324 → ¬ (a = 322 ∧ j = 2) → (mRem σ).1 a j = σ.1 a j) ∧ ∀ q, q < min (c + 1) 10 → ∀ j, j < 208 → (mRem σ).1 324 (q * 208 + j) = if c < 10 then (if q = c then σ.1 323 j else σ.1 324 (q * 208 + j)) else (if q = 9 then σ.1 323 j else σ.1 324 ((q + 1) * 208 + j)) := by
  unfold mRem
  by_cases c10 : c = 10
  · subst c10
    rw [if_pos (by rw [e]; rfl)]
    refine ⟨by rw [jup_1, if_pos ⟨rfl, rfl⟩]; rfl, fun a j h1 h2 => ?_, fun q hq j hj => ?_⟩
    · rw [jup_1, if_neg h2]
      unfold mCp
      dsimp only
      rw [if_neg (fun z => h1 z.1), jup_1, if_neg h2]
      unfold mSh
      dsimp only
      rw [if_neg (fun z => h1 z.1)]
    · rw [jup_1, if_neg (by omega), if_neg (by omega)]
      unfold mCp
      dsimp only
      by_cases q9 : q = 9
      · rw [if_pos (by omega), if_pos q9, jup_1, if_neg (by omega)]
        unfold mSh
        dsimp only
        rw [if_neg (by omega)]
        exact congrArg (σ.1 323) (by omega)
      · rw [if_neg (by omega), if_neg q9, jup_1, if_neg (by omega)]
        unfold mSh
        dsimp only
        rw [if_pos (by omega)]
        exact congrArg (σ.1 324) (by omega)
  · have hn : ¬ σ.1 322 2 = 10 := by
      rw [e, nI10 hc]
      exact c10
    have hs : mHs σ = c := by
      show (σ.1 322 2).toNatClampNeg = c
      rw [e, nI_clamp (by omega)]
    rw [if_neg hn, hs, e]
    refine ⟨?_, fun a j h1 h2 => ?_, fun q hq j hj => ?_⟩
    · rw [jup_1, if_pos ⟨rfl, rfl⟩, show (1 : Int32) = nI 1 from rfl, nI_add]
      congr 1
      omega
    · rw [jup_1, if_neg h2]
      unfold mCp
      dsimp only
      rw [if_neg (fun z => h1 z.1)]
    · rw [jup_1, if_neg (by omega), if_pos (by omega)]
      unfold mCp
      dsimp only
      by_cases qc : q = c
      · rw [if_pos (by subst qc; omega), if_pos qc]
        exact congrArg (σ.1 323) (by omega)
      · rw [if_neg (fun z => by
          have h1 := z.2.1
          have h2 := z.2.2
          rcases Nat.lt_or_gt_of_ne qc with w | w <;> omega), if_neg qc]
theorem mRem_cg {σ τ : jM} (e2 : τ.1 322 2 = σ.1 322 2) (e3 : τ.1 323 = σ.1 323) (e4 : τ.1 324 = σ.1 324) : (∀ j, (mRem τ).1 324 j = (mRem σ).1 324 j) ∧ (mRem τ).1 322 2 = (mRem σ).1 322 2 := by
  unfold mRem
  have hs : mHs τ = mHs σ := by
    show (τ.1 322 2).toNatClampNeg = _
    rw [e2]
  rw [e2, hs]
  by_cases c : σ.1 322 2 = 10
  · rw [if_pos c, if_pos c]
    refine ⟨fun j => ?_, ?_⟩
    · rw [jup_1, jup_1]
      unfold mCp
      dsimp only
      rw [jup_1, jup_1, jup_1, jup_1]
      unfold mSh
      dsimp only
      rw [e3, e4]
    · rw [jup_1, jup_1, if_pos ⟨rfl, rfl⟩, if_pos ⟨rfl, rfl⟩]
  · rw [if_neg c, if_neg c]
    refine ⟨fun j => ?_, ?_⟩
    · rw [jup_1, jup_1]
      unfold mCp
      dsimp only
      rw [e3, e4]
    · rw [jup_1, jup_1, if_pos ⟨rfl, rfl⟩, if_pos ⟨rfl, rfl⟩]
theorem xv_his {σ : jM} {R N K : Nat} (h : xRk σ R N K) : ∃ h0 c0, (h0 ≤ 9 ∧ c0 ≤ 10) ∧ hiN σ = h0 ∧ hiC σ = c0 ∧ σ.1 57 1 = nI h0 ∧ σ.1 57 2 = nI c0 ∧ σ.1 322 2 = nI c0 ∧ hiO σ ∧ ∀ q, q < c0 → rowR σ (59 + 20 * ((h0 + 10 - c0 + q) % 10)) (fun j => σ.1 324 (q * 208 + j)) R N K := by
  obtain ⟨h0, c0, ⟨hb, cb⟩, ⟨h1, h2, h3⟩, h4⟩ := h.2.2.2.1
  refine ⟨h0, c0, ⟨hb, cb⟩, by unfold hiN; rw [h1, nI_clamp (by omega)], by unfold hiC; rw [h2, nI_clamp (by omega)], h1, h2, h3, ?_, h4⟩
  unfold hiO
  rw [h1, h2]
  exact ⟨⟨(NL_0.1 _ (by omega)).mpr (Nat.zero_le _), (NL_9.2.2.1 _ (by omega)).mpr hb⟩, (NL_0.1 _ (by omega)).mpr (Nat.zero_le _), (NL_10.2.2.1 _ (by omega)).mpr cb⟩
theorem his_push {σ ρ υ : jM} {R N K : Nat} (h : xRk σ R N K) (S : scP σ ρ) (e57 : ∀ a j, 57 ≤ a → a ≤ 258 → υ.1 a j = ρ.1 a j) (eM : ∀ j, υ.1 324 j = (mRem σ).1 324 j) (e2 : υ.1 322 2 = (mRem σ).1 322 2) (e35 : υ.1 35 = σ.1 35) (e328 : υ.1 328 = σ.1 328) : hisR υ R N K := by
  obtain ⟨h0, c0, ⟨hb, cb⟩, hN, hC, h1, h2, h3, -, h4⟩ := xv_his h
  obtain ⟨r6, n10⟩ := h.1.1
  obtain ⟨m1, -, m3⟩ := mRem_at h3 cb
  obtain ⟨s1, ⟨s2, s3⟩, s4, s5, s6⟩ := S
  rw [hN] at s1 s2 s3 s4
  rw [hC] at s5
  refine ⟨(h0 + 1) % 10, min (c0 + 1) 10, ⟨by omega, by omega⟩, ⟨by rw [e57 57 1 (by omega) (by omega)]; exact s4, by rw [e57 57 2 (by omega) (by omega)]; exact s5, by rw [e2]; exact m1⟩, fun q hq => ?_⟩
  have own : rowR υ (59 + 20 * h0) (σ.1 323) R N K := rowR_cg r6 n10 (fun _ _ => rfl) (fun j hj => by rw [e57 _ _ (by omega) (by omega)]; exact s2 j hj) (fun k k1 k2 k3 j hj => by rw [e57 _ _ (by omega) (by omega)]; exact s3 k k1 k2 k3 j hj) (fun i _ => by rw [e35]) (fun i _ => by rw [e328]) h.2.1
  have old : ∀ (i : Nat) (f : Nat → Int32), i ≤ 9 → i ≠ h0 → rowR σ (59 + 20 * i) f R N K → rowR υ (59 + 20 * i) f R N K := fun i f hi hne r => by
    have fr : ∀ a j, 59 + 20 * i ≤ a → a ≤ 78 + 20 * i → υ.1 a j = σ.1 a j := fun a j a1 a2 => by
      rw [e57 a j (by omega) (by omega)]
      refine s1.2.2 a j ?_
      unfold aSg
      simp only [jble, Bool.or_eq_false_iff, Bool.and_eq_false_iff, beq_eq_false_iff_ne, decide_eq_false_iff_not]
      rcases Nat.lt_or_gt_of_ne hne with w | w <;> omega
    exact rowR_cg r6 n10 (fun _ _ => rfl) (fun j hj => fr _ _ (by omega) (by omega)) (fun k k1 k2 k3 j hj => fr _ _ (by omega) (by omega)) (fun i _ => by rw [e35]) (fun i _ => by rw [e328]) r
  by_cases c10 : c0 < 10
  · by_cases qc : q = c0
    · have ei : ((h0 + 1) % 10 + 10 - min (c0 + 1) 10 + q) % 10 = h0 := by omega
      rw [ei]
      refine rowR_cg r6 n10 (f := σ.1 323) (fun j hj => ?_) (fun _ _ => rfl) (fun _ _ _ _ _ _ => rfl) (fun _ _ => rfl) (fun _ _ => rfl) own
      rw [eM, m3 q hq j hj, if_pos c10, if_pos qc]
    · have ei : ((h0 + 1) % 10 + 10 - min (c0 + 1) 10 + q) % 10 = (h0 + 10 - c0 + q) % 10 := by omega
      rw [ei]
      refine rowR_cg r6 n10 (f := fun j => σ.1 324 (q * 208 + j)) (fun j hj => ?_) (fun _ _ => rfl) (fun _ _ _ _ _ _ => rfl) (fun _ _ => rfl) (fun _ _ => rfl) (old _ _ (by omega) (by omega) (h4 q (by omega)))
      rw [eM, m3 q hq j hj, if_pos c10, if_neg qc]
  · have c10' : c0 = 10 := by omega
    subst c10'
    by_cases q9 : q = 9
    · have ei : ((h0 + 1) % 10 + 10 - min (10 + 1) 10 + q) % 10 = h0 := by omega
      rw [ei]
      refine rowR_cg r6 n10 (f := σ.1 323) (fun j hj => ?_) (fun _ _ => rfl) (fun _ _ _ _ _ _ => rfl) (fun _ _ => rfl) (fun _ _ => rfl) own
      rw [eM, m3 q hq j hj, if_neg c10, if_pos q9]
    · have ei : ((h0 + 1) % 10 + 10 - min (10 + 1) 10 + q) % 10 = (h0 + 10 - 10 + (q + 1)) % 10 := by omega
      rw [ei]
      refine rowR_cg r6 n10 (f := fun j => σ.1 324 ((q + 1) * 208 + j)) (fun j hj => ?_) (fun _ _ => rfl) (fun _ _ _ _ _ _ => rfl) (fun _ _ => rfl) (fun _ _ => rfl) (old _ _ (by omega) (by omega) (h4 (q + 1) (by omega)))
      rw [eM, m3 q hq j hj, if_neg c10, if_neg q9]
/-- all that counts but the flat, the row and what is kept -/
def xCo (a j : Nat) : Prop := xC a j = true ∧ ¬ (37 ≤ a ∧ a ≤ 258) ∧ a ≠ 323 ∧ a ≠ 324 ∧ ¬ (a = 322 ∧ j = 2)
/-- the same but for flat, row and history -/
theorem xR_new {σ υ : jM} {R N K : Nat} (h : xRk σ R N K) (eO : ∀ a j, xCo a j → υ.1 a j = σ.1 a j) (hi : hisR υ R N K) (row : rowR υ 37 (υ.1 323) R N K) (p : prIv υ) : xRk υ R N K := by
  have c : ∀ a, (a = 3 ∨ (31 ≤ a ∧ a ≤ 36) ∨ a = 320 ∨ a = 321 ∨ (325 ≤ a ∧ a ≤ 329) ∨ a = 346 ∨ a = 351) → υ.1 a = σ.1 a := fun a ha => funext fun j => eO a j (by
    refine ⟨?_, by omega, by omega, by omega, by omega⟩
    unfold xC
    simp only [jble, Bool.or_eq_true, Bool.and_eq_true, beq_iff_eq, decide_eq_true_eq]
    omega)
  have d : ∀ j, (j = 3 ∨ j = 4 ∨ j = 5 ∨ j = 32 ∨ j = 33 ∨ j = 52) → υ.1 322 j = σ.1 322 j := fun j hj => eO 322 j (by
    refine ⟨?_, by omega, by omega, by omega, by omega⟩
    rcases hj with rfl | rfl | rfl | rfl | rfl | rfl <;> rfl)
  obtain ⟨⟨c1, ⟨c2, c3⟩, c4, c5⟩, -, pl, -, ⟨t1, ⟨n, t2, t3, t4⟩, t5⟩, ⟨s, s1, s2, s3, s4⟩, e9, -⟩ := h
  refine ⟨⟨c1, ⟨(d 3 (by omega)).trans c2, (d 4 (by omega)).trans c3⟩, fun r hr => ?_, fun p hp => ?_⟩, row, ?_, hi, ⟨?_, ⟨n, t2, (eO 2 1 ⟨by decide, by omega, by omega, by omega, by omega⟩).trans t3, (d 32 (by omega)).trans t4⟩, fun j hj => ?_⟩, ⟨s, s1, ?_, (d 52 (by omega)).trans s3, fun j hj => ?_⟩, ?_, p⟩
  · rw [c 32 (by omega), c 325 (by omega)]; exact c4 r hr
  · rw [c 33 (by omega), c 326 (by omega)]; exact c5 p hp
  · exact plI_cg (by rw [c 31 (by omega)]) (d 5 (by omega)) (fun a ha i _ => by rw [c a (by omega)]) pl
  · rw [c 3 (by omega), c 346 (by omega)]; exact t1
  · rw [c 346 (by omega)]; exact t5 j hj
  · rw [c 320 (by omega)]; exact s2
  · rw [c 321 (by omega), c 351 (by omega)]; exact s4 j hj
  · rw [eO 1 9 ⟨by decide, by omega, by omega, by omega, by omega⟩, d 33 (by omega)]; exact e9
/-! one number of the flat and of the row -/
def fu (f : Nat → Int32) (k : Nat) (x : Int32) : Nat → Int32 := fun j => if j = k then x else f j
theorem fu_n (f : Nat → Int32) {k j : Nat} (x : Int32) (h : j ≠ k) : fu f k x j = f j := if_neg h
theorem fu_s (f : Nat → Int32) (k : Nat) (x : Int32) : fu f k x k = x := if_pos rfl
theorem jfu {σ : jM} {f : Nat → Int32} {a j k i l c : Nat} {x : Int32} (e : σ.1 i l = f c) (q : (i = a ∧ l = j) ↔ c = k) : (jup σ a j x).1 i l = fu f k x c := by
  rw [jup_1]
  unfold fu
  by_cases d : c = k
  · rw [if_pos (q.mpr d), if_pos d]
  · rw [if_neg (fun z => d (q.mp z)), if_neg d]
    exact e
/-- where a number of the flat stands in the row -/
def fdK (a j k : Nat) : Prop := (a = 37 ∧ ((j = 2 ∧ k = 3) ∨ (j = 3 ∧ k = 4) ∨ (j = 4 ∧ k = 6) ∨ (j = 5 ∧ k = 5))) ∨ (a = 38 ∧ j < 3 ∧ k = j) ∨ (39 ≤ a ∧ a ≤ 40 ∧ j < 10 ∧ k = 8 + 20 * j + (a - 39)) ∨ (52 ≤ a ∧ a ≤ 56 ∧ j < 10 ∧ k = 8 + 20 * j + (a - 50))
theorem flR_up {σ : jM} {f : Nat → Int32} {R N : Nat} (h : flR σ 37 f R N) (hR : R ≤ 6) (hN : N ≤ 10) {a j k : Nat} (x : Int32) (m : fdK a j k) : flR (jup σ a j x) 37 (fu f k x) R N := by
  unfold fdK at m
  obtain ⟨⟨a1, a2, a3, a4, a5, a6⟩, a7, a8, a9⟩ := h
  refine ⟨⟨?_, ?_, jfu a3 (by omega), jfu a4 (by omega), jfu a5 (by omega), jfu a6 (by omega)⟩, fun i hi => jfu (a7 i hi) (by omega), fun p hp => ?_, fun p hp => ⟨jfu (a9 p hp).1 (by omega), fun r hr => ?_⟩⟩
  · rw [jup_1, if_neg (by omega)]; exact a1
  · rw [jup_1, if_neg (by omega)]; exact a2
  · obtain ⟨b1, b2, b3, b4, b5, b6⟩ := a8 p hp
    exact ⟨jfu b1 (by omega), jfu b2 (by omega), jfu b3 (by omega), jfu b4 (by omega), jfu b5 (by omega), jfu b6 (by omega)⟩
  · have e : wR (fu f k x) p r = wR f p r := by
      unfold wR
      rw [fu_n _ _ (by omega), fu_n _ _ (by omega)]
    rw [e, jup_1, if_neg (by omega)]
    exact (a9 p hp).2 r hr
