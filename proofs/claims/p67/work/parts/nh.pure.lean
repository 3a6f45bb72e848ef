/-! tokens of a text of small signs -/
/-- the kind of a sign -/
def kd (c : Nat) : Nat := if 97 ≤ c ∧ c ≤ 122 then 2 else if 48 ≤ c ∧ c ≤ 57 then 3 else if c = 59 then 4 else if c = 32 ∨ c = 10 then 1 else 5
/-- the text b of len signs says f -/
def tfx (b : Nat → Int32) (len : Nat) (f : Nat → Nat) : Prop := ∀ p, p < len → b p = nI (f p) ∧ f p < 128
theorem sb_dec_rng (v i : Nat) : 48 ≤ sb_dec v i ∧ sb_dec v i ≤ 57 := by
  unfold sb_dec
  have := Nat.mod_lt (v / 10 ^ (sb_dg v - 1 - i)) (show 0 < 10 by decide)
  omega
section NH
variable {b : Nat → Int32} {len : Nat} {f : Nat → Nat}
theorem kn_at (h : tfx b len f) {p : Nat} (hp : p < len) : kn b len p = kd (f p) := by
  obtain ⟨h1, h2⟩ := h p hp
  unfold kn
  rw [if_pos hp, h1]
  have key : ∀ c, c < 128 → (if (97 : Int32) ≤ nI c ∧ nI c ≤ 122 then 2 else if (48 : Int32) ≤ nI c ∧ nI c ≤ 57 then 3 else if nI c = 59 then 4 else if nI c = 32 ∨ nI c = 10 then 1 else 5) = kd c := by decide +kernel
  exact key _ h2
theorem kn_out {p : Nat} (hp : len ≤ p) : kn b len p = 0 := kn_0.mpr hp
theorem rn_to {k : Nat} (hk : 0 < k) : ∀ (n p : Nat), (∀ i, i < n → kn b len (p + i) = k) → ¬ kn b len (p + n) = k → rn b len k p = p + n := by
  intro n
  induction n with
  | zero => intro p _ h2; exact rn_stop h2
  | succ n ih =>
    intro p h1 h2
    have h0 := h1 0 (by omega)
    rw [Nat.add_zero] at h0
    rw [rn_step hk h0, ih (p + 1) (fun i hi => by
      have := h1 (i + 1) (by omega)
      rw [show p + 1 + i = p + (i + 1) by omega]
      exact this) (by rw [show p + 1 + n = p + (n + 1) by omega]; exact h2)]
    omega
/-- a run of n + 1 signs of the kind k, letters or digits -/
theorem en_run (h : tfx b len f) {k s n : Nat} (hk : k = 2 ∨ k = 3) (hs : s + n < len) (h1 : ∀ i, i < n + 1 → kd (f (s + i)) = k) (h2 : s + n + 1 < len → ¬ kd (f (s + n + 1)) = k) : kn b len s = k ∧ en b len s = s + n + 1 := by
  have e0 : kn b len s = k := by
    have := h1 0 (by omega)
    rw [kn_at h (by omega)]
    exact this
  refine ⟨e0, ?_⟩
  unfold en
  rw [if_pos (by omega), e0]
  have := rn_to (b := b) (len := len) (k := k) (by omega) n (s + 1) (fun i hi => by
    rw [kn_at h (by omega), show s + 1 + i = s + (i + 1) by omega]
    exact h1 (i + 1) (by omega)) (by
    rw [show s + 1 + n = s + n + 1 by omega]
    by_cases c : s + n + 1 < len
    · rw [kn_at h c]
      exact h2 c
    · rw [kn_out (by omega)]
      omega)
  omega
/-- no blank behind -/
theorem nx_0 {s e : Nat} (he : en b len s = e) (h1 : ¬ kn b len e = 1) : nx b len s = e := by
  unfold nx
  rw [he]
  exact rn_stop h1
/-- one blank behind -/
theorem nx_1 {s e : Nat} (he : en b len s = e) (h1 : kn b len e = 1) (h2 : ¬ kn b len (e + 1) = 1) : nx b len s = e + 1 := by
  unfold nx
  rw [he]
  exact rn_to (by decide) 1 e (fun i hi => by
    obtain rfl : i = 0 := by omega
    exact h1) h2
theorem en_semi {s : Nat} (h : kn b len s = 4) : en b len s = s + 1 := by
  have hp : s < len := by
    by_cases q : s < len
    · exact q
    · have := kn_out (b := b) (show len ≤ s by omega)
      omega
  unfold en
  rw [if_neg (by omega)]
  omega
theorem cl_at (h : tfx b len f) {p : Nat} (hp : p < len) : cl b p = f p - 96 := by
  obtain ⟨h1, h2⟩ := h p hp
  unfold cl
  rw [h1, nI_clamp (by omega)]
theorem cd_at (h : tfx b len f) {p : Nat} (hp : p < len) : cd b p = f p - 48 := by
  obtain ⟨h1, h2⟩ := h p hp
  unfold cd
  rw [h1, nI_clamp (by omega)]
/-- the token at s is the word l -/
theorem isW_y {s : Nat} {l : List Nat} (hk : kn b len s = 2) (he : en b len s = s + l.length) (hl : ∀ i, i < l.length → cl b (s + i) = l.getD i 0) : isW b len s l = true := by
  unfold isW
  rw [Bool.and_eq_true]
  refine ⟨decide_eq_true ⟨hk, by omega⟩, ?_⟩
  rw [al_iff _]
  exact fun i hi => decide_eq_true (hl i hi)
theorem isW_len {s : Nat} {l : List Nat} (h : en b len s - s ≠ l.length) : isW b len s l = false := by
  unfold isW
  rw [decide_eq_false (fun z => h z.2)]
  rfl
theorem isW_kn {s : Nat} {l : List Nat} (h : kn b len s ≠ 2) : isW b len s l = false := by
  unfold isW
  rw [decide_eq_false (fun z => h z.1)]
  rfl
theorem isW_at {s i : Nat} {l : List Nat} (hi : i < l.length) (h : cl b (s + i) ≠ l.getD i 0) : isW b len s l = false := by
  cases e : isW b len s l with
  | false => rfl
  | true =>
    unfold isW at e
    rw [Bool.and_eq_true] at e
    have := (al_iff _).mp e.2 i hi
    exact absurd (of_decide_eq_true this) h
/-- a name of one letter -/
theorem nm_one (h : tfx b len f) {s : Nat} (hp : s < len) (h1 : kd (f s) = 2) (h2 : s + 1 < len → ¬ kd (f (s + 1)) = 2) : isN b len s = true ∧ en b len s = s + 1 ∧ nm b len s = (f s - 96) * 33554432 := by
  obtain ⟨a1, a2⟩ := en_run h (k := 2) (s := s) (n := 0) (Or.inl rfl) (by omega) (fun i hi => by
    obtain rfl : i = 0 := by omega
    exact h1) h2
  rw [Nat.add_zero] at a2
  refine ⟨?_, a2, ?_⟩
  · unfold isN
    exact decide_eq_true ⟨a1, by omega⟩
  · unfold nm
    rw [a2]
    simp only [nmN]
    rw [Nat.add_zero, if_pos (by omega), if_neg (by omega), if_neg (by omega), if_neg (by omega), if_neg (by omega), if_neg (by omega), cl_at h hp]
    omega
/-- a number below 10000 -/
theorem pInt_ok (h : tfx b len f) {s v hi : Nat} (hv : v < 10000) (hs : s + sb_dg v ≤ len) (h1 : ∀ i, i < sb_dg v → f (s + i) = sb_dec v i) (h2 : s + sb_dg v < len → ¬ kd (f (s + sb_dg v)) = 3) (hh : v ≤ hi) : pInt b len hi s = .inr v ∧ en b len s = s + sb_dg v ∧ kn b len s = 3 := by
  have hd := sbdg4 hv
  have dg : ∀ i, i < sb_dg v → kd (sb_dec v i) = 3 ∧ 48 ≤ sb_dec v i := fun i hi => by
    have := sb_dec_rng v i
    unfold kd
    rw [if_neg (by omega), if_pos (by omega)]
    exact ⟨rfl, by omega⟩
  obtain ⟨a1, a2⟩ := en_run h (k := 3) (s := s) (n := sb_dg v - 1) (Or.inr rfl) (by omega) (fun i hi => by
    rw [h1 i (by omega)]
    exact (dg i (by omega)).1) (by
    rw [show s + (sb_dg v - 1) + 1 = s + sb_dg v by omega]
    exact h2)
  rw [show s + (sb_dg v - 1) + 1 = s + sb_dg v by omega] at a2
  have hc : ∀ i, i < sb_dg v → cd b (s + i) = sb_dec v i - 48 := fun i hi => by
    rw [cd_at h (by omega), h1 i hi]
  have hn : nu b len s = v := by
    unfold nu
    rw [a2, show s + sb_dg v - s = sb_dg v by omega]
    by_cases c1 : v < 10
    · obtain ⟨e0, e1⟩ := dig_1 c1
      rw [e0] at hc ⊢
      simp only [nuN]
      rw [hc 0 (by omega), e1]
      omega
    · by_cases c2 : v < 100
      · obtain ⟨e0, e1, e2⟩ := dig_2 (by omega) c2
        rw [e0] at hc ⊢
        simp only [nuN]
        rw [hc 0 (by omega), hc 1 (by omega), e1, e2]
        omega
      · by_cases c3 : v < 1000
        · obtain ⟨e0, e1, e2, e3⟩ := dig_3 (by omega) c3
          rw [e0] at hc ⊢
          simp only [nuN]
          rw [hc 0 (by omega), hc 1 (by omega), hc 2 (by omega), e1, e2, e3]
          omega
        · obtain ⟨e0, e1, e2, e3, e4⟩ := dig_4 (by omega) hv
          rw [e0] at hc ⊢
          simp only [nuN]
          rw [hc 0 (by omega), hc 1 (by omega), hc 2 (by omega), hc 3 (by omega), e1, e2, e3, e4]
          omega
  refine ⟨?_, a2, a1⟩
  unfold pInt
  rw [if_neg (fun z => z a1), hn, if_neg (by omega)]
end NH
