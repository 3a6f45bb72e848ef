/-! a builder put aside under another name, and taken up again -/
def sbH (σ : dM) (s r : Nat) (f : Nat → Nat) (n m : Nat) : Prop := (DA σ s = true ∧ DR σ s 0 = some r ∧ DI σ s 1 = 0 ∧ DI σ s 3 = nI n) ∧ (DA σ r = true ∧ DN σ r = m) ∧ (n ≤ m ∧ m ≤ 700) ∧ txB σ r f n
def pkP (a b c d : Nat) : Prop := (a = 1800 ∧ b = 1803 ∧ c = 1600 ∧ d = 1603) ∨ (a = 1803 ∧ b = 1800 ∧ c = 1603 ∧ d = 1600)
def rnB (σ : dM) (a b c d : Nat) : dM := Drn (Drn σ a b) c d
section EMV
variable {σ : dM} {a b c d n m : Nat} {f : Nat → Nat}
theorem rnB_A {k : Nat} (h : pkP a b c d) : DA (rnB σ a b c d) k = if k = b ∨ k = d then true else if k = a ∨ k = c then false else DA σ k := by
  unfold rnB
  unfold pkP at h
  rw [Drn_A]
  by_cases c1 : k = d
  · rw [if_pos c1, if_pos (Or.inr c1)]
  · rw [if_neg c1]
    by_cases c2 : k = c
    · rw [if_pos c2, if_neg (show ¬ (k = b ∨ k = d) by omega), if_pos (show k = a ∨ k = c by omega)]
    · rw [if_neg c2, Drn_A]
      by_cases c3 : k = b
      · rw [if_pos c3, if_pos (Or.inl c3)]
      · rw [if_neg c3, if_neg (show ¬ (k = b ∨ k = d) by omega)]
        by_cases c4 : k = a
        · rw [if_pos c4, if_pos (Or.inl c4)]
        · rw [if_neg c4, if_neg (show ¬ (k = a ∨ k = c) by omega)]
theorem rnB_R {k j : Nat} (h : pkP a b c d) (hQ : txQ σ) (k1 : 1000 ≤ k) (k2 : k < 2100) (k3 : DA σ k = true) (h1 : k ≠ a ∧ k ≠ b ∧ k ≠ c ∧ k ≠ d) : DR (rnB σ a b c d) k j = DR σ k j := by
  unfold pkP at h
  have a1 : DR σ k j ≠ some a := fun e => by have := hQ k j _ k1 k2 k3 e (by omega) (by omega); omega
  have a2 : DR σ k j ≠ some c := fun e => by have := hQ k j _ k1 k2 k3 e (by omega) (by omega); omega
  unfold rnB
  rw [Drn_R, if_neg h1.2.2.2, Drn_R, if_neg h1.2.1, Dro_n a1, Dro_n a2]
theorem rnB_ok (h : pkP a b c d) (hQ : txQ σ) (ht : sbH σ a c f n m) : sbH (rnB σ a b c d) b d f n m ∧ txQ (rnB σ a b c d) ∧ (DA (rnB σ a b c d) a = false ∧ DA (rnB σ a b c d) c = false) ∧ tfr (fun k => k ≠ a ∧ k ≠ b ∧ k ≠ c ∧ k ≠ d) σ (rnB σ a b c d) := by
  have h0 := h
  unfold pkP at h
  obtain ⟨⟨h1, h2, h3, h4⟩, ⟨h5, h6⟩, h7, h8⟩ := ht
  have ne : b ≠ d ∧ c ≠ b ∧ c ≠ a ∧ a ≠ b ∧ c ≠ d ∧ b ≠ c ∧ a ≠ c ∧ a ≠ d := by omega
  have eI : ∀ k j, DI (rnB σ a b c d) k j = if k = d then DI σ c j else if k = b then DI σ a j else DI σ k j := fun k j => by
    unfold rnB
    rw [Drn_I]
    by_cases e : k = d
    · rw [if_pos e, if_pos e, Drn_I, if_neg (by omega)]
    · rw [if_neg e, if_neg e, Drn_I]
  have eL : ∀ k j, k ≠ b → k ≠ d → DL (rnB σ a b c d) k j = DL σ k j := fun k j c1 c2 => by
    unfold rnB
    rw [Drn_L, if_neg c2, Drn_L, if_neg c1]
  have eN : ∀ k, DN (rnB σ a b c d) k = if k = d then DN σ c else if k = b then DN σ a else DN σ k := fun k => by
    unfold rnB
    rw [Drn_N]
    by_cases e : k = d
    · rw [if_pos e, if_pos e, Drn_N, if_neg (by omega)]
    · rw [if_neg e, if_neg e, Drn_N]
  have nca : (some c : Option Nat) ≠ some a := fun e => by have := Option.some.inj e; omega
  have eRs : DR (rnB σ a b c d) b 0 = some d := by
    unfold rnB
    rw [Drn_R, if_neg ne.1, Drn_R, if_pos rfl, h2, Dro_n nca, Dro_y]
  refine ⟨⟨⟨by rw [rnB_A h0, if_pos (Or.inl rfl)], eRs, by rw [eI, if_neg ne.1, if_pos rfl]; exact h3, by rw [eI, if_neg ne.1, if_pos rfl]; exact h4⟩, ⟨by rw [rnB_A h0, if_pos (Or.inr rfl)], by rw [eN, if_pos rfl]; exact h6⟩, h7, ?_⟩, ?_, ⟨?_, ?_⟩, ?_⟩
  · exact txB_of h8 (funext fun j => by rw [eI, if_pos rfl])
  · intro k j q k1 k2 k3 e q1 q2
    rw [rnB_A h0] at k3
    by_cases c1 : k = b
    · rw [c1] at e
      unfold rnB at e
      rw [Drn_R, if_neg ne.1, Drn_R, if_pos rfl] at e
      by_cases c2 : ∃ q0, DR σ a j = some q0 ∧ 1600 ≤ q0 ∧ q0 < 1900
      · obtain ⟨q0, e0, b1, b2⟩ := c2
        have := hQ a j q0 (by omega) (by omega) h1 e0 b1 b2
        have e9 : q0 = c := by omega
        rw [e0, e9, Dro_n nca, Dro_y] at e
        have e8 := Option.some.inj e
        exact ⟨this.1, by omega⟩
      · have n1 : DR σ a j ≠ some a := fun z => c2 ⟨_, z, by omega, by omega⟩
        have n2 : DR σ a j ≠ some c := fun z => c2 ⟨_, z, by omega, by omega⟩
        rw [Dro_n n1, Dro_n n2] at e
        exact absurd ⟨q, e, q1, q2⟩ c2
    · by_cases c3 : k = d
      · rw [c3] at e
        unfold rnB at e
        rw [Drn_R, if_pos rfl, Drn_R, if_neg (by omega)] at e
        have n0 : ∀ q0, 1600 ≤ q0 → q0 < 1900 → DR σ c j ≠ some q0 := fun q0 b1 b2 z => by
          have := hQ c j q0 (by omega) (by omega) h5 z b1 b2
          omega
        rw [Dro_n (n0 a (by omega) (by omega)), Dro_n (n0 c (by omega) (by omega))] at e
        exact absurd e (n0 q q1 q2)
      · rw [if_neg (by omega)] at k3
        by_cases c4 : k = a ∨ k = c
        · rw [if_pos c4] at k3
          cases k3
        · rw [if_neg c4] at k3
          rw [rnB_R h0 hQ k1 k2 k3 (by omega)] at e
          exact hQ k j q k1 k2 k3 e q1 q2
  · rw [rnB_A h0, if_neg (by omega), if_pos (Or.inl rfl)]
  · rw [rnB_A h0, if_neg (by omega), if_pos (Or.inr rfl)]
  · exact ⟨rfl, fun k hk => ⟨by rw [rnB_A h0, if_neg (by omega), if_neg (by omega)], fun k1 k2 k3 => ⟨funext fun j => by rw [eI, if_neg (by omega), if_neg (by omega)], funext fun j => eL k j (by omega) (by omega), funext fun j => rnB_R h0 hQ k1 k2 k3 (by omega), by rw [eN, if_neg (by omega), if_neg (by omega)]⟩⟩⟩
theorem DW_rnB {g : jG} {z : dZ} {mt : jMt} {pc : Nat} {L : List (Nat × Value)} {r : List Value} {c0 s0 : Nat} (h : pkP a b c d) (hQ : txQ σ) (ht : sbH σ a c f n m) (hkp : z.2.2.1 b = false ∧ z.2.2.1 d = false) (hL : DnL b L = true) (hL2 : DnL d (DrL a b L) = true) (hr : Dnr b r = true) (hr2 : Dnr d (r.map (Drv a b)) = true)
    (k : DW g z mt pc (DrL c d (DrL a b L)) ((r.map (Drv a b)).map (Drv c d)) (rnB σ a b c d) c0 s0) : DW g z mt pc L r σ c0 s0 := by
  have h0 := h
  unfold pkP at h
  obtain ⟨⟨h1, h2, h3, h4⟩, ⟨h5, h6⟩, h7, h8⟩ := ht
  have sh : Dsh b = Dsh a ∧ Dsh d = Dsh c := by
    rcases h with ⟨rfl, rfl, rfl, rfl⟩ | ⟨rfl, rfl, rfl, rfl⟩ <;> decide +kernel
  refine DW.rn (a := a) (b := b) (by omega) (by omega) (by omega) (by omega) (by omega) hkp.1 sh.1 h1 (fun k j k1 k2 k3 k4 e => ?_) hL hr ?_
  · have := hQ k j _ k1 k2 k3 e (by omega) (by omega)
    omega
  · refine DW.rn (a := c) (b := d) (by omega) (by omega) (by omega) (by omega) (by omega) hkp.2 sh.2 (by rw [Drn_A, if_neg (by omega), if_neg (by omega)]; exact h5) (fun k j k1 k2 k3 k4 e => ?_) hL2 hr2 k
    rw [Drn_A] at k3
    rw [Drn_R] at e
    by_cases c1 : k = b
    · rw [if_pos c1] at e
      by_cases c2 : DR σ a j = some a
      · have := hQ a j _ (by omega) (by omega) h1 c2 (by omega) (by omega)
        omega
      · rw [Dro_n c2] at e
        have := hQ a j _ (by omega) (by omega) h1 e (by omega) (by omega)
        omega
    · rw [if_neg c1] at e k3
      by_cases c3 : k = a
      · rw [if_pos c3] at k3
        cases k3
      · rw [if_neg c3] at k3
        by_cases c2 : DR σ k j = some a
        · have := hQ k j _ k1 k2 k3 c2 (by omega) (by omega)
          omega
        · rw [Dro_n c2] at e
          have := hQ k j _ k1 k2 k3 e (by omega) (by omega)
          omega
/-- as DW_txMv, with anything below -/
theorem DW_txMs {s r : Nat} {g : jG} {z : dZ} {mt : jMt} {pc : Nat} {L : List (Nat × Value)} {rs : List Value} {c0 s0 : Nat} (hsr : (s = 1700 ∧ r = 1610) ∨ (s = 1702 ∧ r = 1612)) (hQ : txQ σ) (ht : tsS σ 1701 1611 f n) (hkp : z.2.2.1 s = false ∧ z.2.2.1 r = false) (hL : DnL s L = true) (hL2 : DnL r (DrL 1701 s L) = true) (hr : Dnr s rs = true) (hr2 : Dnr r (rs.map (Drv 1701 s)) = true)
    (k : DW g z mt pc (DrL 1611 r (DrL 1701 s L)) ((rs.map (Drv 1701 s)).map (Drv 1611 r)) (txMv σ s r) c0 s0) : DW g z mt pc L rs σ c0 s0 := by
  refine DW.cl (fun hcl => ?_)
  obtain ⟨⟨h1, h2, h3⟩, ⟨h4, h5⟩, h6⟩ := ht
  refine DW.sub (Ddp_sub (p := dpB s r) hcl (fun x j q x1 x2 x3 x4 e q1 => ?_)) ?_
  · rw [dpB_f] at x4 ⊢
    have key : q = 1800 ∨ q = 1600 ∨ q = s ∨ q = r → False := fun z => by
      have := txQ_in hQ x1 x2 x3 e (by omega)
      omega
    exact ⟨fun z => key (Or.inl z), fun z => key (Or.inr (Or.inl z)), fun z => key (Or.inr (Or.inr (Or.inl z))), fun z => key (Or.inr (Or.inr (Or.inr z)))⟩
  · have a7 : DA (Ddp σ (dpB s r)) 1701 = true := by
      rw [Ddp_A, h1, dpB_f.mpr (by omega)]
      rfl
    have a6 : DA (Ddp σ (dpB s r)) 1611 = true := by
      rw [Ddp_A, h4, dpB_f.mpr (by omega)]
      rfl
    refine DW.rn (a := 1701) (b := s) (by omega) (by omega) (by omega) (by omega) (by omega) hkp.1 (by rcases hsr with ⟨rfl, -⟩ | ⟨rfl, -⟩ <;> decide +kernel) a7 (fun k j k1 k2 k3 k4 e => ?_) hL hr ?_
    · obtain ⟨k5, k6⟩ := Ddp_AT k3
      have := txQ_in hQ k1 k2 k5 e (by omega)
      omega
    · refine DW.rn (a := 1611) (b := r) (by omega) (by omega) (by omega) (by omega) (by omega) hkp.2 (by rcases hsr with ⟨-, rfl⟩ | ⟨-, rfl⟩ <;> decide +kernel) (by rw [Drn_A, if_neg (by omega), if_neg (by omega)]; exact a6) (fun k j k1 k2 k3 k4 e => ?_) hL2 hr2 k
      rw [Drn_A] at k3
      rw [Drn_R, Ddp_R] at e
      by_cases c1 : k = s
      · rw [if_pos c1] at e
        unfold Dro at e
        by_cases c2 : DR σ 1701 j = some 1701
        · rw [if_pos c2] at e
          have := Option.some.inj e
          omega
        · rw [if_neg c2] at e
          have := txQ_in hQ (by omega) (by omega) h1 e (by omega)
          omega
      · rw [if_neg c1] at e k3
        by_cases c3 : k = 1701
        · rw [if_pos c3] at k3
          cases k3
        · rw [if_neg c3] at k3
          obtain ⟨k5, k6⟩ := Ddp_AT k3
          unfold Dro at e
          by_cases c2 : DR σ k j = some 1701
          · rw [if_pos c2] at e
            have := Option.some.inj e
            omega
          · rw [if_neg c2] at e
            have := txQ_in hQ k1 k2 k5 e (by omega)
            rw [dpB_f] at k6
            omega
end EMV
