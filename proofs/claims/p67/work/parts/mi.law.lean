/-! cells that are given up; a text called by its own name again -/
def Ddp (σ : dM) (p : Nat → Bool) : dM := (σ.1, σ.2.1, σ.2.2.1, σ.2.2.2.1, σ.2.2.2.2.1, fun i => σ.2.2.2.2.2 i && !p i)
section DDP
variable {σ : dM} {p : Nat → Bool}
theorem Ddp_S : DS (Ddp σ p) = DS σ := rfl
theorem Ddp_I : DI (Ddp σ p) = DI σ := rfl
theorem Ddp_L : DL (Ddp σ p) = DL σ := rfl
theorem Ddp_R : DR (Ddp σ p) = DR σ := rfl
theorem Ddp_N : DN (Ddp σ p) = DN σ := rfl
theorem Ddp_A {i : Nat} : DA (Ddp σ p) i = (DA σ i && !p i) := rfl
theorem Ddp_AT {i : Nat} (h : DA (Ddp σ p) i = true) : DA σ i = true ∧ p i = false := by
  rw [Ddp_A, Bool.and_eq_true, Bool.not_eq_true'] at h
  exact h
theorem Ddp_sub (hcl : Dcl0 σ) (h : ∀ x j k, 1000 ≤ x → x < 2100 → DA σ x = true → p x = false → DR σ x j = some k → 1000 ≤ k → p k = false) : Dsub (Ddp σ p) σ := by
  refine ⟨rfl, ?_, fun k hk hA => ⟨(Ddp_AT hA).1, rfl, rfl, rfl, rfl⟩⟩
  intro x j k hx hx2 e
  obtain ⟨x1, -⟩ := Dal_lt hx
  obtain ⟨a1, a2⟩ := Ddp_AT (Dal_A hx hx2)
  rcases hcl x j k (Dal_hi hx2 x1 a1) hx2 e with q | q
  · exact Or.inl q
  · rcases Nat.lt_or_ge k 1000 with w | w
    · exact Or.inl w
    · obtain ⟨w1, -⟩ := Dal_lt q
      refine Or.inr (Dal_hi w w1 ?_)
      rw [Ddp_A, Dal_A q w, h x j k hx2 x1 a1 a2 e w]
      rfl
theorem tfr_dp : tfr (fun k => p k = false) σ (Ddp σ p) := ⟨rfl, fun k hk => ⟨by rw [Ddp_A, hk, Bool.not_false, Bool.and_true], fun _ _ _ => ⟨rfl, rfl, rfl, rfl⟩⟩⟩
theorem tfr_rn2 {a b : Nat} {P : Nat → Prop} (hP : ∀ k, P k → k ≠ a ∧ k ≠ b) (hno : ∀ k j, 1000 ≤ k → k < 2100 → P k → DA σ k = true → DR σ k j ≠ some a) : tfr P σ (Drn σ a b) := ⟨rfl, fun k hk => by
  obtain ⟨h1, h2⟩ := hP k hk
  refine ⟨by rw [Drn_A, if_neg h2, if_neg h1], fun k1 k2 k3 => ⟨funext fun j => by rw [Drn_I, if_neg h2], funext fun j => by rw [Drn_L, if_neg h2], funext fun j => ?_, by rw [Drn_N, if_neg h2]⟩⟩
  rw [Drn_R, if_neg h2]
  unfold Dro
  rw [if_neg (hno k j k1 k2 hk k3)]⟩
end DDP
theorem Dro_n {a b : Nat} {x : Option Nat} (h : x ≠ some a) : Dro a b x = x := by
  unfold Dro
  rw [if_neg h]
theorem Dro_y {a b : Nat} : Dro a b (some a) = some b := by
  unfold Dro
  rw [if_pos rfl]
def dpB (s r : Nat) : Nat → Bool := fun k => k == 1800 || k == 1600 || k == s || k == r
theorem dpB_f {s r k : Nat} : dpB s r k = false ↔ k ≠ 1800 ∧ k ≠ 1600 ∧ k ≠ s ∧ k ≠ r := by
  unfold dpB
  simp only [Bool.or_eq_false_iff, beq_eq_false_iff_ne]
  exact ⟨fun h => ⟨h.1.1.1, h.1.1.2, h.1.2, h.2⟩, fun h => ⟨⟨⟨h.1, h.2.1⟩, h.2.2.1⟩, h.2.2.2⟩⟩
def txMv (σ : dM) (s r : Nat) : dM := Drn (Drn (Ddp σ (dpB s r)) 1701 s) 1611 r
section TXM
variable {σ : dM} {s r n : Nat} {f : Nat → Nat}
theorem txQ_in {k j q : Nat} (hQ : txQ σ) (k1 : 1000 ≤ k) (k2 : k < 2100) (k3 : DA σ k = true) (e : DR σ k j = some q) (h : q = 1611 ∨ q = 1701 ∨ q = 1800 ∨ q = 1600 ∨ q = 1700 ∨ q = 1702 ∨ q = 1610 ∨ q = 1612) : j = 0 ∧ ((q = 1600 ∧ k = 1800) ∨ (q = 1610 ∧ k = 1700) ∨ (q = 1611 ∧ k = 1701) ∨ (q = 1612 ∧ k = 1702)) := by
  have := hQ k j q k1 k2 k3 e (by omega) (by omega)
  omega
theorem txM_R (hsr : (s = 1700 ∧ r = 1610) ∨ (s = 1702 ∧ r = 1612)) (hQ : txQ σ) {k j : Nat} (k1 : 1000 ≤ k) (k2 : k < 2100) (k3 : DA σ k = true) (h1 : k ≠ 1701) (h2 : k ≠ 1611) (h3 : k ≠ s) (h4 : k ≠ r) : DR (txMv σ s r) k j = DR σ k j := by
  have a1 : DR σ k j ≠ some 1701 := fun e => by have := txQ_in hQ k1 k2 k3 e (by omega); omega
  have a2 : DR σ k j ≠ some 1611 := fun e => by have := txQ_in hQ k1 k2 k3 e (by omega); omega
  unfold txMv
  rw [Drn_R, if_neg h4, Drn_R, if_neg h3, Ddp_R, Dro_n a1, Dro_n a2]
theorem txM_A {k : Nat} (hsr : (s = 1700 ∧ r = 1610) ∨ (s = 1702 ∧ r = 1612)) : DA (txMv σ s r) k = if k = s ∨ k = r then true else if k = 1800 ∨ k = 1600 ∨ k = 1701 ∨ k = 1611 then false else DA σ k := by
  unfold txMv
  rw [Drn_A]
  by_cases c1 : k = r
  · rw [if_pos c1, if_pos (Or.inr c1)]
  · rw [if_neg c1]
    by_cases c2 : k = 1611
    · rw [if_pos c2, if_neg (show ¬ (k = s ∨ k = r) by omega), if_pos (show k = 1800 ∨ k = 1600 ∨ k = 1701 ∨ k = 1611 by omega)]
    · rw [if_neg c2, Drn_A]
      by_cases c3 : k = s
      · rw [if_pos c3, if_pos (Or.inl c3)]
      · rw [if_neg c3, if_neg (show ¬ (k = s ∨ k = r) by omega)]
        by_cases c4 : k = 1701
        · rw [if_pos c4, if_pos (show k = 1800 ∨ k = 1600 ∨ k = 1701 ∨ k = 1611 by omega)]
        · rw [if_neg c4, Ddp_A]
          by_cases c5 : k = 1800 ∨ k = 1600
          · have e : dpB s r k = true := by
              rcases c5 with rfl | rfl <;> simp [dpB]
            rw [e, if_pos (show k = 1800 ∨ k = 1600 ∨ k = 1701 ∨ k = 1611 by omega), Bool.not_true, Bool.and_false]
          · have e : dpB s r k = false := dpB_f.mpr (by omega)
            rw [e, if_neg (show ¬ (k = 1800 ∨ k = 1600 ∨ k = 1701 ∨ k = 1611) by omega), Bool.not_false, Bool.and_true]
theorem txMv_ok (hsr : (s = 1700 ∧ r = 1610) ∨ (s = 1702 ∧ r = 1612)) (hQ : txQ σ) (ht : tsS σ 1701 1611 f n) : tsS (txMv σ s r) s r f n ∧ txQ (txMv σ s r) ∧ tfr (fun k => k ≠ 1800 ∧ k ≠ 1600 ∧ k ≠ s ∧ k ≠ r ∧ k ≠ 1701 ∧ k ≠ 1611) σ (txMv σ s r) := by
  obtain ⟨⟨h1, h2, h3⟩, ⟨h4, h5⟩, h6⟩ := ht
  have sr : s ≠ r ∧ s ≠ 1701 ∧ s ≠ 1611 ∧ r ≠ 1701 ∧ r ≠ 1611 := by omega
  have eI : ∀ k j, DI (txMv σ s r) k j = if k = r then DI σ 1611 j else if k = s then DI σ 1701 j else DI σ k j := fun k j => by
    unfold txMv
    rw [Drn_I]
    by_cases c : k = r
    · rw [if_pos c, if_pos c, Drn_I, if_neg (by omega)]
      rfl
    · rw [if_neg c, if_neg c, Drn_I]
      rfl
  have eL : ∀ k j, k ≠ s → k ≠ r → DL (txMv σ s r) k j = DL σ k j := fun k j c1 c2 => by
    unfold txMv
    rw [Drn_L, if_neg c2, Drn_L, if_neg c1]
    rfl
  have eN : ∀ k, DN (txMv σ s r) k = if k = r then DN σ 1611 else if k = s then DN σ 1701 else DN σ k := fun k => by
    unfold txMv
    rw [Drn_N]
    by_cases c : k = r
    · rw [if_pos c, if_pos c, Drn_N, if_neg (by omega)]
      rfl
    · rw [if_neg c, if_neg c, Drn_N]
      rfl
  have eRs : DR (txMv σ s r) s 0 = some r := by
    unfold txMv
    rw [Drn_R, if_neg sr.1, Drn_R, if_pos rfl, Ddp_R, h2, Dro_n (a := 1701) (x := some 1611) (by decide), Dro_y]
  refine ⟨⟨⟨by rw [txM_A hsr, if_pos (Or.inl rfl)], eRs, by rw [eI, if_neg sr.1, if_pos rfl]; exact h3⟩, ⟨by rw [txM_A hsr, if_pos (Or.inr rfl)], by rw [eN, if_pos rfl]; exact h5⟩, ?_⟩, ?_, ?_⟩
  · exact txB_of h6 (funext fun j => by rw [eI, if_pos rfl])
  · intro k j q k1 k2 k3 e q1 q2
    rw [txM_A hsr] at k3
    by_cases c1 : k = s
    · rw [c1] at e
      unfold txMv at e
      rw [Drn_R, if_neg sr.1, Drn_R, if_pos rfl, Ddp_R] at e
      by_cases c2 : ∃ q0, DR σ 1701 j = some q0 ∧ 1600 ≤ q0 ∧ q0 < 1900
      · obtain ⟨q0, e0, b1, b2⟩ := c2
        have := hQ 1701 j q0 (by omega) (by omega) h1 e0 b1 b2
        have e9 : q0 = 1611 := by omega
        rw [e0, e9, Dro_n (a := 1701) (x := some 1611) (by decide), Dro_y] at e
        have e8 := Option.some.inj e
        exact ⟨this.1, by omega⟩
      · have n1 : DR σ 1701 j ≠ some 1701 := fun z => c2 ⟨_, z, by omega, by omega⟩
        have n2 : DR σ 1701 j ≠ some 1611 := fun z => c2 ⟨_, z, by omega, by omega⟩
        rw [Dro_n n1, Dro_n n2] at e
        exact absurd ⟨q, e, q1, q2⟩ c2
    · by_cases c3 : k = r
      · rw [c3] at e
        unfold txMv at e
        rw [Drn_R, if_pos rfl, Drn_R, if_neg (by omega), Ddp_R] at e
        have n0 : ∀ q0, 1600 ≤ q0 → q0 < 1900 → DR σ 1611 j ≠ some q0 := fun q0 b1 b2 z => by
          have := hQ 1611 j q0 (by omega) (by omega) h4 z b1 b2
          omega
        rw [Dro_n (n0 1701 (by omega) (by omega)), Dro_n (n0 1611 (by omega) (by omega))] at e
        exact absurd e (n0 q q1 q2)
      · rw [if_neg (by omega)] at k3
        by_cases c4 : k = 1800 ∨ k = 1600 ∨ k = 1701 ∨ k = 1611
        · rw [if_pos c4] at k3
          cases k3
        · rw [if_neg c4] at k3
          rw [txM_R hsr hQ k1 k2 k3 (by omega) (by omega) c1 c3] at e
          exact hQ k j q k1 k2 k3 e q1 q2
  · refine ⟨rfl, fun k hk => ⟨by rw [txM_A hsr, if_neg (by omega), if_neg (by omega)], fun k1 k2 k3 => ⟨funext fun j => by rw [eI, if_neg (by omega), if_neg (by omega)], funext fun j => eL k j (by omega) (by omega), funext fun j => txM_R hsr hQ k1 k2 k3 (by omega) (by omega) (by omega) (by omega), by rw [eN, if_neg (by omega), if_neg (by omega)]⟩⟩⟩
/-- the text 1701 is called s from here on; the builder is given up -/
theorem DW_txMv {g : jG} {z : dZ} {mt : jMt} {pc : Nat} {L : List (Nat × Value)} {c0 s0 : Nat} (hsr : (s = 1700 ∧ r = 1610) ∨ (s = 1702 ∧ r = 1612)) (hQ : txQ σ) (ht : tsS σ 1701 1611 f n) (hkp : z.2.2.1 s = false ∧ z.2.2.1 r = false) (hL : DnL s L = true) (hL2 : DnL r (DrL 1701 s L) = true)
    (k : DW g z mt pc (DrL 1611 r (DrL 1701 s L)) [] (txMv σ s r) c0 s0) : DW g z mt pc L [] σ c0 s0 := by
  refine DW.cl (fun hcl => ?_)
  obtain ⟨⟨h1, h2, h3⟩, ⟨h4, h5⟩, h6⟩ := ht
  refine DW.sub (Ddp_sub (p := dpB s r) hcl (fun x j q x1 x2 x3 x4 e q1 => ?_)) ?_
  · rw [dpB_f] at x4 ⊢
    have key : q = 1800 ∨ q = 1600 ∨ q = s ∨ q = r → False := fun z => by
      have := txQ_in hQ x1 x2 x3 e (by omega)
      omega
    exact ⟨fun z => key (Or.inl z), fun z => key (Or.inr (Or.inl z)), fun z => key (Or.inr (Or.inr (Or.inl z))), fun z => key (Or.inr (Or.inr (Or.inr z)))⟩
  · have a7 : DA (Ddp σ (dpB s r)) 1701 = true := by
      rw [Ddp_A, h1, dpB_f.mpr (by omega)]
      rfl
    have a6 : DA (Ddp σ (dpB s r)) 1611 = true := by
      rw [Ddp_A, h4, dpB_f.mpr (by omega)]
      rfl
    refine DW.rn (a := 1701) (b := s) (by omega) (by omega) (by omega) (by omega) (by omega) hkp.1 (by rcases hsr with ⟨rfl, -⟩ | ⟨rfl, -⟩ <;> decide +kernel) a7 (fun k j k1 k2 k3 k4 e => ?_) hL rfl ?_
    · obtain ⟨k5, k6⟩ := Ddp_AT k3
      have := txQ_in hQ k1 k2 k5 e (by omega)
      omega
    · refine DW.rn (a := 1611) (b := r) (by omega) (by omega) (by omega) (by omega) (by omega) hkp.2 (by rcases hsr with ⟨-, rfl⟩ | ⟨-, rfl⟩ <;> decide +kernel) (by rw [Drn_A, if_neg (by omega), if_neg (by omega)]; exact a6) (fun k j k1 k2 k3 k4 e => ?_) hL2 rfl k
      rw [Drn_A] at k3
      rw [Drn_R, Ddp_R] at e
      by_cases c1 : k = s
      · rw [if_pos c1] at e
        unfold Dro at e
        by_cases c2 : DR σ 1701 j = some 1701
        · rw [if_pos c2] at e
          have := Option.some.inj e
          omega
        · rw [if_neg c2] at e
          have := txQ_in hQ (by omega) (by omega) h1 e (by omega)
          omega
      · rw [if_neg c1] at e k3
        by_cases c3 : k = 1701
        · rw [if_pos c3] at k3
          cases k3
        · rw [if_neg c3] at k3
          obtain ⟨k5, k6⟩ := Ddp_AT k3
          unfold Dro at e
          by_cases c2 : DR σ k j = some 1701
          · rw [if_pos c2] at e
            have := Option.some.inj e
            omega
          · rw [if_neg c2] at e
            have := txQ_in hQ k1 k2 k5 e (by omega)
            rw [dpB_f] at k6
            omega
end TXM
