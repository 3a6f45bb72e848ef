/-! the law's choose is the best of all choices: the persons and their rooms -/
/-- what the desk says of persons and rooms -/
def okD9 (σ : dM) (ok : Nat → Nat → Option Nat) (N M : Nat) : Prop := ∀ p r, p < N → r < M → lv σ p = true → (DI σ (1200 + p) r = 0 → ∃ v, ok p r = some v ∧ v ≤ 9999 ∧ DI σ (1110 + p) r = nI v) ∧ (¬ DI σ (1200 + p) r = 0 → ok p r = none)
def lvD (l : Nat → Bool) : Nat → List Nat
  | 0 => []
  | p + 1 => if l p = true then p :: lvD l p else lvD l p
/-- the digits of those from P on -/
def sfx (s : chT) (P p : Nat) : Nat := if P ≤ p then dgt (s.2.2.2 p) else 0
theorem chR_T {N M K Y : Nat} {E : zC → zC} {g : Nat → zC} {F : Nat → chT → chT} {c0 : Nat → Int32} {P : Nat} (hF : ∀ r X s, r < M → X + Y ≤ K → chW N M X s → (∀ p, P + 1 ≤ p → s.2.2.2 p = c0 p) → chW N M (X + Y) (F r s) ∧ (∀ p, P + 1 ≤ p → (F r s).2.2.2 p = c0 p) ∧ chC N (F r s) = zB (chC N s) (E (g r)))
    (hE : ∀ a b, E (zB a b) = zB (E a) (E b)) (h0 : E none = none) : ∀ (k X : Nat) (s : chT), k ≤ M → X + k * Y ≤ K → chW N M X s → (∀ p, P + 1 ≤ p → s.2.2.2 p = c0 p) → chW N M (X + k * Y) (chR F k s) ∧ (∀ p, P + 1 ≤ p → (chR F k s).2.2.2 p = c0 p) ∧ chC N (chR F k s) = zB (chC N s) (E (zR g k))
  | 0, X, s, _, _, h, hc => by
    rw [Nat.zero_mul]
    refine ⟨h, hc, ?_⟩
    show chC N s = zB (chC N s) (E none)
    rw [h0, zB_n]
  | k + 1, X, s, hk, hX, h, hc => by
    rw [Nat.succ_mul] at hX ⊢
    obtain ⟨h1, h2, h3⟩ := hF k X s (by omega) (by omega) h hc
    obtain ⟨i1, i2, i3⟩ := chR_T hF hE h0 k (X + Y) (F k s) (by omega) (by omega) h1 h2
    rw [show X + (k * Y + Y) = X + Y + k * Y by omega]
    refine ⟨i1, i2, ?_⟩
    show chC N (chR F k (F k s)) = zB (chC N s) (E (zB (zR g k) (g k)))
    rw [i3, h3, hE, zB_comm (E (zR g k)), zB_assoc]
theorem chU_W {N M X p : Nat} {x : Int32} {s : chT} : chW N M X (chU p x s) ↔ chW N M X s := Iff.rfl
theorem chU_C {N p : Nat} {x : Int32} {s : chT} : chC N (chU p x s) = chC N s := rfl
theorem sfx_up {s : chT} {P : Nat} {x : Int32} : (fun p => sfx (chU P x s) P p) = fun p => if p = P then dgt x else sfx s (P + 1) p := by
  funext p
  unfold sfx chU
  dsimp only
  by_cases c : p = P
  · rw [if_pos (by omega), if_pos c, if_pos c]
  · rw [if_neg c, if_neg c]
    by_cases d : P ≤ p
    · rw [if_pos d, if_pos (by omega)]
    · rw [if_neg d, if_neg (by omega)]
theorem sfx_cg {s u : chT} {P : Nat} (h : ∀ p, P ≤ p → u.2.2.2 p = s.2.2.2 p) : (fun p => sfx u P p) = fun p => sfx s P p := by
  funext p
  unfold sfx
  by_cases d : P ≤ p
  · rw [if_pos d, if_pos d, h p d]
  · rw [if_neg d, if_neg d]
theorem chFo_T {σ : dM} {N M : Nat} {ok : Nat → Nat → Option Nat} (hN : N ≤ 5) (hM : M ≤ 4) (hok : okD9 σ ok N M) : ∀ (P : Nat), P ≤ N → ∀ (t I X : Nat) (s : chT), t < 64 → I + 9999 * P ≤ 100000 → X + 4 ^ P ≤ 2000 → chW N M X s → (∀ p, P ≤ p → p < N → dgO M (s.2.2.2 p)) →
    chW N M (X + 4 ^ P) (chFo σ N M P (nI t) (nI I) s) ∧ (∀ p, P ≤ p → (chFo σ N M P (nI t) (nI I) s).2.2.2 p = s.2.2.2 p) ∧ chC N (chFo σ N M P (nI t) (nI I) s) = zB (chC N s) (zS I (cod (fun p => sfx s P p) N) (zT ok (fun p => 8 ^ (N - 1 - p)) M (lvD (lv σ) P) t))
  | 0, _, t, I, X, s, ht, hI, hX, h, o => by
    rw [Nat.pow_zero] at hX ⊢
    obtain ⟨h1, h2, h3⟩ := chE_T (N := N) (I := I) (s := s) (by omega) h (by omega) (by omega) (fun p hp => o p (Nat.zero_le _) hp)
    refine ⟨h1, fun p _ => by show (chE N (nI I) s).2.2.2 p = _; rw [h2], ?_⟩
    show chC N (chE N (nI I) s) = zB (chC N s) (zS I _ (some (0, 1, 0)))
    rw [h3]
    show zB _ _ = zB _ (some (0 + I, 1, 0 + _))
    rw [Nat.zero_add, Nat.zero_add]
    rfl
  | P + 1, hP, t, I, X, s, ht, hI, hX, h, o => by
    have e4 : 4 ^ (P + 1) = 4 * 4 ^ P := by rw [Nat.pow_succ]; omega
    have hp0 : 0 < 4 ^ P := Nat.pow_pos (by decide)
    rw [e4] at hX
    have c0 : cod (fun p => sfx (chU P (-1) s) P p) N = cod (fun p => sfx s (P + 1) p) N := by
      rw [sfx_up]
      refine cod_cg _ (fun p _ => ?_)
      by_cases c : p = P
      · rw [if_pos c, c, dgt_n]
        unfold sfx
        rw [if_neg (by omega)]
      · rw [if_neg c]
    by_cases l : DI σ 1100 P = 1
    · have e : chFo σ N M (P + 1) (nI t) (nI I) s = chR (fun r s => if (nI t >>> (nI r &&& 31)) &&& 1 = 1 then s else if DI σ (1200 + P) r = 0 then chFo σ N M P (nI t ||| (1 <<< (nI r &&& 31))) (nI I + DI σ (1110 + P) r) (chU P (nI r) s) else s) M (chU P (-1) s) := if_pos l
      have el : lvD (lv σ) (P + 1) = P :: lvD (lv σ) P := if_pos (by unfold lv; rw [decide_eq_true_eq]; exact l)
      have ez : sfx s (P + 1) P = 0 := if_neg (by omega)
      obtain ⟨gg, eg⟩ : ∃ gg : Nat → zC, gg = fun r => match ok P r with
        | none => none
        | some v => if t.testBit r then none else zS v ((r + 1) * 8 ^ (N - 1 - P)) (zT ok (fun p => 8 ^ (N - 1 - p)) M (lvD (lv σ) P) (t ||| 1 <<< r)) := ⟨_, rfl⟩
      obtain ⟨FF, eF⟩ : ∃ FF : Nat → chT → chT, FF = fun r s => if (nI t >>> (nI r &&& 31)) &&& 1 = 1 then s else if DI σ (1200 + P) r = 0 then chFo σ N M P (nI t ||| (1 <<< (nI r &&& 31))) (nI I + DI σ (1110 + P) r) (chU P (nI r) s) else s := ⟨_, rfl⟩
      have hF : ∀ r Y u, r < M → Y + 4 ^ P ≤ X + 4 * 4 ^ P → chW N M Y u → (∀ p, P + 1 ≤ p → u.2.2.2 p = s.2.2.2 p) → chW N M (Y + 4 ^ P) (FF r u) ∧ (∀ p, P + 1 ≤ p → (FF r u).2.2.2 p = s.2.2.2 p) ∧ chC N (FF r u) = zB (chC N u) (zS I (cod (fun p => sfx s (P + 1) p) N) (gg r)) := fun r Y u hr hY hu hc => by
        rw [eF, eg]
        have hle : Y ≤ Y + 4 ^ P := by omega
        obtain ⟨b1, b2, b3⟩ := bit_t ht (show r < 6 by omega)
        dsimp only
        by_cases c1 : (nI t >>> (nI r &&& 31)) &&& 1 = 1
        · rw [if_pos c1]
          refine ⟨chW_le hu hle, hc, ?_⟩
          have c2 := b1.mp c1
          cases ok P r with
          | none => exact (zB_n _).symm
          | some v =>
            dsimp only
            rw [if_pos c2]
            exact (zB_n _).symm
        · rw [if_neg c1]
          have c2 : ¬ t.testBit r = true := fun z => c1 (b1.mpr z)
          obtain ⟨q1, q2⟩ := hok P r (by omega) hr (by unfold lv; rw [decide_eq_true_eq]; exact l)
          by_cases c3 : DI σ (1200 + P) r = 0
          · obtain ⟨v, v1, v2, v3⟩ := q1 c3
            rw [if_pos c3, b2, v3, nI_add, v1]
            dsimp only
            rw [if_neg c2]
            have ho : ∀ p, P ≤ p → p < N → dgO M ((chU P (nI r) u).2.2.2 p) := fun p hp hp2 => by
              unfold chU
              dsimp only
              by_cases c : p = P
              · rw [if_pos c]; exact Or.inr ⟨r, hr, rfl⟩
              · rw [if_neg c, hc p (by omega)]; exact o p (by omega) hp2
            obtain ⟨i1, i2, i3⟩ := chFo_T hN hM hok P (by omega) (t ||| 1 <<< r) (I + v) Y (chU P (nI r) u) b3 (by omega) (by omega) hu ho
            refine ⟨i1, fun p hp => ?_, ?_⟩
            · rw [i2 p (by omega)]
              unfold chU
              dsimp only
              rw [if_neg (by omega)]
              exact hc p hp
            · rw [i3, chU_C, zS_sh, sfx_up]
              have hup : cod (fun p => if p = P then dgt (nI r) else sfx u (P + 1) p) N = cod (fun p => sfx u (P + 1) p) N + dgt (nI r) * 8 ^ (N - 1 - P) := cod_up (h := fun p => sfx u (P + 1) p) (p := P) (x := dgt (nI r)) (by show sfx u (P + 1) P = 0; exact if_neg (by omega)) N (by omega)
              have hq := sfx_cg (s := s) (u := u) (P := P + 1) hc
              rw [hup, hq, dgt_r (by omega), Nat.add_comm v I, Nat.add_comm (cod _ N)]
          · rw [if_neg c3, q2 c3]
            exact ⟨chW_le hu hle, hc, (zB_n _).symm⟩
      obtain ⟨k1, k2, k3⟩ := chR_T (K := X + 4 * 4 ^ P) (Y := 4 ^ P) (c0 := s.2.2.2) (P := P) (g := gg) (F := FF) hF (fun a b => zS_B _ _ _ _) rfl M X (chU P (-1) s) (Nat.le_refl _) (by have := Nat.mul_le_mul_right (4 ^ P) hM; omega) h (fun p hp => by unfold chU; dsimp only; rw [if_neg (by omega)])
      rw [e, el, e4, ← eF]
      refine ⟨chW_le k1 (by have := Nat.mul_le_mul_right (4 ^ P) hM; omega), k2, ?_⟩
      rw [k3, eg]
      rfl
    · have e : chFo σ N M (P + 1) (nI t) (nI I) s = chFo σ N M P (nI t) (nI I) (chU P (-1) s) := if_neg l
      have el : lvD (lv σ) (P + 1) = lvD (lv σ) P := if_neg (by unfold lv; rw [decide_eq_true_eq]; exact l)
      obtain ⟨i1, i2, i3⟩ := chFo_T hN hM hok P (by omega) t I X (chU P (-1) s) ht (by omega) (by omega) h (fun p hp hp2 => by
        unfold chU
        dsimp only
        by_cases c : p = P
        · rw [if_pos c]; exact Or.inl rfl
        · rw [if_neg c]; exact o p (by omega) hp2)
      rw [e, el, e4]
      refine ⟨chW_le i1 (by omega), fun p hp => ?_, ?_⟩
      · rw [i2 p (by omega)]
        unfold chU
        dsimp only
        rw [if_neg (by omega)]
      · rw [i3, c0, chU_C]
