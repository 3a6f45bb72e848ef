/-! the law's proposes, whole -/
set_option maxRecDepth 100000 in
set_option maxHeartbeats 4000000 in
theorem EX12_proposes (g : jG) (h0 n : Nat) (hE : dEs g) : dOk g h0 (n + 7) 1025 5125 [1108, 1106, 1107, 1109] mX12_proposes dX12_proposes := by
  refine doR_ok ?_
  rintro _ σ ⟨rfl, N, M, hk, hq, d8, d9⟩
  have hN := hk.1.1
  have hN5 : N ≤ 5 := hN.2
  have hf := dk_f hk
  have eN : (nI N).toNatClampNeg = N := nI_clamp (by omega)
  have eM : (nI M).toNatClampNeg = M := nI_clamp (by have := hk.1.2; omega)
  have hn0 : ¬ nI N < 0 := nI_pos (by omega)
  refine dCon.go (by decide +kernel) (by simp [lg_sl, Value.category]) (fun z hkp hcl hz post hp hR => ?_)
  simp only [DkF] at hkp
  have hz2 : z.1.frames = n + 7 ∧ z.1.locals = 64 * (n + 7) ∧ z.1.cells = 1025 ∧ z.1.slots = 5125 := hz
  show DW g z mX12_proposes 0 [(0, .ref 1000)] [] σ 0 0
  refine EPw_a hR hz2 hk d8 hkp.1 (EPw_r hk hcl hq d8 hkp.2.1 ?_)
  have hO := chZ_O hk hcl hq d9
  have hfin := hp _ _ ⟨rfl, rfl⟩
  rw [hf.1.1, hf.1.2, eN, eM] at hfin
  obtain ⟨σZ, eZ⟩ : ∃ σZ, σZ = chZ σ N := ⟨_, rfl⟩
  have e0 : σZ = chM σZ N chS0 := by rw [eZ]; exact chZ_M
  have hlv : cn (lv σZ) N = cn (lv σ) N := by
    refine congrArg (fun f => cn f N) (funext fun p => ?_)
    unfold lv
    rw [eZ, chZ_I, if_neg (by omega), if_neg (by omega), if_neg (by omega)]
  unfold chN at hfin
  rw [← eZ] at hO hfin ⊢
  by_cases c1 : cn (lv σ) N = 0
  · rw [if_pos c1] at hfin
    have k := EPw_e hR hz2 chS0 hO (c0 := 1) (s0 := 5) ⟨by omega, by omega⟩ hfin
    rw [← e0] at k
    exact EPw_b hR hz2 hO (by rw [hlv]; exact c1) k
  · rw [if_neg c1] at hfin
    have hK : 4 ^ N ≤ 1024 := Nat.pow_le_pow_right (n := 4) (by decide) hN5
    obtain ⟨K, eK⟩ : ∃ K, K = 4 ^ N := ⟨_, rfl⟩
    rw [← eK] at hK
    have IH : ∀ h0, dOk g h0 (n + 6) K (5 * K) [1107, 1109] mX12_choose (dX12_choose σZ N M N) := fun h0 => by
      have := ECh_ hE σZ N M N h0 (n + 5 - N)
      rw [show n + 5 - N + N + 1 = n + 6 by omega, ← eK] at this
      exact this
    have k := EPw_e hR hz2 (chFo σZ N M N 0 0 chS0) hO (c0 := 1 + K) (s0 := 5 + 5 * K) ⟨by omega, by omega⟩ hfin
    exact EPw_c hR hz2 hO IH hK e0 ⟨hkp.2.2.1, hkp.2.2.2.1⟩ (by rw [hlv]; exact c1) k
