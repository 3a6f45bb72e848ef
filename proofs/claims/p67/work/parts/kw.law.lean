/-! a month, whole -/
section PSB
variable {σ : dM} {s : jM} {f : Nat → Int32} {N M K mo : Nat}
theorem rBd_ps (bd : rBd f N mo) : rBd (psI s f K) N mo := by
  obtain ⟨b1, b2, b3⟩ := bd
  have e : ∀ p w, w < 20 → w ≠ 1 → psI s f K (8 + 20 * p + w) = f (8 + 20 * p + w) := fun p w h1 h2 => psX_o s f (by omega) (fun q => by omega) K
  refine ⟨by rw [psX_o s f (by omega) (fun q => by omega)]; exact b1, fun p hp => ?_, by rw [psX_o s f (by omega) (fun q => by omega)]; exact b3⟩
  rw [e p 3 (by omega) (by omega), e p 4 (by omega) (by omega)]
  exact b2 p hp
theorem shN_le {F : Nat → Int32} (d : dG F M N) : shN (mkA F M N) ≤ 100 := by
  obtain ⟨k, k1, k2, k3⟩ := nI_rng d.1.2.2.2.2.1 d.1.2.2.2.2.2 (by decide)
  have e : shN (mkA F M N) = (F 1).toNatClampNeg := rfl
  rw [e, k3]
  exact k1
theorem rBd_pa {F : Nat → Int32} (hs : xRk s M N K) (d : dG F M N) (bd : rBd F N mo) : rBd (paF s F) N mo := by
  have hX := mkA_R hs.1.1.1 hs.1.1.2 d
  rw [paF_A hs]
  split
  · rename_i c
    obtain ⟨a, ha⟩ : ∃ a, dC (mkA F M N) = some a := by
      cases e : dC (mkA F M N) with
      | none => rw [e] at c; exact absurd c.2 (by decide)
      | some a => exact ⟨a, rfl⟩
    obtain ⟨b1, b2, b3⟩ := bd
    refine ⟨by rw [agX_lo (by omega)]; exact b1, fun p hp => ⟨?_, ?_⟩, by rw [agX_lo (by omega)]; exact b3⟩
    · rw [agX_at (by omega), if_neg (by omega), if_pos ⟨hp, rfl⟩]
      have z0 : (0 : Int32).toInt = 0 := rfl
      split
      · rw [z0]
        omega
      · unfold mPy
        split
        · rename_i l
          obtain ⟨y, y1, y2, y3⟩ := paS_b6 hX ha (shN_le d) (i := cn (xl (mkA F M N)) p) (by rw [xv_hm hX]; exact cn_lt l hp)
          rw [y1, iI_toInt (by constructor <;> omega)]
          exact ⟨y2, y3⟩
        · rw [z0]
          omega
    · rw [agX_o (w := 4) (by omega) (by omega) (by omega)]
      exact (b2 p hp).2
  · exact bd
theorem paF_7 (hs : xRk s M N K) (F : Nat → Int32) : paF s F 7 = F 7 := by
  unfold paF
  split
  · exact agX_lo (by omega)
  · rfl
theorem pmF_e (hs : xRk s M N K) : pmF s f = peF s (clI (paF s (psI s f K)) N) := by
  unfold pmF
  rw [(xv_n hs).2.2.1, (xv_n hs).2.2.2.2.1]
/-- a month's end, whole -/
theorem stB_pm {σ0 : dM} (hs : xRk s M N K) (d : dG f M N) (bd : rBd f N mo) (hmo : mo ≤ 298) (h : stB σ0 σ s (paF s (psI s f K)) N M K) : stB σ0 (DuI (psD σ N) 1000 17 (DI σ 1000 17 + 1)) s (pmF s f) N M K := by
  obtain ⟨⟨hk, hf, hd⟩, hP, hS, hQ, hA, hcl⟩ := h
  have hN := hk.1.1.2
  have hM := hk.1.2.2
  have mN9 := (xv_n hs).2.2.1
  have bd2 : rBd (paF s (psI s f K)) N mo := rBd_pa hs (dG_ps hs d K (Nat.le_refl _)) (rBd_ps bd)
  have d9 := dG_pm hs d (by
    rw [bd.1, nI_1]
    exact ⟨(NL_0.1 (mo + 1) (by omega)).mpr (Nat.zero_le _), (NL_999.2.2.1 (mo + 1) (by omega)).mpr (by omega)⟩)
  refine ⟨⟨dk_pm hk _, ?_, d9.1⟩, ?_, hS, hQ, hA, hcl⟩
  · rw [pmF_e hs]
    exact rPm_D hN hM mN9 hd hf bd2 (by omega)
  · refine rP_row (f := paF s (psI s f K)) (rP_cg hP (fun k j hk9 => ?_) (fun _ _ _ => rfl) (fun _ _ => ⟨rfl, rfl⟩)) ?_
    · rw [DuI_I, if_neg (by omega)]
      rfl
    · rw [pmF_e hs]
      unfold peF
      rw [if_neg (by omega), if_neg (by omega), clI_lo _ (by omega)]
end PSB
