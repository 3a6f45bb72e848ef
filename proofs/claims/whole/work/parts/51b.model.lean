/-! the reference: one pair of a sweep -/
theorem exPair (g : jG) (n : Nat) {post : Option Value → jM → Prop} {σ τ : jM} {a : Nat × Nat × (Nat → Nat)} (hc : hC σ a) {x y : Nat → Int} {c p q : Nat} (hp : p < mN σ) (hq : q < mN σ) (hm : exM σ τ x y)
    (hi : exI (mLiv σ) (gLo (dW (σ.1 323) (mN σ)) a.2.2 (mLiv σ)) (gHi (dW (σ.1 323) (mN σ)) a.2.2 (mLiv σ)) x y)
    (ks : ¬ (dL (σ.1 323) p = true ∧ dL (σ.1 323) q = true ∧ gE (dW (σ.1 323) (mN σ)) a.2.2 (cn (dL (σ.1 323)) p) (cn (dL (σ.1 323)) q) = true) → jW g mX12_layExtremes (n + 4) post 50 [(0, .ref 322), (1, .int (nI c)), (2, .int (nI p)), (3, .int (nI (q + 1)))] [] τ)
    (kc : dL (σ.1 323) p = true → dL (σ.1 323) q = true → gE (dW (σ.1 323) (mN σ)) a.2.2 (cn (dL (σ.1 323)) p) (cn (dL (σ.1 323)) q) = true → ∀ τ', exM σ τ' (exX x (gG (dW (σ.1 323) (mN σ)) a.2.2 (cn (dL (σ.1 323)) p) (cn (dL (σ.1 323)) q)) (cn (dL (σ.1 323)) p) (cn (dL (σ.1 323)) q)) (exY y (gG (dW (σ.1 323) (mN σ)) a.2.2 (cn (dL (σ.1 323)) p) (cn (dL (σ.1 323)) q)) (cn (dL (σ.1 323)) p) (cn (dL (σ.1 323)) q)) → jW g mX12_layExtremes (n + 4) post 50 [(0, .ref 322), (1, .int (nI (exC x y (gG (dW (σ.1 323) (mN σ)) a.2.2 (cn (dL (σ.1 323)) p) (cn (dL (σ.1 323)) q)) (cn (dL (σ.1 323)) p) (cn (dL (σ.1 323)) q) c))), (2, .int (nI p)), (3, .int (nI (q + 1)))] [] τ') :
    jW g mX12_layExtremes (n + 4) post 50 [(0, .ref 322), (1, .int (nI c)), (2, .int (nI p)), (3, .int (nI q))] [] τ := by
  obtain ⟨hN10, hN4⟩ := mN_le hc.1
  have e4 : τ.1 322 4 = nI (mN σ) := (hm.1.2.2 322 4 rfl).trans hN4
  have e330 : ∀ j, τ.1 330 j = σ.1 330 j := fun j => hm.1.2.2 330 j rfl
  have hch : chOK τ := fun j hj h0 => by
    rw [e330] at h0 ⊢
    exact hC_ch hc j hj h0
  obtain ⟨ce1, ce2⟩ := hC_pair hc hm.1 hp hq
  by_cases hce : mCE τ p q = true
  · have hst := ce2 hce
    obtain ⟨hlp, hlq, he⟩ := ce1.mp hce
    obtain ⟨a1, a2, a3⟩ := hC_liv hc hp hlp
    obtain ⟨b1, b2, b3⟩ := hC_liv hc hq hlq
    have hj1 : jin (τ.1 330 p) 6 := by rw [e330, a3]; exact jin_nI a2 (by decide)
    have hj2 : jin (τ.1 330 q) 6 := by rw [e330, b3]; exact jin_nI b2 (by decide)
    have kc := kc hlp hlq he
    have all := hC_all hc
    have hW := fun i r v => dW_le hc.2.1 hN10 i r v
    have hR := (mRo_le hc.1).1
    have gb := gG_bd (R := mRo σ) (fun i r v hr => hW i r v (by omega)) (fun j hj => (all.1 j hj).1) a1 b1
    have lb1 := gLo_bd (R := mRo σ) (fun i r v hr => hW i r v (by omega)) (fun j hj => (all.1 j hj).1) a1
    have lb2 := gLo_bd (R := mRo σ) (fun i r v hr => hW i r v (by omega)) (fun j hj => (all.1 j hj).1) b1
    have x1 := hi _ a1
    have x2 := hi _ b1
    have m1 := (hm.2 p hp).2
    have m2 := (hm.2 p hp).1
    have m3 := (hm.2 q hq).1
    have m4 := (hm.2 q hq).2
    rw [if_pos hlp] at m1 m2
    rw [if_pos hlq] at m3 m4
    generalize gG (dW (σ.1 323) (mN σ)) a.2.2 (cn (dL (σ.1 323)) p) (cn (dL (σ.1 323)) q) = gg at *
    have E1 : iI (x (cn (dL (σ.1 323)) p)) + iI gg ≤ iI (x (cn (dL (σ.1 323)) q)) ↔ ¬ x (cn (dL (σ.1 323)) q) < x (cn (dL (σ.1 323)) p) + gg := by
      rw [iI_add, iI_le ⟨by omega, by omega⟩ ⟨by omega, by omega⟩]
      omega
    have E2 : iI (- y (cn (dL (σ.1 323)) p)) ≤ iI (- y (cn (dL (σ.1 323)) q)) - iI gg ↔ ¬ y (cn (dL (σ.1 323)) p) < y (cn (dL (σ.1 323)) q) + gg := by
      rw [iI_sub, iI_le ⟨by omega, by omega⟩ ⟨by omega, by omega⟩]
      omega
    refine CEx_core g n hN10 hp hq e4 hch hce hst hj1 hj2 m2 m3 m4 m1 (fun d1 d2 => ?_) (fun d1 d2 => ?_) (fun d1 d2 => ?_) (fun d1 d2 => ?_)
    · rw [E1, Decidable.not_not] at d1
      rw [E2, Decidable.not_not] at d2
      rw [iI_add, iI_sub]
      have k1 := kc _ (by
        unfold exX exY
        rw [if_pos d1, if_pos d2]
        exact exM_y (exM_x hm hlq (x (cn (dL (σ.1 323)) p) + gg)) hlp (y (cn (dL (σ.1 323)) q) + gg) (- y (cn (dL (σ.1 323)) q) - gg) (by omega))
      rw [exC, if_pos (Or.inl d1)] at k1
      exact k1
    · rw [E1, Decidable.not_not] at d1
      rw [E2] at d2
      rw [iI_add]
      have k1 := kc _ (by
        unfold exX exY
        rw [if_pos d1, if_neg d2]
        exact exM_x hm hlq (x (cn (dL (σ.1 323)) p) + gg))
      rw [exC, if_pos (Or.inl d1)] at k1
      exact k1
    · rw [E1] at d1
      rw [E2, Decidable.not_not] at d2
      rw [iI_sub]
      have k1 := kc _ (by
        unfold exX exY
        rw [if_neg d1, if_pos d2]
        exact exM_y hm hlp (y (cn (dL (σ.1 323)) q) + gg) (- y (cn (dL (σ.1 323)) q) - gg) (by omega))
      rw [exC, if_pos (Or.inr d2)] at k1
      exact k1
    · rw [E1] at d1
      rw [E2] at d2
      have k1 := kc τ (by
        unfold exX exY
        rw [if_neg d1, if_neg d2]
        exact hm)
      rw [exC, if_neg (fun z => z.elim d1 d2)] at k1
      exact k1
  · exact CEx_no g n hN10 hp hq e4 hch hce (ks (fun z => hce (ce1.mpr z)))
