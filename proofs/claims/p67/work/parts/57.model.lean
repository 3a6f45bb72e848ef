/-! the reference: payments, laid -/
theorem spS_congr {A m : Nat} {w w' : Nat → Nat} (h : ∀ i, i < m → w i = w' i) : ∀ i, i < m → spS A w m i = spS A w' m i := by
  have e1 : smN w m = smN w' m := smN_congr m h
  have e2 : spA w m = spA w' m := by unfold spA; rw [e1]
  have e3 : ∀ i, i < m → spW w m i = spW w' m i := fun i hi => by unfold spW; rw [e1, h i hi]
  have e4 : ∀ i, i < m → spP A w m i = spP A w' m i := fun i hi => by unfold spP; rw [e2, e3 i hi]
  have e5 : ∀ i, i < m → spR A w m i = spR A w' m i := fun i hi => by unfold spR; rw [e2, e3 i hi]
  have e6 : spL A w m = spL A w' m := by unfold spL; rw [smN_congr m e4]
  intro i hi
  unfold spS
  rw [e6]
  exact hoS_congr _ _ _ _ _ (fun j hj => ⟨by rw [e5 j hj], by rw [e4 j hj]⟩) i hi
