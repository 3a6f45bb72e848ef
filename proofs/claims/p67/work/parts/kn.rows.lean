/-! rows of references copied, nothing put into a row, a value doubled below; a list's get -/
/-- a part of a row of references copied inside it -/
def Dcp (δ : dM) (a sp dp n : Nat) : dM := (δ.1, δ.2.1, δ.2.2.1, fun i j => if i = a ∧ dp ≤ j ∧ j < dp + n then δ.2.2.2.1 a (sp + (j - dp)) else δ.2.2.2.1 i j, δ.2.2.2.2)
theorem Dcp_R (σ : dM) (a sp dp n i j : Nat) : DR (Dcp σ a sp dp n) i j = if i = a ∧ dp ≤ j ∧ j < dp + n then DR σ a (sp + (j - dp)) else DR σ i j := rfl
section DROWS
variable {g : jG} {z : dZ} {mt : jMt} {pc : Nat} {L : List (Nat × Value)} {r : List Value} {σ : dM} {c0 s0 : Nat}
theorem dr_dupx1 {v w : Value} (h : v.category = 1) (h2 : w.category = 1) (d : decode mt.2.1 pc = .ok (.dup_x1, 1)) (k : DW g z mt (pc + 1) L (v :: w :: v :: r) σ c0 s0) : DW g z mt pc L (v :: w :: r) σ c0 s0 := by
  intro p e s m as below meth c H locs ls da X hD hP hS hl
  exact lv_dup_x1 X.1 X.2.1 d (by rw [jrl_cat]; exact h) (by rw [jrl_cat]; exact h2) (k p e s m as below meth c H locs ls da X hD hP hS hl)
theorem Dcl_R9 (ε : dM) (hA2 : ∀ k, Dal ε k = Dal σ k) (h : Dcl0 σ) (hR : ∀ x j k, DR ε x j = some k → ∃ j2, DR σ x j2 = some k) : Dcl0 ε := by
  intro x j k hx hx2 e
  obtain ⟨j2, e2⟩ := hR x j k e
  rw [hA2] at hx ⊢
  exact h x j2 k hx hx2 e2
theorem dr_aastN {a : Nat} {j : Int32} (ha : darr a 4 9 = true) (hA : DA σ a = true) (hj : jin j (DN σ a)) (d : decode mt.2.1 pc = .ok (.aastore, 1)) (k : DW g z mt (pc + 1) L r (DuR σ a j.toNatClampNeg none) c0 s0) : DW g z mt pc L (.null :: .int j :: .ref a :: r) σ c0 s0 := by
  intro p e s m as below meth c H locs ls da X hD hP hS hl
  obtain ⟨h1, h2, h3, h4⟩ := darr_spec ha
  obtain ⟨i, hi, hg⟩ := Dws_get (g := g) (da := da) (Dal_hi h1 h2 hA)
  rw [Dce_4 h1 h3, h4] at hg
  refine va_astqN X.1 X.2.1 X.2.2.2.2.2.2.2.2.1 hP (DD hD.1) hS i 9 hg (Dtys_get g (by decide)) (jin_vp hj) d (fun H1 locs1 hP1 hD1 hS1 => ?_)
  have hok : Dok g z.2.2.2.2 da (DuR σ a j.toNatClampNeg none) := ⟨hD.1.1, hD.1.2.1, Dcl_R9 (σ := σ) (DuR σ a j.toNatClampNeg none) (fun _ => rfl) hD.1.2.2 (fun x j2 k2 e => by
    rw [DuR_R] at e
    split at e
    · cases e
    · exact ⟨_, e⟩)⟩
  refine k p e s m as below meth c H1 locs1 ls da X ⟨hok, hD.2⟩ (Dws_set hi (fun _ => rfl) ?_ (fun q hq _ => DuR_ne hq) hP1) hS1 hl
  have e7 : (fun q => (DR (DuR σ a j.toNatClampNeg none) a q).map (Dadr g da)) = va_up (fun q => (DR σ a q).map (Dadr g da)) j.toNatClampNeg none := funext fun q => by
    rw [DuR_R]
    unfold va_up
    by_cases c : q = j.toNatClampNeg
    · rw [if_pos ⟨rfl, c⟩, if_pos c]
      rfl
    · rw [if_neg (fun z => c z.2), if_neg c]
  rw [Dce_4 h1 h3, h4, e7]
  rfl
theorem dr_copyq {a idx : Nat} {sp dp m9 : Int32} (ha : darr a 4 9 = true) (hA : DA σ a = true) (h1 : ¬ sp < 0) (h2 : ¬ dp < 0) (h3 : ¬ m9 < 0) (h4 : sp.toNatClampNeg + m9.toNatClampNeg ≤ DN σ a) (h5 : dp.toNatClampNeg + m9.toNatClampNeg ≤ DN σ a)
    (hel : ∀ i, i < m9.toNatClampNeg → ∀ y, DR σ a (sp.toNatClampNeg + i) = some y → darr y 1 0 = true ∧ DA σ y = true) (hst : (r.map fun v => v.category).sum ≤ 8) (hf : 1 ≤ z.1.frames ∧ 26 ≤ z.1.locals)
    (hE : ∀ (U : State) (H : Heap), jE g U H → va_Nw (.castable "[I" "java/lang/Object") U) (hlk : Cond.methodLink mt.1.cls idx arraycopyName ∈ jGw) (d : decode mt.2.1 pc = .ok (.invokestatic idx, 3)) (k : DW g z mt (pc + 3) L r (Dcp σ a sp.toNatClampNeg dp.toNatClampNeg m9.toNatClampNeg) c0 s0) : DW g z mt pc L (.int m9 :: .int dp :: .ref a :: .int sp :: .ref a :: r) σ c0 s0 := by
  intro p e s m as below meth c H locs ls da X hD hP hS hl
  have hts : ∀ w ∈ jGw, w.before as s = true := fun w hw => X.2.2.2.2.2.2.1 _ (List.mem_cons_of_mem _ hw)
  obtain ⟨a1, a2, a3, a4⟩ := darr_spec ha
  obtain ⟨i, hi, hg⟩ := Dws_get (g := g) (da := da) (Dal_hi a1 a2 hA)
  rw [Dce_4 a1 a3, a4] at hg
  have hK := X.2.2.2.2.2.2.2.2.1
  have hT := Dtys_get g (show 9 < 10 by decide)
  refine va_copyq (C := "[I") (n := m9) X.1 X.2.1 (X.2.2.1.trans hl.1.symm) X.2.2.2.2.2.1 (hts _ hlk) (hts _ acp_w.1) (hts _ acp_w.2.1) (hts _ acp_w.2.2) hK hP (DD hD.1) hS i i 9 9 hg hg hT hT h1 h2 h3 h4 h5 (fun i9 hi9 y hy => ?_) (vb_asgC (hE _ _ X.2.2.2.2.2.2.2.2.2.2.2)) hf.1 ?_ d (fun H1 locs1 hP1 hD1 hS1 => ?_)
  · cases e9 : DR σ a (sp.toNatClampNeg + i9) with
    | none =>
      rw [e9] at hy
      cases hy
    | some y9 =>
      rw [e9] at hy
      cases hy
      obtain ⟨b1, b2⟩ := hel i9 hi9 y9 e9
      obtain ⟨q1, q2, q3, q4⟩ := darr_spec b1
      have hc := Dws_at hP (Dal_hi q1 q2 b2)
      rw [Dce_1 q1 q3, q4] at hc
      exact ⟨_, hc, rfl, (hK.2 0 _ (Dtys_get g (by decide))).2⟩
  · have := Dcat (g := g) da hst
    have e2 : nativeFrameWords "java/lang/System" "arraycopy" 5 = 7 := by decide
    rw [e2]
    have := hf.2
    omega
  · have hok : Dok g z.2.2.2.2 da (Dcp σ a sp.toNatClampNeg dp.toNatClampNeg m9.toNatClampNeg) := ⟨hD.1.1, hD.1.2.1, Dcl_R9 (σ := σ) (Dcp σ a sp.toNatClampNeg dp.toNatClampNeg m9.toNatClampNeg) (fun _ => rfl) hD.1.2.2 (fun x j2 k2 e => by
      rw [Dcp_R] at e
      split at e
      · rename_i c
        rw [c.1]
        exact ⟨_, e⟩
      · exact ⟨_, e⟩)⟩
    refine k p e s m as below meth c H1 locs1 ls da X ⟨hok, hD.2⟩ (Dws_set hi (fun _ => rfl) ?_ (fun q hq _ => ?_) hP1) hS1 hl
    · have e7 : (fun q => (DR (Dcp σ a sp.toNatClampNeg dp.toNatClampNeg m9.toNatClampNeg) a q).map (Dadr g da)) = va_cpy (fun q => (DR σ a q).map (Dadr g da)) (fun q => (DR σ a q).map (Dadr g da)) sp.toNatClampNeg dp.toNatClampNeg m9.toNatClampNeg := funext fun q => by
        rw [Dcp_R]
        unfold va_cpy
        by_cases c : dp.toNatClampNeg ≤ q ∧ q < dp.toNatClampNeg + m9.toNatClampNeg
        · rw [if_pos ⟨rfl, c⟩, if_pos c]
        · rw [if_neg (fun z => c z.2), if_neg c]
      rw [Dce_4 a1 a3, a4, e7]
      rfl
    · refine Dce_cg rfl rfl rfl (fun j => ?_) rfl
      rw [Dcp_R, if_neg (fun z => hq z.1)]
end DROWS
def doIIN (f : Int32 → Int32 → dM → Prop × (Option Value → dM → Prop)) : dO := fun args σ => match args with
  | [.int i0, .int i1, .null] => f i0 i1 σ
  | _ => (False, fun _ _ => False)
theorem doIIN_ok {g : jG} {h0 n mc ms : Nat} {tl : List Nat} {mt : jMt} {f : Int32 → Int32 → dM → Prop × (Option Value → dM → Prop)} (h : ∀ (i0 i1 : Int32) (σ : dM), (f i0 i1 σ).1 → dCon g h0 n mc ms tl mt [.int i0, .int i1, .null] σ (f i0 i1 σ).2) : dOk g h0 n mc ms tl mt (doIIN f) := by
  intro args σ hp
  unfold doIIN at hp ⊢
  split at hp
  · exact h _ _ σ hp
  · exact hp.elim
def doRRI (f : Nat → Nat → Int32 → dM → Prop × (Option Value → dM → Prop)) : dO := fun args σ => match args with
  | [.ref a0, .ref a1, .int i2] => f a0 a1 i2 σ
  | _ => (False, fun _ _ => False)
theorem doRRI_ok {g : jG} {h0 n mc ms : Nat} {tl : List Nat} {mt : jMt} {f : Nat → Nat → Int32 → dM → Prop × (Option Value → dM → Prop)} (h : ∀ (a0 a1 : Nat) (i2 : Int32) (σ : dM), (f a0 a1 i2 σ).1 → dCon g h0 n mc ms tl mt [.ref a0, .ref a1, .int i2] σ (f a0 a1 i2 σ).2) : dOk g h0 n mc ms tl mt (doRRI f) := by
  intro args σ hp
  unfold doRRI at hp ⊢
  split at hp
  · exact h _ _ _ σ hp
  · exact hp.elim
def dJ3_checkIndex_8e157 : dO := doIIN fun i c σ => (jin i c.toNatClampNeg, fun v τ => v = some (.int i) ∧ τ = σ)
def dJ15_checkIndex_7cf53 : dO := doII fun i c σ => (jin i c.toNatClampNeg, fun v τ => v = some (.int i) ∧ τ = σ)
theorem jin_i {i c : Int32} (h : jin i c.toNatClampNeg) : ¬ i < 0 ∧ i < c := by
  have h1 := jin_vp h
  unfold vp_in at h1
  have h0 : ¬ i < 0 := fun z => h1 (Or.inl z)
  refine ⟨h0, ?_⟩
  have h2 : ¬ c.toNatClampNeg ≤ i.toNatClampNeg := fun z => h1 (Or.inr z)
  rw [Int32.lt_iff_toInt_lt] at h0 ⊢
  have e0 : (0 : Int32).toInt = 0 := rfl
  rw [e0] at h0
  have e1 : c.toNatClampNeg = c.toInt.toNat := rfl
  have e2 : i.toNatClampNeg = i.toInt.toNat := rfl
  omega
