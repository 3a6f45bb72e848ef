/-! a StringBuilder's ensureCapacityInternal; what else stays as it is -/
def tfr (P : Nat → Prop) (σ τ : dM) : Prop := DS τ = DS σ ∧ ∀ k, P k → DA τ k = DA σ k ∧ (1000 ≤ k → k < 2100 → DA σ k = true → DI τ k = DI σ k ∧ DL τ k = DL σ k ∧ DR τ k = DR σ k ∧ DN τ k = DN σ k)
theorem tfr.rfl {P : Nat → Prop} {σ : dM} : tfr P σ σ := ⟨Eq.refl _, fun _ _ => ⟨Eq.refl _, fun _ _ _ => ⟨Eq.refl _, Eq.refl _, Eq.refl _, Eq.refl _⟩⟩⟩
theorem tfr.tr {P : Nat → Prop} {σ τ υ : dM} (a : tfr P σ τ) (b : tfr P τ υ) : tfr P σ υ := ⟨b.1.trans a.1, fun k hk => ⟨(b.2 k hk).1.trans (a.2 k hk).1, fun h1 h2 h3 => by
  obtain ⟨a1, a2, a3, a4⟩ := (a.2 k hk).2 h1 h2 h3
  obtain ⟨b1, b2, b3, b4⟩ := (b.2 k hk).2 h1 h2 (by rw [(a.2 k hk).1]; exact h3)
  exact ⟨b1.trans a1, b2.trans a2, b3.trans a3, b4.trans a4⟩⟩⟩
theorem tfr.weak {P Q : Nat → Prop} {σ τ : dM} (h : tfr P σ τ) (hq : ∀ k, Q k → P k) : tfr Q σ τ := ⟨h.1, fun k hk => h.2 k (hq k hk)⟩
theorem tfr_fr {P : Nat → Prop} {σ τ : dM} (h : Dfr P σ τ) : tfr P σ τ := ⟨h.1, fun k hk => ⟨(h.2 k hk).2.2.2.2, fun _ _ _ => ⟨(h.2 k hk).1, (h.2 k hk).2.1, (h.2 k hk).2.2.1, (h.2 k hk).2.2.2.1⟩⟩⟩
theorem tfr_rn {σ : dM} {a b : Nat} (hno : ∀ k j, 1000 ≤ k → k < 2100 → DA σ k = true → k ≠ a → k ≠ b → DR σ k j ≠ some a) : tfr (fun k => k ≠ a ∧ k ≠ b) σ (Drn σ a b) := ⟨rfl, fun k hk => ⟨by rw [Drn_A, if_neg hk.2, if_neg hk.1], fun h1 h2 h3 => ⟨funext fun j => by rw [Drn_I, if_neg hk.2], funext fun j => by rw [Drn_L, if_neg hk.2], funext fun j => by
  rw [Drn_R, if_neg hk.2]
  unfold Dro
  rw [if_neg (hno k j h1 h2 h3 hk.1 hk.2)], by rw [Drn_N, if_neg hk.2]⟩⟩⟩
theorem txB_of {σ τ : dM} {a b : Nat} {f : Nat → Nat} {n : Nat} (h : txB σ a f n) (e : DI τ b = DI σ a) : txB τ b f n := by
  unfold txB
  rw [e]
  exact h
theorem sbS_fr {P : Nat → Prop} {σ τ : dM} {f : Nat → Nat} {n m : Nat} (hP : P 1800 ∧ P 1600) (hf : tfr P σ τ) (h : sbS σ f n m) : sbS τ f n m := by
  obtain ⟨⟨h1, h2, h3, h4⟩, ⟨h5, h6⟩, h7, h8⟩ := h
  obtain ⟨a1, a2⟩ := hf.2 1800 hP.1
  obtain ⟨b1, b2⟩ := hf.2 1600 hP.2
  obtain ⟨a3, -, a5, -⟩ := a2 (by omega) (by omega) h1
  obtain ⟨b3, -, -, b6⟩ := b2 (by omega) (by omega) h5
  exact ⟨⟨by rw [a1]; exact h1, by rw [a5]; exact h2, by rw [a3]; exact h3, by rw [a3]; exact h4⟩, ⟨by rw [b1]; exact h5, by rw [b6]; exact h6⟩, h7, txB_of h8 b3⟩
section EJX
variable {g : jG} {h0 : Nat}
def dEn (f : Nat → Nat) (n m q : Nat) : dO := doRI fun a x σ => (a = 1800 ∧ x = nI q ∧ sbS σ f n m ∧ q ≤ 300 ∧ txQ σ ∧ DA σ 1601 = false, fun v τ => v = none ∧ ∃ m', sbS τ f n m' ∧ q ≤ m' ∧ tfr (fun k => k ≠ 1800 ∧ k ≠ 1600 ∧ k ≠ 1601) σ τ ∧ DA τ 1601 = false ∧ txQ τ)
/-- the row grown and put in the old one's place -/
theorem EnG {σ : dM} {f : Nat → Nat} {n m c : Nat} (h : sbS σ f n m) (hm : m < c) (hc : c ≤ 700) (hQ : txQ σ) : ∀ τ, τ = Drn (DuR (DrI (Dnw σ 1601 c) 1601 (va_cpy (DI σ 1600) (fun _ => 0) 0 0 m)) 1800 0 (some 1601)) 1601 1600 → sbS τ f n c ∧ tfr (fun k => k ≠ 1800 ∧ k ≠ 1600 ∧ k ≠ 1601) σ τ ∧ DA τ 1601 = false ∧ txQ τ := by
  rintro τ eτ
  obtain ⟨⟨h1, h2, h3, h4⟩, ⟨h5, h6⟩, h7, h8⟩ := h
  have eI : ∀ i j, DI τ i j = if i = 1600 then va_cpy (DI σ 1600) (fun _ => 0) 0 0 m j else if i = 1601 then va_cpy (DI σ 1600) (fun _ => 0) 0 0 m j else DI σ i j := fun i j => by
    rw [eτ, Drn_I, DuR_I, DrI_I, DrI_I, if_pos rfl, Dnw_I]
    by_cases c1 : i = 1600
    · rw [if_pos c1, if_pos c1]
    · rw [if_neg c1, if_neg c1]
      by_cases c2 : i = 1601
      · rw [if_pos c2, if_pos c2]
      · rw [if_neg c2, if_neg c2, if_neg c2]
  have eR0 : ∀ i j, DR (DuR (DrI (Dnw σ 1601 c) 1601 (va_cpy (DI σ 1600) (fun _ => 0) 0 0 m)) 1800 0 (some 1601)) i j = if i = 1800 ∧ j = 0 then some 1601 else if i = 1601 then none else DR σ i j := fun i j => by
    rw [DuR_R, DrI_R, Dnw_R]
  have eA0 : ∀ i, DA (DuR (DrI (Dnw σ 1601 c) 1601 (va_cpy (DI σ 1600) (fun _ => 0) 0 0 m)) 1800 0 (some 1601)) i = if i = 1601 then true else DA σ i := fun i => by
    rw [DuR_A, DrI_A, Dnw_A]
  have eA : ∀ i, DA τ i = if i = 1600 then true else if i = 1601 then false else DA σ i := fun i => by
    rw [eτ, Drn_A, eA0]
    by_cases c1 : i = 1600
    · rw [if_pos c1, if_pos c1]
    · rw [if_neg c1, if_neg c1]
      by_cases c2 : i = 1601
      · rw [if_pos c2, if_pos c2]
      · rw [if_neg c2, if_neg c2, if_neg c2]
  have no1 : ∀ k j, 1000 ≤ k → k < 2100 → DA σ k = true → DR σ k j ≠ some 1601 := fun k j k1 k2 k3 e => by
    have := hQ k j 1601 k1 k2 k3 e (by omega) (by omega)
    omega
  have eR : ∀ i j, 1000 ≤ i → i < 2100 → DA σ i = true → i ≠ 1600 → i ≠ 1601 → ¬ (i = 1800 ∧ j = 0) → DR τ i j = DR σ i j := fun i j i1 i2 i3 i4 i5 i7 => by
    rw [eτ, Drn_R, if_neg i4, eR0, if_neg i7, if_neg i5]
    unfold Dro
    rw [if_neg (no1 i j i1 i2 i3)]
  refine ⟨⟨⟨?_, ?_, ?_, ?_⟩, ⟨?_, ?_⟩, ⟨by omega, hc⟩, ?_⟩, ?_, ?_, ?_⟩
  · rw [eA, if_neg (by omega), if_neg (by omega)]
    exact h1
  · rw [eτ, Drn_R, if_neg (by omega), eR0, if_pos ⟨rfl, rfl⟩]
    rfl
  · rw [eI, if_neg (by omega), if_neg (by omega)]
    exact h3
  · rw [eI, if_neg (by omega), if_neg (by omega)]
    exact h4
  · rw [eA, if_pos rfl]
  · rw [eτ, Drn_N, if_pos rfl, DuR_N, DrI_N, Dnw_N, if_pos rfl]
  · refine ⟨fun j hj => ?_, fun j => ?_⟩
    · rw [eI, if_pos rfl, pk_cpy_in (by omega) (by omega)]
      have := h8.1 j hj
      rw [show 0 + (j - 0) = j by omega]
      exact this
    · rw [eI, if_pos rfl]
      unfold va_cpy
      split
      · exact h8.2 _
      · exact bf_0
  · refine ⟨by rw [eτ]; rfl, fun k hk => ⟨by rw [eA, if_neg hk.2.1, if_neg hk.2.2], fun k1 k2 k3 => ⟨funext fun j => by rw [eI, if_neg hk.2.1, if_neg hk.2.2], funext fun j => ?_, funext fun j => ?_, ?_⟩⟩⟩
    · rw [eτ, Drn_L, if_neg hk.2.1, DuR_L, DrI_L, Dnw_L, if_neg hk.2.2]
    · exact eR k j k1 k2 k3 hk.2.1 hk.2.2 (fun z => hk.1 z.1)
    · rw [eτ, Drn_N, if_neg hk.2.1, DuR_N, DrI_N, Dnw_N, if_neg hk.2.2]
  · rw [eA, if_neg (by omega), if_pos rfl]
  · intro k j q k1 k2 k3 e q1 q2
    rw [eA] at k3
    rw [eτ, Drn_R, eR0, eR0] at e
    by_cases c1 : k = 1600
    · rw [if_pos c1, if_neg (by omega), if_pos rfl] at e
      cases e
    · rw [if_neg c1] at e k3
      by_cases c2 : k = 1601
      · rw [if_pos c2] at k3
        cases k3
      · rw [if_neg c2] at k3
        by_cases c3 : k = 1800 ∧ j = 0
        · rw [if_pos c3] at e
          unfold Dro at e
          rw [if_pos rfl] at e
          cases e
          exact ⟨c3.2, Or.inl ⟨rfl, c3.1⟩⟩
        · rw [if_neg c3, if_neg c2] at e
          unfold Dro at e
          rw [if_neg (no1 k j k1 k2 k3)] at e
          exact hQ k j q k1 k2 k3 e q1 q2
set_option maxRecDepth 100000 in
set_option maxHeartbeats 4000000 in
theorem EJ5_ensureCapacityInternal (hE : dEt g h0) (n : Nat) (f : Nat → Nat) (k m q : Nat) : dOk g h0 (n + 3) 1 700 [1600, 1601] mJ5_ensureCapacityInternal_d00df (dEn f k m q) := by
  refine doRI_ok ?_
  rintro _ _ σ ⟨rfl, rfl, hs, hq, hQ, hA1⟩
  refine dCon.gt (by decide +kernel) (by simp [lg_sl, Value.category]) (fun z hz0 hkp hcl hz post hp hR => ?_)
  subst hz0
  simp only [DkF] at hkp
  obtain ⟨⟨h1, h2, h3, h4⟩, ⟨h5, h6⟩, h7, h8⟩ := id hs
  have e1 : ∀ x : Int32, x >>> ((0 : Int32) &&& 31) = x := sb_shr0
  have e2 : ∀ x : Int32, x <<< ((0 : Int32) &&& 31) = x := sb_shl0
  have hA9 : DA σ 1800 = true := h1
  show DW g z mJ5_ensureCapacityInternal_d00df 0 [(0, .ref 1800), (1, .int (nI q))] [] σ 0 0
  by_cases c : q ≤ m
  · have c1 : nI q - nI m ≤ 0 := by
      rw [Int32.le_iff_toInt_le, pk_sub_toInt (by omega) (by omega), Int32.toInt_zero]
      omega
    refine dvk_ok (nC := n + 2) DJ5_ensureCapacityInternal_d00df hTyA hR (VC := []) (VD := []) (SD := []) (AL := []) (fun _ h => absurd h List.not_mem_nil) (fun _ h => absurd h List.not_mem_nil) (fun _ h => absurd h List.not_mem_nil) [17] 40 _ _ _ _ _ _ ?_
    simp (maxSteps := 1000000) [↓Bool.cond_eq_ite, -Prod.forall, -Prod.exists, -Prod.mk.injEq, ↓jc_eq_t, ↓jc_eq_f, ↓jc_ne_t, ↓jc_ne_f, ↓jc_lt_t, ↓jc_lt_f, ↓jc_ge_t, ↓jc_ge_f, ↓jc_gt_t, ↓jc_gt_f, ↓jc_le_t, ↓jc_le_f, dvk, tJ5_ensureCapacityInternal_d00df, jtb, jol, dvl, dal, dst, jlk, jcmp, jbin, jfl, qJ5, jc2, qlJ5, jcat, jel, lv_args, Value.category, jins, jsrt, jins2, jble, jblt, jf3, List.filter_cons, List.filter_nil, Dlo, Dnr, DnL, Dfree, Droom, DuS_S, DuS_I, DuS_L, DuS_R, DuS_N, DuS_A, DuI_S, DuI_I, DuI_L, DuI_R, DuI_N, DuI_A, DuL_S, DuL_I, DuL_L, DuL_R, DuL_N, DuL_A, DuR_S, DuR_I, DuR_L, DuR_R, DuR_N, DuR_A, Dnw_S, Dnw_I, Dnw_L, Dnw_R, Dnw_N, Dnw_A, DrI_S, DrI_I, DrI_L, DrI_R, DrI_N, DrI_A, DrJ_S, DrJ_I, DrJ_L, DrJ_R, DrJ_N, DrJ_A, dm64, G_d, G_x0, -Int32.not_le, -Int32.not_lt, -Int64.not_le, -Int64.not_lt, i3lt, i6lt, h1, h2, h3, h5, h6, G_t, c1]
    try simp (disch := omega) [-Prod.forall, -Prod.exists, -Prod.mk.injEq, -Int32.not_le, -Int32.not_lt, -Int64.not_le, -Int64.not_lt, i3lt, i6lt, h1, h2, h3, h5, h6, G_t, c1]
    exact ⟨⟨by omega, by omega⟩, σ, Dsub.rfl hcl, hp _ _ ⟨rfl, m, hs, c, tfr.rfl, hA1, hQ⟩⟩
  · have c1 : ¬ nI q - nI m ≤ 0 := by
      rw [Int32.le_iff_toInt_le, pk_sub_toInt (by omega) (by omega), Int32.toInt_zero]
      omega
    have l1 := ncp_le (q := q) (m := m) (by omega) hq
    refine dvk_ok (nC := n + 2) DJ5_ensureCapacityInternal_d00df hTyA hR (VC := []) (VD := []) (SD := []) (AL := []) (fun _ h => absurd h List.not_mem_nil) (fun _ h => absurd h List.not_mem_nil) (fun _ h => absurd h List.not_mem_nil) [38, 24] 40 _ _ _ _ _ _ ?_
    simp (maxSteps := 1000000) [↓Bool.cond_eq_ite, -Prod.forall, -Prod.exists, -Prod.mk.injEq, ↓jc_eq_t, ↓jc_eq_f, ↓jc_ne_t, ↓jc_ne_f, ↓jc_lt_t, ↓jc_lt_f, ↓jc_ge_t, ↓jc_ge_f, ↓jc_gt_t, ↓jc_gt_f, ↓jc_le_t, ↓jc_le_f, dvk, tJ5_ensureCapacityInternal_d00df, jtb, jol, dvl, dal, dst, jlk, jcmp, jbin, jfl, qJ5, jc2, qlJ5, jcat, jel, lv_args, Value.category, jins, jsrt, jins2, jble, jblt, jf3, List.filter_cons, List.filter_nil, Dlo, Dnr, DnL, Dfree, Droom, DuS_S, DuS_I, DuS_L, DuS_R, DuS_N, DuS_A, DuI_S, DuI_I, DuI_L, DuI_R, DuI_N, DuI_A, DuL_S, DuL_I, DuL_L, DuL_R, DuL_N, DuL_A, DuR_S, DuR_I, DuR_L, DuR_R, DuR_N, DuR_A, Dnw_S, Dnw_I, Dnw_L, Dnw_R, Dnw_N, Dnw_A, DrI_S, DrI_I, DrI_L, DrI_R, DrI_N, DrI_A, DrJ_S, DrJ_I, DrJ_L, DrJ_R, DrJ_N, DrJ_A, dm64, G_d, G_x0, -Int32.not_le, -Int32.not_lt, -Int64.not_le, -Int64.not_lt, i3lt, i6lt, h1, h2, h3, h5, h6, G_t, c1]
    try simp (disch := omega) [-Prod.forall, -Prod.exists, -Prod.mk.injEq, -Int32.not_le, -Int32.not_lt, -Int64.not_le, -Int64.not_lt, i3lt, i6lt, h1, h2, h3, h5, h6, G_t, c1]
    have hc := EJ5_newCapacity (g := g) (h0 := z.2.2.2.2) n q m [.ref 1800, .int (nI q)] σ ⟨rfl, rfl, ⟨⟨h1, h2, h3⟩, h5, h6⟩, by omega, hq⟩
    refine dr_callU (idx := 104) (mt' := mJ5_newCapacity_0f7a4) (tl := []) (n' := n + 2) (mc := 0) (ms := 0) (C := "java/lang/StringBuilder") (x := yJ5_newCapacity_0f7a4) (ci := 14) (T := TJ4) (N := 4) (a := 1800) (as := [.int (nI q)]) ⟨by omega, by show 8 + (6 + 11) + 64 * (n + 2) ≤ _; omega, by omega, by omega⟩ trivial (by decide +kernel) hJ5_104 (jGw_of 1702 (by decide +kernel) (by decide +kernel)) (Or.inr (fun U H h => (hE.2 U H h).2.2.2.2.2 _ (by decide +kernel))) ⟨UJ5_newCapacity_0f7a4.2, _, _, _, UJ5_newCapacity_0f7a4.1.2.1⟩ rfl (by decide +kernel) UJ5_newCapacity_0f7a4 rfl (by decide +kernel) hA9 rfl rfl (by simp [Value.category]) hc ?_
    rintro v τ ⟨rfl, rfl⟩
    show DW g z mJ5_ensureCapacityInternal_d00df 27 _ [.int (nI (ncp q m)), .ref 1600, .ref 1800] τ 0 0
    refine dvk_ok (nC := n + 2) DJ5_ensureCapacityInternal_d00df hTyA hR (VC := []) (VD := []) (SD := []) (AL := []) (fun _ h => absurd h List.not_mem_nil) (fun _ h => absurd h List.not_mem_nil) (fun _ h => absurd h List.not_mem_nil) [32] 40 _ _ _ _ _ _ ?_
    simp (maxSteps := 1000000) [↓Bool.cond_eq_ite, -Prod.forall, -Prod.exists, -Prod.mk.injEq, ↓jc_eq_t, ↓jc_eq_f, ↓jc_ne_t, ↓jc_ne_f, ↓jc_lt_t, ↓jc_lt_f, ↓jc_ge_t, ↓jc_ge_f, ↓jc_gt_t, ↓jc_gt_f, ↓jc_le_t, ↓jc_le_f, dvk, tJ5_ensureCapacityInternal_d00df, jtb, jol, dvl, dal, dst, jlk, jcmp, jbin, jfl, qJ5, jc2, qlJ5, jcat, jel, lv_args, Value.category, jins, jsrt, jins2, jble, jblt, jf3, List.filter_cons, List.filter_nil, Dlo, Dnr, DnL, Dfree, Droom, DuS_S, DuS_I, DuS_L, DuS_R, DuS_N, DuS_A, DuI_S, DuI_I, DuI_L, DuI_R, DuI_N, DuI_A, DuL_S, DuL_I, DuL_L, DuL_R, DuL_N, DuL_A, DuR_S, DuR_I, DuR_L, DuR_R, DuR_N, DuR_A, Dnw_S, Dnw_I, Dnw_L, Dnw_R, Dnw_N, Dnw_A, DrI_S, DrI_I, DrI_L, DrI_R, DrI_N, DrI_A, DrJ_S, DrJ_I, DrJ_L, DrJ_R, DrJ_N, DrJ_A, dm64, G_d, G_x0, -Int32.not_le, -Int32.not_lt, -Int64.not_le, -Int64.not_lt, i3lt, i6lt, h1, h2, h3, h5, h6, G_t]
    try simp (disch := omega) [-Prod.forall, -Prod.exists, -Prod.mk.injEq, -Int32.not_le, -Int32.not_lt, -Int64.not_le, -Int64.not_lt, i3lt, i6lt, h1, h2, h3, h5, h6, G_t]
    have hc := EJ7_copyOf (g := g) (h0 := z.2.2.2.2) n (ncp q m) m [.ref 1600, .int (nI (ncp q m))] τ ⟨rfl, rfl, h5, h6, l1.1, l1.2.2, h8.2, hA1⟩
    refine dr_callS (idx := 108) (mt' := mJ7_copyOf_9075b) (tl := [1601]) (n' := n + 1) (mc := 1) (ms := 700) (as := [.ref 1600, .int (nI (ncp q m))]) ⟨by omega, by show 8 + (3 + 11) + 64 * (n + 1) ≤ _; omega, by omega, by omega⟩ (by simp [Dfree, DnL, Dnr, hkp]) (by decide +kernel) (Or.inl hJ5_108) WJ7_copyOf_9075b rfl rfl (by simp [Value.category]) hc ?_
    rintro v υ ⟨rfl, rfl⟩
    show DW g z mJ5_ensureCapacityInternal_d00df 35 _ [.ref 1601, .ref 1800] _ 1 700
    refine dr_putr qJ5_15 (by decide +kernel) (by rw [DrI_A, Dnw_A, if_neg (by decide)]; exact h1) (Or.inr (Dal_hi (by decide) (by decide) (by rw [DrI_A, Dnw_A, if_pos rfl]))) (by decide +kernel) ?_
    obtain ⟨ρ, eρ⟩ : ∃ ρ, ρ = Drn (DuR (DrI (Dnw τ 1601 (ncp q m)) 1601 (va_cpy (DI τ 1600) (fun _ => 0) 0 0 m)) 1800 0 (some 1601)) 1601 1600 := ⟨_, rfl⟩
    obtain ⟨r1, r2, r3, r4⟩ := EnG hs l1.1 l1.2.2 hQ ρ eρ
    refine DW.rn (a := 1601) (b := 1600) (by decide) (by decide) (by decide) (by decide) (by decide) (by simp [hkp]) (by decide +kernel) (by rw [DuR_A, DrI_A, Dnw_A, if_pos rfl]) (fun k j k1 k2 k3 k4 e => ?_) (by simp [DnL]) (by simp [Dnr]) ?_
    · rw [DuR_R, DrI_R, Dnw_R] at e
      rw [DuR_A, DrI_A, Dnw_A] at k3
      split at e
      · cases e
      · rename_i c3
        split at e
        · cases e
        · rename_i c4
          rw [if_neg c4] at k3
          have := hQ k j 1600 k1 k2 k3 e (by omega) (by omega)
          omega
    · rw [← eρ]
      refine DW.cl (fun hcl9 => ?_)
      show DW g z mJ5_ensureCapacityInternal_d00df 38 _ [] ρ 1 700
      refine dvk_ok (nC := n + 2) DJ5_ensureCapacityInternal_d00df hTyA hR (VC := []) (VD := []) (SD := []) (AL := []) (fun _ h => absurd h List.not_mem_nil) (fun _ h => absurd h List.not_mem_nil) (fun _ h => absurd h List.not_mem_nil) [] 10 _ _ _ _ _ _ ?_
      simp (maxSteps := 1000000) [↓Bool.cond_eq_ite, -Prod.forall, -Prod.exists, -Prod.mk.injEq, ↓jc_eq_t, ↓jc_eq_f, ↓jc_ne_t, ↓jc_ne_f, ↓jc_lt_t, ↓jc_lt_f, ↓jc_ge_t, ↓jc_ge_f, ↓jc_gt_t, ↓jc_gt_f, ↓jc_le_t, ↓jc_le_f, dvk, tJ5_ensureCapacityInternal_d00df, jtb, jol, dvl, dal, dst, jlk, jcmp, jbin, jfl, qJ5, jc2, qlJ5, jcat, jel, lv_args, Value.category, jins, jsrt, jins2, jble, jblt, jf3, List.filter_cons, List.filter_nil, Dlo, Dnr, DnL, Dfree, Droom, DuS_S, DuS_I, DuS_L, DuS_R, DuS_N, DuS_A, DuI_S, DuI_I, DuI_L, DuI_R, DuI_N, DuI_A, DuL_S, DuL_I, DuL_L, DuL_R, DuL_N, DuL_A, DuR_S, DuR_I, DuR_L, DuR_R, DuR_N, DuR_A, Dnw_S, Dnw_I, Dnw_L, Dnw_R, Dnw_N, Dnw_A, DrI_S, DrI_I, DrI_L, DrI_R, DrI_N, DrI_A, DrJ_S, DrJ_I, DrJ_L, DrJ_R, DrJ_N, DrJ_A, dm64, G_d, G_x0, -Int32.not_le, -Int32.not_lt, -Int64.not_le, -Int64.not_lt, i3lt, i6lt]
      try simp (disch := omega) [-Prod.forall, -Prod.exists, -Prod.mk.injEq, -Int32.not_le, -Int32.not_lt, -Int64.not_le, -Int64.not_lt, i3lt, i6lt]
      exact ⟨⟨by omega, by omega⟩, _, Dsub.rfl hcl9, hp _ _ ⟨rfl, _, r1, l1.2.1, r2, r3, r4⟩⟩
end EJX
