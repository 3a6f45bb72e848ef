/-! Bill -/
def blF (b : Nat) : Prop := jisO b 0 = true ∧ jobj b 0 0 2 = true ∧ jref b 0 = b + 1 ∧ jobj b 0 1 2 = true ∧ jref b 1 = b + 2 ∧ jobj b 0 2 2 = true ∧ jref b 2 = b + 3 ∧ jobj b 0 3 2 = true ∧ jref b 3 = b + 4 ∧ arF (b + 1) ∧ arF (b + 2) ∧ arF (b + 3) ∧ spF (b + 4)
theorem blF_of {b : Nat} (h : b = 276 ∨ b = 282) : blF b := by
  rcases h with rfl | rfl
  · exact ⟨by decide +kernel, by decide +kernel, by decide +kernel, by decide +kernel, by decide +kernel, by decide +kernel, by decide +kernel, by decide +kernel, by decide +kernel, ⟨by decide +kernel, by decide +kernel⟩, ⟨by decide +kernel, by decide +kernel⟩, ⟨by decide +kernel, by decide +kernel⟩, by decide +kernel, by decide +kernel, by decide +kernel, by decide +kernel, by decide +kernel⟩
  · exact ⟨by decide +kernel, by decide +kernel, by decide +kernel, by decide +kernel, by decide +kernel, by decide +kernel, by decide +kernel, by decide +kernel, by decide +kernel, ⟨by decide +kernel, by decide +kernel⟩, ⟨by decide +kernel, by decide +kernel⟩, ⟨by decide +kernel, by decide +kernel⟩, by decide +kernel, by decide +kernel, by decide +kernel, by decide +kernel, by decide +kernel⟩
def oX11_incomePart : jO := joII fun x y σ => (True, fun v τ => v = some (.int (x * y / 100)) ∧ τ = σ)
set_option maxRecDepth 100000 in
set_option maxHeartbeats 4000000 in
theorem CX11_incomePart (g : jG) (n : Nat) : jOk g (n + 0) mX11_incomePart oX11_incomePart := by
  refine joII_ok ?_
  rintro x y σ -
  refine jCon.ofP (by decide +kernel) (by simp [lg_sl, Value.category]) (fun post hp => ?_)
  refine jvk_ok TX11_incomePart (V := []) (S := []) (fun _ h => absurd h List.not_mem_nil) (fun _ h => absurd h List.not_mem_nil) [] 20 _ _ _ _ ?_
  simp (maxSteps := 1000000) [↓Bool.cond_eq_ite, -Prod.forall, -Prod.exists, -Prod.mk.injEq, jvk, tX11_incomePart, jtb, jol, jst, jlk, jcmp, jbin, jfl, fX11, jc2, lX11, jcat, jel, lv_args, Value.category, jins, jsrt, jins2, jble, jblt, jf3, List.filter_cons, List.filter_nil, G_x, G_flat, G_loader, G_roster, G_lroster, G_lflat, G_history, G_prop, G_choice, G_tchoice, G_settle, G_page, -Int32.not_le, -Int32.not_lt, -Int64.not_le, -Int64.not_lt, i3lt, i6lt]
  try simp (disch := omega) [-Prod.forall, -Prod.exists, -Prod.mk.injEq, -Int32.not_le, -Int32.not_lt, -Int64.not_le, -Int64.not_lt, i3lt, i6lt]
  exact hp _ _ ⟨rfl, rfl⟩
/-- prices of the places, in parts -/
def prC (P : Int) (m : Nat) (B : Nat → Int) (i : Nat) : Int := B i + (120 * P - sI B m).tdiv m
def prePr (σ : jM) (q : Nat) (x z : Int32) : Prop := ∃ m P : Nat, x = nI m ∧ 0 < m ∧ m ≤ 6 ∧ z = nI P ∧ P ≤ 99999 ∧ ∀ i, i < m → -10000000 ≤ ivI σ q i ∧ ivI σ q i ≤ 10000000
def oX0_setPrices : jO := joRIRI fun b x q z σ => (blF b ∧ arF q ∧ q ≠ b + 1 ∧ prePr σ q x z, fun v τ => v = none ∧ jfr (gvA (b + 1)) b0 σ τ ∧ ∀ i, i < x.toNatClampNeg → τ.1 (b + 1) i = iI (prC z.toInt x.toNatClampNeg (ivI σ q) i))
set_option maxRecDepth 100000 in
set_option maxHeartbeats 4000000 in
theorem CX0_setPrices (g : jG) (n : Nat) : jOk g (n + 0) mX0_setPrices oX0_setPrices := by
  refine joRIRI_ok ?_
  rintro b _ q _ σ ⟨hF, hq, hqb, m, P, rfl, hm0, hm6, rfl, hP, hB⟩
  obtain ⟨f0, f1, f2, -, -, -, -, -, -, ⟨f9, f10⟩, -, -, -⟩ := hF
  obtain ⟨g1, g2⟩ := hq
  have ecm : (nI m).toNatClampNeg = m := nI_clamp (by omega)
  have ezP : (nI P).toInt = (P : Int) := nI_toInt (by omega)
  have m0 : ¬ nI m ≤ 0 := nI_nle hm0 (by omega)
  have eP : nI P * 120 = iI (120 * (P : Int)) := by
    rw [← iI_nat]
    have := iI_mul (P : Int) 120
    rw [Int.mul_comm] at this
    exact this
  have hsb := sI_bd (f := ivI σ q) (B := 10000000) m hB
  have hsm : (10000000 : Int) * m ≤ 60000000 := by omega
  refine jCon.ofP (by decide +kernel) (by simp [lg_sl, Value.category]) (fun post hp => ?_)
  refine jvk_ok TX0_setPrices (V := []) (S := []) (fun _ h => absurd h List.not_mem_nil) (fun _ h => absurd h List.not_mem_nil) [14] 20 _ _ _ _ ?_
  simp (maxSteps := 1000000) [↓Bool.cond_eq_ite, -Prod.forall, -Prod.exists, -Prod.mk.injEq, jvk, tX0_setPrices, jtb, jol, jst, jlk, jcmp, jbin, jfl, fX0, jc2, lX0, jcat, jel, lv_args, Value.category, jins, jsrt, jins2, jble, jblt, jf3, List.filter_cons, List.filter_nil, G_prop, -Int32.not_le, -Int32.not_lt, -Int64.not_le, -Int64.not_lt, i3lt, i6lt, m0, eP]
  try simp (disch := omega) [-Prod.forall, -Prod.exists, -Prod.mk.injEq, -Int32.not_le, -Int32.not_lt, -Int64.not_le, -Int64.not_lt, i3lt, i6lt, m0, eP]
  rw [ecm, ezP] at hp
  have second := jloop (P := fun k => ∀ τ : jM, jfr (gvA (b + 1)) b0 σ τ → (∀ i, i < k → τ.1 (b + 1) i = iI (prC P m (ivI σ q) i)) → jW g mX0_setPrices n post 44 [(0, .ref b), (1, .int (nI m)), (2, .ref q), (5, .int (iI ((120 * (P : Int) - sI (ivI σ q) m).tdiv m))), (6, .int (nI k))] [] τ) (N := m) (fun τ f h => by
    have hle : nI m ≤ nI m := nI_le (Nat.le_refl _) (by omega)
    refine jvk_ok TX0_setPrices (V := []) (S := []) (fun _ h => absurd h List.not_mem_nil) (fun _ h => absurd h List.not_mem_nil) [44] 20 _ _ _ _ ?_
    simp (maxSteps := 1000000) [↓Bool.cond_eq_ite, -Prod.forall, -Prod.exists, -Prod.mk.injEq, jvk, tX0_setPrices, jtb, jol, jst, jlk, jcmp, jbin, jfl, fX0, jc2, lX0, jcat, jel, lv_args, Value.category, jins, jsrt, jins2, jble, jblt, jf3, List.filter_cons, List.filter_nil, G_prop, -Int32.not_le, -Int32.not_lt, -Int64.not_le, -Int64.not_lt, i3lt, i6lt, hle]
    try simp (disch := omega) [-Prod.forall, -Prod.exists, -Prod.mk.injEq, -Int32.not_le, -Int32.not_lt, -Int64.not_le, -Int64.not_lt, i3lt, i6lt, hle]
    exact hp _ _ ⟨rfl, f, h⟩) (fun k hk ih τ f h => by
    have hlt : ¬ nI m ≤ nI k := nI_ge hk (by omega)
    have jk : jin (nI k) 6 := jin_nI (by omega) (by decide)
    have eck : (nI k).toNatClampNeg = k := nI_clamp (by omega)
    have eq : τ.1 q k = iI (ivI σ q k) := by
      rw [f.2.2 q k (by unfold gvA; simp only [Bool.and_eq_false_iff, beq_eq_false_iff_ne]; exact Or.inl hqb)]
      exact (iI_of _).symm
    have ea : iI (ivI σ q k) + iI ((120 * (P : Int) - sI (ivI σ q) m).tdiv m) = iI (prC P m (ivI σ q) k) := iI_add _ _
    have k1 := ih (jup τ (b + 1) k (iI (prC P m (ivI σ q) k))) (f.up _ (by unfold gvA; simp [jble]; omega)) (fun i hi => by
      rw [jup_1]
      by_cases z : i = k
      · rw [if_pos ⟨rfl, z⟩, z]
      · rw [if_neg (fun w => z w.2)]; exact h i (by omega))
    refine jvk_ok TX0_setPrices (V := []) (S := []) (fun _ h => absurd h List.not_mem_nil) (fun _ h => absurd h List.not_mem_nil) [44] 30 _ _ _ _ ?_
    simp (maxSteps := 1000000) [↓Bool.cond_eq_ite, -Prod.forall, -Prod.exists, -Prod.mk.injEq, jvk, tX0_setPrices, jtb, jol, jst, jlk, jcmp, jbin, jfl, fX0, jc2, lX0, jcat, jel, lv_args, Value.category, jins, jsrt, jins2, jble, jblt, jf3, List.filter_cons, List.filter_nil, G_prop, -Int32.not_le, -Int32.not_lt, -Int64.not_le, -Int64.not_lt, i3lt, i6lt, f0, f1, f2, f9, f10, g1, g2, hlt, jk, eck, eq, ea, nI_1]
    try simp (disch := omega) [-Prod.forall, -Prod.exists, -Prod.mk.injEq, -Int32.not_le, -Int32.not_lt, -Int64.not_le, -Int64.not_lt, i3lt, i6lt, f0, f1, f2, f9, f10, g1, g2, hlt, jk, eck, eq, ea, nI_1]
    exact k1)
  have first := jloop (P := fun k => jW g mX0_setPrices n post 14 [(0, .ref b), (1, .int (nI m)), (2, .ref q), (4, .int (iI (120 * (P : Int) - sI (ivI σ q) k))), (5, .int (nI k))] [] σ) (N := m) (by
    have hle : nI m ≤ nI m := nI_le (Nat.le_refl _) (by omega)
    have m0' : ¬ nI m = 0 := nI_ne0 hm0 (by omega)
    have ed : iI (120 * (P : Int) - sI (ivI σ q) m) / nI m = iI ((120 * (P : Int) - sI (ivI σ q) m).tdiv m) := by
      rw [← iI_nat]
      exact iI_tdiv ⟨by omega, by omega⟩ ⟨by omega, by omega⟩
    have k1 := second σ jfr.rfl (fun i hi => by omega)
    rw [nI_0] at k1
    refine jvk_ok TX0_setPrices (V := []) (S := []) (fun _ h => absurd h List.not_mem_nil) (fun _ h => absurd h List.not_mem_nil) [14, 44] 30 _ _ _ _ ?_
    simp (maxSteps := 1000000) [↓Bool.cond_eq_ite, -Prod.forall, -Prod.exists, -Prod.mk.injEq, jvk, tX0_setPrices, jtb, jol, jst, jlk, jcmp, jbin, jfl, fX0, jc2, lX0, jcat, jel, lv_args, Value.category, jins, jsrt, jins2, jble, jblt, jf3, List.filter_cons, List.filter_nil, G_prop, -Int32.not_le, -Int32.not_lt, -Int64.not_le, -Int64.not_lt, i3lt, i6lt, hle, m0', ed]
    try simp (disch := omega) [-Prod.forall, -Prod.exists, -Prod.mk.injEq, -Int32.not_le, -Int32.not_lt, -Int64.not_le, -Int64.not_lt, i3lt, i6lt, hle, m0', ed]
    exact jW.mono k1 (by simp)) (fun k hk ih => by
    have hlt : ¬ nI m ≤ nI k := nI_ge hk (by omega)
    have jk : jin (nI k) 6 := jin_nI (by omega) (by decide)
    have eck : (nI k).toNatClampNeg = k := nI_clamp (by omega)
    have eq : σ.1 q k = iI (ivI σ q k) := (iI_of _).symm
    have es : iI (120 * (P : Int) - sI (ivI σ q) k) - iI (ivI σ q k) = iI (120 * (P : Int) - sI (ivI σ q) (k + 1)) := by
      rw [iI_sub]
      congr 1
      simp only [sI]
      omega
    refine jvk_ok TX0_setPrices (V := []) (S := []) (fun _ h => absurd h List.not_mem_nil) (fun _ h => absurd h List.not_mem_nil) [14, 44] 30 _ _ _ _ ?_
    simp (maxSteps := 1000000) [↓Bool.cond_eq_ite, -Prod.forall, -Prod.exists, -Prod.mk.injEq, jvk, tX0_setPrices, jtb, jol, jst, jlk, jcmp, jbin, jfl, fX0, jc2, lX0, jcat, jel, lv_args, Value.category, jins, jsrt, jins2, jble, jblt, jf3, List.filter_cons, List.filter_nil, G_prop, -Int32.not_le, -Int32.not_lt, -Int64.not_le, -Int64.not_lt, i3lt, i6lt, g1, g2, hlt, jk, eck, eq, es, nI_1]
    try simp (disch := omega) [-Prod.forall, -Prod.exists, -Prod.mk.injEq, -Int32.not_le, -Int32.not_lt, -Int64.not_le, -Int64.not_lt, i3lt, i6lt, g1, g2, hlt, jk, eck, eq, es, nI_1]
    exact ih)
  have e0 : iI (120 * (P : Int) - sI (ivI σ q) 0) = iI (120 * (P : Int)) := by simp [sI]
  rw [nI_0, e0] at first
  exact jW.mono first (by simp)
theorem sI_fl (f : Nat → Int) : ∀ m : Nat, 120 * sI (fun i => f i / 120) m + sI (fun i => f i % 120) m = sI f m ∧ 0 ≤ sI (fun i => f i % 120) m ∧ sI (fun i => f i % 120) m ≤ 119 * m
  | 0 => by simp [sI]
  | m + 1 => by
    obtain ⟨h1, h2, h3⟩ := sI_fl f m
    simp only [sI]
    have := Int.emod_add_mul_ediv (f m) 120
    omega
theorem sI_dvd {f : Nat → Int} : ∀ m : Nat, (∀ i, i < m → (60 : Int) ∣ f i) → (60 : Int) ∣ sI f m
  | 0, _ => by simp [sI]
  | m + 1, h => by
    have h1 := sI_dvd m (fun i hi => h i (by omega))
    have h2 := h m (by omega)
    simp only [sI]
    omega
theorem prC_sum {P : Int} {m : Nat} {B : Nat → Int} (h0 : 0 < m) (h6 : m ≤ 6) (hB : ∀ i, i < m → (60 : Int) ∣ B i) : sI (prC P m B) m = 120 * P := by
  have h1 := sI_dvd m hB
  have h2 : (60 : Int) ∣ 120 * P - sI B m := by omega
  have h3 : (m : Int) ∣ 60 := by
    rcases (show m = 1 ∨ m = 2 ∨ m = 3 ∨ m = 4 ∨ m = 5 ∨ m = 6 by omega) with rfl | rfl | rfl | rfl | rfl | rfl <;> decide
  have h4 := Int.tdiv_mul_cancel (Int.dvd_trans h3 h2)
  have h5 : sI (prC P m B) m = sI B m + (120 * P - sI B m).tdiv m * m := by
    have e : prC P m B = fun i => B i + (120 * P - sI B m).tdiv m := rfl
    rw [e, sI_add, sI_const]
  rw [h5, h4]
  omega
theorem prC_tuL {P : Int} {m : Nat} {B : Nat → Int} (h0 : 0 < m) (h6 : m ≤ 6) (hB : ∀ i, i < m → (60 : Int) ∣ B i) : 0 ≤ tuL P (prC P m B) m ∧ tuL P (prC P m B) m ≤ m := by
  have h1 := prC_sum h0 h6 hB (P := P)
  have h2 := sI_fl (prC P m B) m
  unfold tuL
  omega
theorem sI_cg {f h : Nat → Int} {m : Nat} (e : ∀ i, i < m → f i = h i) (A : Int) : tuL A f m = tuL A h m := by
  unfold tuL
  rw [sI_congr m (fun i hi => by rw [e i hi])]
def preM (σ : jM) (q w : Nat) (x y z : Int32) : Prop := ∃ m L s : Nat, x = nI m ∧ 0 < m ∧ m ≤ 6 ∧ y = nI L ∧ L ≤ 99999 ∧ z = nI s ∧ s ≤ 100 ∧ (∀ i, i < m → -10000000 ≤ ivI σ q i ∧ ivI σ q i ≤ 10000000 ∧ (60 : Int) ∣ ivI σ q i) ∧ ∀ i, i < m → 0 ≤ σ.1 w i
def aBl (b a j : Nat) : Bool := gvA (b + 1) a j || gvA (b + 2) a j || gvA (b + 3) a j
def iPt (L s : Nat) : Nat := L * s / 100
def oX0_make : jO := joRIRRII fun b x q w y z σ => (blF b ∧ arF q ∧ arF w ∧ (q < b ∨ b + 3 < q) ∧ (w < b ∨ b + 3 < w) ∧ preM σ q w x y z, fun v τ => v = none ∧ jfr (aBl b) (gvB (b + 4)) σ τ ∧ ∀ i, i < x.toNatClampNeg → τ.1 (b + 1) i = iI (prC (y.toNatClampNeg - iPt y.toNatClampNeg z.toNatClampNeg : Nat) x.toNatClampNeg (ivI σ q) i) ∧ τ.1 (b + 2) i = spS (iPt y.toNatClampNeg z.toNatClampNeg) (wtN σ w) x.toNatClampNeg i ∧ τ.1 (b + 3) i = tuS (y.toNatClampNeg - iPt y.toNatClampNeg z.toNatClampNeg : Nat) (prC (y.toNatClampNeg - iPt y.toNatClampNeg z.toNatClampNeg : Nat) x.toNatClampNeg (ivI σ q)) x.toNatClampNeg i + spS (iPt y.toNatClampNeg z.toNatClampNeg) (wtN σ w) x.toNatClampNeg i)
theorem tuS_congr {A : Int} {f h : Nat → Int} {m : Nat} (e : ∀ i, i < m → f i = h i) (i : Nat) (hi : i < m) : tuS A f m i = tuS A h m i := by
  unfold tuS
  rw [sI_cg e A]
  exact hoS_congr _ _ _ _ _ (fun j hj => ⟨by rw [e j hj], by rw [e j hj]⟩) i hi
theorem aBl_3 {b j : Nat} (h : j < 6) : aBl b (b + 3) j = true := by unfold aBl gvA; simp [jble]; omega
theorem gvA_f {p a j : Nat} (h : a ≠ p) : gvA p a j = false := by
  unfold gvA
  simp only [Bool.and_eq_false_iff, beq_eq_false_iff_ne]
  exact Or.inl h
theorem aBl_f {b a j : Nat} (h : a < b + 1 ∨ b + 3 < a) : aBl b a j = false := by
  unfold aBl
  rw [gvA_f (by omega), gvA_f (by omega), gvA_f (by omega)]
  rfl
theorem aBl_w {b a j : Nat} (h : aBl b a j = false) : gvA (b + 1) a j = false ∧ gvA (b + 2) a j = false ∧ gvA (b + 3) a j = false := by
  unfold aBl at h
  simp only [Bool.or_eq_false_iff] at h
  exact ⟨h.1.1, h.1.2, h.2⟩
set_option maxRecDepth 100000 in
set_option maxHeartbeats 4000000 in
theorem CX0_make (g : jG) (n : Nat) : jOk g (n + 2) mX0_make oX0_make := by
  refine joRIRRII_ok ?_
  rintro b _ q w _ _ σ ⟨hF, hq, hw, hqb, hwb, m, L, s, rfl, hm0, hm6, rfl, hL, rfl, hs, hB, hW⟩
  have hF0 := hF
  obtain ⟨f0, f1, f2, f3, f4, f5, f6, f7, f8, hp1, hp2, hp3, hsp⟩ := hF
  obtain ⟨h1a, h1b⟩ := hp1
  obtain ⟨h2a, h2b⟩ := hp2
  obtain ⟨h3a, h3b⟩ := hp3
  have hp1 : arF (b + 1) := ⟨h1a, h1b⟩
  have hp2 : arF (b + 2) := ⟨h2a, h2b⟩
  have hp3 : arF (b + 3) := ⟨h3a, h3b⟩
  have ecm : (nI m).toNatClampNeg = m := nI_clamp (by omega)
  have ecL : (nI L).toNatClampNeg = L := nI_clamp (by omega)
  have ecs : (nI s).toNatClampNeg = s := nI_clamp (by omega)
  obtain ⟨A, eA⟩ : ∃ A, A = iPt L s := ⟨_, rfl⟩
  have hLs : L * s ≤ 99999 * 100 := Nat.mul_le_mul hL hs
  have hLs2 : L * s ≤ L * 100 := Nat.mul_le_mul_left _ hs
  have hAL : A ≤ L := by rw [eA]; unfold iPt; omega
  have e1 : nI L * nI s / 100 = nI A := by
    rw [pk_mul, eA]
    exact pk_div (d := 100) (by omega) (by decide) (by decide)
  have e2 : nI L - nI A = nI (L - A) := pk_sub hAL
  obtain ⟨P, eP⟩ : ∃ P, P = L - A := ⟨_, rfl⟩
  rw [← eP] at e2
  have qb1 : ¬ q = b + 1 := by omega
  have pre1 : prePr σ q (nI m) (nI P) := ⟨m, P, rfl, hm0, hm6, rfl, by omega, fun i hi => ⟨(hB i hi).1, (hB i hi).2.1⟩⟩
  have ezP : (nI P).toInt = (P : Int) := nI_toInt (by omega)
  have ecP : (nI P).toNatClampNeg = P := nI_clamp (by omega)
  have ecA : (nI A).toNatClampNeg = A := nI_clamp (by omega)
  refine jCon.ofP (by decide +kernel) (by simp [lg_sl, Value.category]) (fun post hp => ?_)
  refine jvk_ok TX0_make (V := [(32, 4, 0, oX0_setPrices), (36, 5, 9, oX9_toUnits), (40, 5, 9, oX9_byWeights)]) (S := [(28, 2, 0, oX11_incomePart)]) (List.forall_mem_cons.mpr ⟨⟨mX0_setPrices, n + 0, 3, TX0, 4, rfl, by omega, kX0_32, WX0_setPrices, rfl, CX0_setPrices g (n)⟩, (List.forall_mem_cons.mpr ⟨⟨mX9_toUnits, n + 1, 4, TX9, 1, rfl, by omega, kX0_36, WX9_toUnits, rfl, CX9_toUnits g (n)⟩, (List.forall_mem_cons.mpr ⟨⟨mX9_byWeights, n + 1, 4, TX9, 1, rfl, by omega, kX0_40, WX9_byWeights, rfl, CX9_byWeights g (n)⟩, (fun _ h => absurd h List.not_mem_nil)⟩)⟩)⟩) (List.forall_mem_cons.mpr ⟨⟨mX11_incomePart, n + 0, by omega, Or.inr ⟨_, kX0_28⟩, WX11_incomePart, CX11_incomePart g (n)⟩, (fun _ h => absurd h List.not_mem_nil)⟩) [16] 40 _ _ _ _ ?_
  simp (maxSteps := 1000000) [↓Bool.cond_eq_ite, -Prod.forall, -Prod.exists, -Prod.mk.injEq, jvk, tX0_make, jtb, jol, jst, jlk, jcmp, jbin, jfl, fX0, jc2, lX0, jcat, jel, lv_args, Value.category, jins, jsrt, jins2, jble, jblt, jf3, List.filter_cons, List.filter_nil, G_prop, oX11_incomePart, oX0_setPrices, oX9_toUnits, oX9_byWeights, joII, joRIRI, joRIRIR, -Int32.not_le, -Int32.not_lt, -Int64.not_le, -Int64.not_lt, i3lt, i6lt, e1, e2]
  try simp (disch := omega) [-Prod.forall, -Prod.exists, -Prod.mk.injEq, -Int32.not_le, -Int32.not_lt, -Int64.not_le, -Int64.not_lt, i3lt, i6lt, e1, e2]
  refine jvk_ok TX0_make (V := [(32, 4, 0, oX0_setPrices), (36, 5, 9, oX9_toUnits), (40, 5, 9, oX9_byWeights)]) (S := [(28, 2, 0, oX11_incomePart)]) (List.forall_mem_cons.mpr ⟨⟨mX0_setPrices, n + 0, 3, TX0, 4, rfl, by omega, kX0_32, WX0_setPrices, rfl, CX0_setPrices g (n)⟩, (List.forall_mem_cons.mpr ⟨⟨mX9_toUnits, n + 1, 4, TX9, 1, rfl, by omega, kX0_36, WX9_toUnits, rfl, CX9_toUnits g (n)⟩, (List.forall_mem_cons.mpr ⟨⟨mX9_byWeights, n + 1, 4, TX9, 1, rfl, by omega, kX0_40, WX9_byWeights, rfl, CX9_byWeights g (n)⟩, (fun _ h => absurd h List.not_mem_nil)⟩)⟩)⟩) (List.forall_mem_cons.mpr ⟨⟨mX11_incomePart, n + 0, by omega, Or.inr ⟨_, kX0_28⟩, WX11_incomePart, CX11_incomePart g (n)⟩, (fun _ h => absurd h List.not_mem_nil)⟩) [24] 40 _ _ _ _ ?_
  simp (maxSteps := 1000000) [↓Bool.cond_eq_ite, -Prod.forall, -Prod.exists, -Prod.mk.injEq, jvk, tX0_make, jtb, jol, jst, jlk, jcmp, jbin, jfl, fX0, jc2, lX0, jcat, jel, lv_args, Value.category, jins, jsrt, jins2, jble, jblt, jf3, List.filter_cons, List.filter_nil, G_prop, oX11_incomePart, oX0_setPrices, oX9_toUnits, oX9_byWeights, joII, joRIRI, joRIRIR, -Int32.not_le, -Int32.not_lt, -Int64.not_le, -Int64.not_lt, i3lt, i6lt, f0, hF0, hq, qb1, pre1]
  try simp (disch := omega) [-Prod.forall, -Prod.exists, -Prod.mk.injEq, -Int32.not_le, -Int32.not_lt, -Int64.not_le, -Int64.not_lt, i3lt, i6lt, f0, hF0, hq, qb1, pre1]
  rw [ecm, ecL, ecs, ← eA, ← eP] at hp
  intro v1 τ1 hv1 fr1 h1
  subst hv1
  rw [ecm, ezP] at h1
  obtain ⟨Z, eZ⟩ : ∃ Z, Z = prC P m (ivI σ q) := ⟨_, rfl⟩
  rw [← eZ] at hp h1
  have hZ : ∀ i, i < m → -100000000 ≤ Z i ∧ Z i ≤ 100000000 := fun i hi => by
    have hsb := sI_bd (f := ivI σ q) (B := 10000000) m (fun j hj => ⟨(hB j hj).1, (hB j hj).2.1⟩)
    have h3 : (10000000 : Int) * m ≤ 60000000 := by omega
    have hd1 : ((120 * (P : Int) - sI (ivI σ q) m).tdiv m).natAbs ≤ (120 * (P : Int) - sI (ivI σ q) m).natAbs := Int.natAbs_tdiv_le_natAbs _ _
    have := hB i hi
    rw [eZ]
    unfold prC
    omega
  have iZ : ∀ i, i < m → ivI τ1 (b + 1) i = Z i := fun i hi => by
    have := hZ i hi
    unfold ivI
    rw [h1 i hi, iI_toInt ⟨by omega, by omega⟩]
  have tl := prC_tuL (P := (P : Int)) hm0 hm6 (fun i hi => (hB i hi).2.2)
  rw [← eZ, ← sI_cg iZ] at tl
  have pre2 : ∃ A, nI P = nI A ∧ A ≤ 99999 ∧ ∃ k, nI m = nI k ∧ k ≤ 6 ∧ (∀ i, i < k → -100000000 ≤ ivI τ1 (b + 1) i ∧ ivI τ1 (b + 1) i ≤ 100000000) ∧ 0 ≤ tuL A (ivI τ1 (b + 1)) k ∧ tuL A (ivI τ1 (b + 1)) k ≤ k := ⟨P, rfl, by omega, m, rfl, hm6, fun i hi => by rw [iZ i hi]; exact hZ i hi, tl.1, tl.2⟩
  have n31 : ¬ b + 3 = b + 1 := by omega
  refine jvk_ok TX0_make (V := [(32, 4, 0, oX0_setPrices), (36, 5, 9, oX9_toUnits), (40, 5, 9, oX9_byWeights)]) (S := [(28, 2, 0, oX11_incomePart)]) (List.forall_mem_cons.mpr ⟨⟨mX0_setPrices, n + 0, 3, TX0, 4, rfl, by omega, kX0_32, WX0_setPrices, rfl, CX0_setPrices g (n)⟩, (List.forall_mem_cons.mpr ⟨⟨mX9_toUnits, n + 1, 4, TX9, 1, rfl, by omega, kX0_36, WX9_toUnits, rfl, CX9_toUnits g (n)⟩, (List.forall_mem_cons.mpr ⟨⟨mX9_byWeights, n + 1, 4, TX9, 1, rfl, by omega, kX0_40, WX9_byWeights, rfl, CX9_byWeights g (n)⟩, (fun _ h => absurd h List.not_mem_nil)⟩)⟩)⟩) (List.forall_mem_cons.mpr ⟨⟨mX11_incomePart, n + 0, by omega, Or.inr ⟨_, kX0_28⟩, WX11_incomePart, CX11_incomePart g (n)⟩, (fun _ h => absurd h List.not_mem_nil)⟩) [42] 40 _ _ _ _ ?_
  simp (maxSteps := 1000000) [↓Bool.cond_eq_ite, -Prod.forall, -Prod.exists, -Prod.mk.injEq, jvk, tX0_make, jtb, jol, jst, jlk, jcmp, jbin, jfl, fX0, jc2, lX0, jcat, jel, lv_args, Value.category, jins, jsrt, jins2, jble, jblt, jf3, List.filter_cons, List.filter_nil, G_prop, oX11_incomePart, oX0_setPrices, oX9_toUnits, oX9_byWeights, joII, joRIRI, joRIRIR, -Int32.not_le, -Int32.not_lt, -Int64.not_le, -Int64.not_lt, i3lt, i6lt, f0, f1, f2, f5, f6, f7, f8, hsp.1, hsp, hp1, hp3, n31, pre2]
  try simp (disch := omega) [-Prod.forall, -Prod.exists, -Prod.mk.injEq, -Int32.not_le, -Int32.not_lt, -Int64.not_le, -Int64.not_lt, i3lt, i6lt, f0, f1, f2, f5, f6, f7, f8, hsp.1, hsp, hp1, hp3, n31, pre2]
  intro v2 τ2 hv2 fr2 h2
  subst hv2
  rw [ecm, ecP] at h2
  have h2' : ∀ i, i < m → τ2.1 (b + 3) i = tuS P Z m i := fun i hi => (h2 i hi).trans (tuS_congr iZ i hi)
  have g1 : ∀ i, i < m → τ2.1 (b + 1) i = iI (Z i) := fun i hi => (fr2.2.2 _ _ (gvA_f (by omega))).trans (h1 i hi)
  have gw : τ2.1 w = σ.1 w := funext fun j => (fr2.2.2 _ _ (gvA_f (by omega))).trans (fr1.2.2 _ _ (gvA_f (by omega)))
  have ew : wtN τ2 w = wtN σ w := by funext i; unfold wtN; rw [gw]
  have n2w : ¬ b + 2 = w := by omega
  have pre3 : ∃ B, nI A = nI B ∧ B ≤ 99999 ∧ ∃ k, nI m = nI k ∧ k ≤ 6 ∧ ∀ i, i < k → 0 ≤ τ2.1 w i := ⟨A, rfl, by omega, m, rfl, hm6, fun i hi => by rw [gw]; exact hW i hi⟩
  refine jvk_ok TX0_make (V := [(32, 4, 0, oX0_setPrices), (36, 5, 9, oX9_toUnits), (40, 5, 9, oX9_byWeights)]) (S := [(28, 2, 0, oX11_incomePart)]) (List.forall_mem_cons.mpr ⟨⟨mX0_setPrices, n + 0, 3, TX0, 4, rfl, by omega, kX0_32, WX0_setPrices, rfl, CX0_setPrices g (n)⟩, (List.forall_mem_cons.mpr ⟨⟨mX9_toUnits, n + 1, 4, TX9, 1, rfl, by omega, kX0_36, WX9_toUnits, rfl, CX9_toUnits g (n)⟩, (List.forall_mem_cons.mpr ⟨⟨mX9_byWeights, n + 1, 4, TX9, 1, rfl, by omega, kX0_40, WX9_byWeights, rfl, CX9_byWeights g (n)⟩, (fun _ h => absurd h List.not_mem_nil)⟩)⟩)⟩) (List.forall_mem_cons.mpr ⟨⟨mX11_incomePart, n + 0, by omega, Or.inr ⟨_, kX0_28⟩, WX11_incomePart, CX11_incomePart g (n)⟩, (fun _ h => absurd h List.not_mem_nil)⟩) [57] 40 _ _ _ _ ?_
  simp (maxSteps := 1000000) [↓Bool.cond_eq_ite, -Prod.forall, -Prod.exists, -Prod.mk.injEq, jvk, tX0_make, jtb, jol, jst, jlk, jcmp, jbin, jfl, fX0, jc2, lX0, jcat, jel, lv_args, Value.category, jins, jsrt, jins2, jble, jblt, jf3, List.filter_cons, List.filter_nil, G_prop, oX11_incomePart, oX0_setPrices, oX9_toUnits, oX9_byWeights, joII, joRIRI, joRIRIR, -Int32.not_le, -Int32.not_lt, -Int64.not_le, -Int64.not_lt, i3lt, i6lt, f0, f3, f4, f7, f8, hsp.1, hsp, hp2, hw, n2w, pre3]
  try simp (disch := omega) [-Prod.forall, -Prod.exists, -Prod.mk.injEq, -Int32.not_le, -Int32.not_lt, -Int64.not_le, -Int64.not_lt, i3lt, i6lt, f0, f3, f4, f7, f8, hsp.1, hsp, hp2, hw, n2w, pre3]
  intro v3 τ3 hv3 fr3 h3
  subst hv3
  rw [ecm, ecA, ew] at h3
  have fr : jfr (aBl b) (gvB (b + 4)) σ τ3 := ⟨(fr3.1.trans fr2.1).trans fr1.1, fun a j z => (fr3.2.1 a j z).trans ((fr2.2.1 a j z).trans (fr1.2.1 a j rfl)), fun a j z => (fr3.2.2 a j (aBl_w z).2.1).trans ((fr2.2.2 a j (aBl_w z).2.2).trans (fr1.2.2 a j (aBl_w z).1))⟩
  have k1 : ∀ i, i < m → τ3.1 (b + 1) i = iI (Z i) := fun i hi => (fr3.2.2 _ _ (gvA_f (by omega))).trans (g1 i hi)
  have k3 : ∀ i, i < m → τ3.1 (b + 3) i = tuS P Z m i := fun i hi => (fr3.2.2 _ _ (gvA_f (by omega))).trans (h2' i hi)
  have key := jloop (P := fun k => ∀ μ : jM, jfr (aBl b) (gvB (b + 4)) σ μ → (∀ i, i < m → μ.1 (b + 1) i = iI (Z i)) → (∀ i, i < m → μ.1 (b + 2) i = spS A (wtN σ w) m i) → (∀ i, i < m → μ.1 (b + 3) i = if i < k then tuS P Z m i + spS A (wtN σ w) m i else tuS P Z m i) → jW g mX0_make (n + 2) post 60 [(0, .ref b), (1, .int (nI m)), (8, .int (nI k))] [] μ) (N := m) (fun μ f a1 a2 a3 => by
    have hle : nI m ≤ nI m := nI_le (Nat.le_refl _) (by omega)
    refine jvk_ok TX0_make (V := [(32, 4, 0, oX0_setPrices), (36, 5, 9, oX9_toUnits), (40, 5, 9, oX9_byWeights)]) (S := [(28, 2, 0, oX11_incomePart)]) (List.forall_mem_cons.mpr ⟨⟨mX0_setPrices, n + 0, 3, TX0, 4, rfl, by omega, kX0_32, WX0_setPrices, rfl, CX0_setPrices g (n)⟩, (List.forall_mem_cons.mpr ⟨⟨mX9_toUnits, n + 1, 4, TX9, 1, rfl, by omega, kX0_36, WX9_toUnits, rfl, CX9_toUnits g (n)⟩, (List.forall_mem_cons.mpr ⟨⟨mX9_byWeights, n + 1, 4, TX9, 1, rfl, by omega, kX0_40, WX9_byWeights, rfl, CX9_byWeights g (n)⟩, (fun _ h => absurd h List.not_mem_nil)⟩)⟩)⟩) (List.forall_mem_cons.mpr ⟨⟨mX11_incomePart, n + 0, by omega, Or.inr ⟨_, kX0_28⟩, WX11_incomePart, CX11_incomePart g (n)⟩, (fun _ h => absurd h List.not_mem_nil)⟩) [60] 20 _ _ _ _ ?_
    simp (maxSteps := 1000000) [↓Bool.cond_eq_ite, -Prod.forall, -Prod.exists, -Prod.mk.injEq, jvk, tX0_make, jtb, jol, jst, jlk, jcmp, jbin, jfl, fX0, jc2, lX0, jcat, jel, lv_args, Value.category, jins, jsrt, jins2, jble, jblt, jf3, List.filter_cons, List.filter_nil, G_prop, oX11_incomePart, oX0_setPrices, oX9_toUnits, oX9_byWeights, joII, joRIRI, joRIRIR, -Int32.not_le, -Int32.not_lt, -Int64.not_le, -Int64.not_lt, i3lt, i6lt, hle]
    try simp (disch := omega) [-Prod.forall, -Prod.exists, -Prod.mk.injEq, -Int32.not_le, -Int32.not_lt, -Int64.not_le, -Int64.not_lt, i3lt, i6lt, hle]
    exact hp _ _ ⟨rfl, f, fun i hi => ⟨a1 i hi, a2 i hi, by rw [a3 i hi, if_pos hi]⟩⟩) (fun k hk ih μ f a1 a2 a3 => by
    have hlt : ¬ nI m ≤ nI k := nI_ge hk (by omega)
    have jk : jin (nI k) 6 := jin_nI (by omega) (by decide)
    have eck : (nI k).toNatClampNeg = k := nI_clamp (by omega)
    have v2 := a2 k hk
    have v3 := a3 k hk
    rw [if_neg (by omega)] at v3
    have k2 := ih (jup μ (b + 3) k (tuS P Z m k + spS A (wtN σ w) m k)) (f.up _ (aBl_3 (by omega))) (fun i hi => by rw [jup_1, if_neg (by omega)]; exact a1 i hi) (fun i hi => by rw [jup_1, if_neg (by omega)]; exact a2 i hi) (fun i hi => by
      rw [jup_1]
      by_cases z : i = k
      · rw [if_pos ⟨rfl, z⟩, if_pos (by omega), z]
      · rw [if_neg (fun y => z y.2), a3 i hi]
        by_cases y : i < k
        · rw [if_pos y, if_pos (by omega)]
        · rw [if_neg y, if_neg (by omega)])
    refine jvk_ok TX0_make (V := [(32, 4, 0, oX0_setPrices), (36, 5, 9, oX9_toUnits), (40, 5, 9, oX9_byWeights)]) (S := [(28, 2, 0, oX11_incomePart)]) (List.forall_mem_cons.mpr ⟨⟨mX0_setPrices, n + 0, 3, TX0, 4, rfl, by omega, kX0_32, WX0_setPrices, rfl, CX0_setPrices g (n)⟩, (List.forall_mem_cons.mpr ⟨⟨mX9_toUnits, n + 1, 4, TX9, 1, rfl, by omega, kX0_36, WX9_toUnits, rfl, CX9_toUnits g (n)⟩, (List.forall_mem_cons.mpr ⟨⟨mX9_byWeights, n + 1, 4, TX9, 1, rfl, by omega, kX0_40, WX9_byWeights, rfl, CX9_byWeights g (n)⟩, (fun _ h => absurd h List.not_mem_nil)⟩)⟩)⟩) (List.forall_mem_cons.mpr ⟨⟨mX11_incomePart, n + 0, by omega, Or.inr ⟨_, kX0_28⟩, WX11_incomePart, CX11_incomePart g (n)⟩, (fun _ h => absurd h List.not_mem_nil)⟩) [60] 40 _ _ _ _ ?_
    simp (maxSteps := 1000000) [↓Bool.cond_eq_ite, -Prod.forall, -Prod.exists, -Prod.mk.injEq, jvk, tX0_make, jtb, jol, jst, jlk, jcmp, jbin, jfl, fX0, jc2, lX0, jcat, jel, lv_args, Value.category, jins, jsrt, jins2, jble, jblt, jf3, List.filter_cons, List.filter_nil, G_prop, oX11_incomePart, oX0_setPrices, oX9_toUnits, oX9_byWeights, joII, joRIRI, joRIRIR, -Int32.not_le, -Int32.not_lt, -Int64.not_le, -Int64.not_lt, i3lt, i6lt, f0, f3, f4, f5, f6, h2a, h2b, h3a, h3b, hlt, jk, eck, v2, v3, nI_1]
    try simp (disch := omega) [-Prod.forall, -Prod.exists, -Prod.mk.injEq, -Int32.not_le, -Int32.not_lt, -Int64.not_le, -Int64.not_lt, i3lt, i6lt, f0, f3, f4, f5, f6, h2a, h2b, h3a, h3b, hlt, jk, eck, v2, v3, nI_1]
    exact k2)
  have k0 := key τ3 fr k1 h3 (fun i hi => by rw [if_neg (by omega)]; exact k3 i hi)
  rw [nI_0] at k0
  refine jvk_ok TX0_make (V := [(32, 4, 0, oX0_setPrices), (36, 5, 9, oX9_toUnits), (40, 5, 9, oX9_byWeights)]) (S := [(28, 2, 0, oX11_incomePart)]) (List.forall_mem_cons.mpr ⟨⟨mX0_setPrices, n + 0, 3, TX0, 4, rfl, by omega, kX0_32, WX0_setPrices, rfl, CX0_setPrices g (n)⟩, (List.forall_mem_cons.mpr ⟨⟨mX9_toUnits, n + 1, 4, TX9, 1, rfl, by omega, kX0_36, WX9_toUnits, rfl, CX9_toUnits g (n)⟩, (List.forall_mem_cons.mpr ⟨⟨mX9_byWeights, n + 1, 4, TX9, 1, rfl, by omega, kX0_40, WX9_byWeights, rfl, CX9_byWeights g (n)⟩, (fun _ h => absurd h List.not_mem_nil)⟩)⟩)⟩) (List.forall_mem_cons.mpr ⟨⟨mX11_incomePart, n + 0, by omega, Or.inr ⟨_, kX0_28⟩, WX11_incomePart, CX11_incomePart g (n)⟩, (fun _ h => absurd h List.not_mem_nil)⟩) [60] 10 _ _ _ _ ?_
  simp (maxSteps := 1000000) [↓Bool.cond_eq_ite, -Prod.forall, -Prod.exists, -Prod.mk.injEq, jvk, tX0_make, jtb, jol, jst, jlk, jcmp, jbin, jfl, fX0, jc2, lX0, jcat, jel, lv_args, Value.category, jins, jsrt, jins2, jble, jblt, jf3, List.filter_cons, List.filter_nil, G_prop, oX11_incomePart, oX0_setPrices, oX9_toUnits, oX9_byWeights, joII, joRIRI, joRIRIR, -Int32.not_le, -Int32.not_lt, -Int64.not_le, -Int64.not_lt, i3lt, i6lt]
  try simp (disch := omega) [-Prod.forall, -Prod.exists, -Prod.mk.injEq, -Int32.not_le, -Int32.not_lt, -Int64.not_le, -Int64.not_lt, i3lt, i6lt]
  exact jW.mono k0 (by simp)
