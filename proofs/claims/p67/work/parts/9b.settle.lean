/-! Settlement: aim -/
def aAi (a _j : Nat) : Bool := a == 301 || a == 302 || a == 303 || a == 304
def bAi (a : Nat) : Bool := a == 319
def mx0 (x : Int32) : Int32 := if x ≤ 0 then 0 else x
theorem mx0_ok (x : Int32) : 0 ≤ mx0 x ∧ (mx0 x).toNatClampNeg = x.toNatClampNeg := by
  unfold mx0
  by_cases h : x ≤ 0
  · rw [if_pos h]
    refine ⟨by decide, ?_⟩
    have h2 := Int32.le_iff_toInt_le.mp h
    have e : (0 : Int32).toInt = 0 := rfl
    rw [e] at h2
    show (0 : Int32).toInt.toNat = x.toInt.toNat
    rw [e]
    omega
  · rw [if_neg h]
    exact ⟨by grind, rfl⟩
def ctW (σ : jM) (i : Nat) : Nat := (σ.1 53 (qpl (liv σ) (fN σ) i)).toNatClampNeg
def dpF (σ : jM) : Nat := (σ.1 37 3).toNatClampNeg
/-- the target of a person -/
def ctS (σ : jM) (p : Nat) : Int32 := if p < fN σ ∧ liv σ p = true then spS (dpF σ) (ctW σ) (flM σ) (cn (liv σ) p) else 0
def dpO (σ : jM) : Prop := 0 ≤ σ.1 37 3 ∧ σ.1 37 3 ≤ 99999
theorem dpO_n {σ : jM} (h : dpO σ) : dpF σ ≤ 99999 ∧ σ.1 37 3 = nI (dpF σ) := by
  obtain ⟨s, h1, h2, h3⟩ := nI_rng h.1 h.2 (by decide)
  unfold dpF
  rw [h3]
  exact ⟨h1, h2⟩
def oX8_aim : jO := joRR fun a f σ => (a = 300 ∧ f = 37 ∧ fOK σ ∧ flM σ ≤ 6 ∧ dpO σ, fun v τ => v = none ∧ jfr aAi bAi σ τ ∧ ∀ p, p < 10 → τ.1 301 p = ctS σ p)
set_option maxRecDepth 100000 in
set_option maxHeartbeats 4000000 in
theorem CAi_end (g : jG) (n : Nat) {post : Option Value → jM → Prop} {σ : jM} (hok : fOK σ) {W : Nat → Nat} {D : Nat} (hp : ∀ τ, jfr aAi bAi σ τ → (∀ p, p < 10 → τ.1 301 p = if p < fN σ ∧ liv σ p = true then spS D W (flM σ) (cn (liv σ) p) else 0) → post none τ) (h6 : flM σ ≤ 6)
    (τ : jM) (f : jfr aAi bAi σ τ) (h1 : ∀ p, p < 10 → τ.1 301 p = 0) (h2 : ∀ i, i < flM σ → τ.1 302 i = nI (qpl (liv σ) (fN σ) i)) (h4 : ∀ i, i < flM σ → τ.1 304 i = spS D W (flM σ) i) : jW g mX8_aim (n + 2) post 88 [(0, .ref 300), (1, .ref 37), (2, .int (nI (flM σ))), (3, .int 0)] [] τ := by
  obtain ⟨⟨n10, eN⟩, -, -⟩ := fOK_n hok
  have key := jloop (P := fun k => ∀ μ : jM, jfr aAi bAi σ μ → (∀ i, i < flM σ → μ.1 302 i = nI (qpl (liv σ) (fN σ) i)) → (∀ i, i < flM σ → μ.1 304 i = spS D W (flM σ) i) → (∀ p, p < 10 → μ.1 301 p = if (p < fN σ ∧ liv σ p = true) ∧ cn (liv σ) p < k then spS D W (flM σ) (cn (liv σ) p) else 0) → jW g mX8_aim (n + 2) post 88 [(0, .ref 300), (1, .ref 37), (2, .int (nI (flM σ))), (3, .int (nI k))] [] μ) (N := flM σ) (fun μ f a2 a4 a1 => by
    have hle : nI (flM σ) ≤ nI (flM σ) := nI_le (Nat.le_refl _) (by omega)
    refine jvk_ok TX8_aim (V := [(54, 2, 2, oX2_isLiving), (70, 5, 9, oX9_byWeights), (74, 2, 2, oX2_isPerson)]) (S := [(43, 2, 0, oJ7_fill_53178), (61, 2, 0, oJ9_max_7cf53)]) (List.forall_mem_cons.mpr ⟨⟨mX2_isLiving, n + 1, 1, TX2, 16, rfl, by omega, kX8_54, WX2_isLiving, rfl, CX2_isLiving g (n)⟩, (List.forall_mem_cons.mpr ⟨⟨mX9_byWeights, n + 1, 4, TX9, 1, rfl, by omega, kX8_70, WX9_byWeights, rfl, CX9_byWeights g (n)⟩, (List.forall_mem_cons.mpr ⟨⟨mX2_isPerson, n + 0, 1, TX2, 16, rfl, by omega, kX8_74, WX2_isPerson, rfl, CX2_isPerson g (n)⟩, (fun _ h => absurd h List.not_mem_nil)⟩)⟩)⟩) (List.forall_mem_cons.mpr ⟨⟨mJ7_fill_53178, n + 0, by omega, Or.inl kX8_43, WJ7_fill_53178, CJ7_fill_53178 g (n)⟩, (List.forall_mem_cons.mpr ⟨⟨mJ9_max_7cf53, n + 0, by omega, Or.inl kX8_61, WJ9_max_7cf53, CJ9_max_7cf53 g (n)⟩, (fun _ h => absurd h List.not_mem_nil)⟩)⟩) [88] 20 _ _ _ _ ?_
    simp (maxSteps := 1000000) [↓Bool.cond_eq_ite, -Prod.forall, -Prod.exists, -Prod.mk.injEq, jvk, tX8_aim, jtb, jol, jst, jlk, jcmp, jbin, jfl, fX8, jc2, lX8, jcat, jel, lv_args, Value.category, jins, jsrt, jins2, jble, jblt, jf3, List.filter_cons, List.filter_nil, G_settle, G_flat, oJ7_fill_53178, oX2_isLiving, oJ9_max_7cf53, oX9_byWeights, oX2_isPerson, joII, joRI, joRIRIR, -Int32.not_le, -Int32.not_lt, -Int64.not_le, -Int64.not_lt, i3lt, i6lt, hle]
    try simp (disch := omega) [-Prod.forall, -Prod.exists, -Prod.mk.injEq, -Int32.not_le, -Int32.not_lt, -Int64.not_le, -Int64.not_lt, i3lt, i6lt, hle]
    refine hp _ f (fun p hp10 => ?_)
    rw [a1 p hp10]
    by_cases c : p < fN σ ∧ liv σ p = true
    · rw [if_pos c, if_pos ⟨c, cn_lt c.2 c.1⟩]
    · rw [if_neg c, if_neg (fun z => c z.1)]) (fun k hk ih μ f a2 a4 a1 => by
    have hlt : ¬ nI (flM σ) ≤ nI k := nI_ge hk (by omega)
    obtain ⟨q1, q2, q3⟩ := qpl_is (p := liv σ) (N := fN σ) hk
    obtain ⟨P, eP⟩ : ∃ P, P = qpl (liv σ) (fN σ) k := ⟨_, rfl⟩
    rw [← eP] at q1 q2 q3
    have jk : jin (nI k) 6 := jin_nI (by omega) (by decide)
    have eck : (nI k).toNatClampNeg = k := nI_clamp (by omega)
    have jP : jin (nI P) 10 := jin_nI (by omega) (by decide)
    have ecP : (nI P).toNatClampNeg = P := nI_clamp (by omega)
    have e302 : μ.1 302 k = nI P := by rw [a2 k hk, eP]
    have e304 := a4 k hk
    have hfP : fP μ (nI P) = true := by
      have h0 := fP_nI hok q2
      have e37 : μ.1 37 1 = σ.1 37 1 := f.2.2 37 1 rfl
      unfold fP at h0 ⊢
      rw [e37]; exact h0
    have k1 := ih (jup μ 301 P (spS D W (flM σ) k)) (f.up _ rfl) (fun i hi => by rw [jup_1, if_neg (by omega)]; exact a2 i hi) (fun i hi => by rw [jup_1, if_neg (by omega)]; exact a4 i hi) (fun p hp10 => by
      rw [jup_1]
      by_cases e : p = P
      · subst e
        rw [if_pos ⟨rfl, rfl⟩, if_pos ⟨⟨q2, q1⟩, by omega⟩, q3]
      · rw [if_neg (fun z => e z.2), a1 p hp10]
        by_cases c : (p < fN σ ∧ liv σ p = true) ∧ cn (liv σ) p < k
        · rw [if_pos c, if_pos ⟨c.1, by omega⟩]
        · rw [if_neg c, if_neg (fun z => by
            by_cases y : cn (liv σ) p = k
            · exact e (cn_inj z.1.2 q1 (by rw [y, q3]))
            · exact c ⟨z.1, by have := z.2; omega⟩)])
    refine jvk_ok TX8_aim (V := [(54, 2, 2, oX2_isLiving), (70, 5, 9, oX9_byWeights), (74, 2, 2, oX2_isPerson)]) (S := [(43, 2, 0, oJ7_fill_53178), (61, 2, 0, oJ9_max_7cf53)]) (List.forall_mem_cons.mpr ⟨⟨mX2_isLiving, n + 1, 1, TX2, 16, rfl, by omega, kX8_54, WX2_isLiving, rfl, CX2_isLiving g (n)⟩, (List.forall_mem_cons.mpr ⟨⟨mX9_byWeights, n + 1, 4, TX9, 1, rfl, by omega, kX8_70, WX9_byWeights, rfl, CX9_byWeights g (n)⟩, (List.forall_mem_cons.mpr ⟨⟨mX2_isPerson, n + 0, 1, TX2, 16, rfl, by omega, kX8_74, WX2_isPerson, rfl, CX2_isPerson g (n)⟩, (fun _ h => absurd h List.not_mem_nil)⟩)⟩)⟩) (List.forall_mem_cons.mpr ⟨⟨mJ7_fill_53178, n + 0, by omega, Or.inl kX8_43, WJ7_fill_53178, CJ7_fill_53178 g (n)⟩, (List.forall_mem_cons.mpr ⟨⟨mJ9_max_7cf53, n + 0, by omega, Or.inl kX8_61, WJ9_max_7cf53, CJ9_max_7cf53 g (n)⟩, (fun _ h => absurd h List.not_mem_nil)⟩)⟩) [88] 40 _ _ _ _ ?_
    simp (maxSteps := 1000000) [↓Bool.cond_eq_ite, -Prod.forall, -Prod.exists, -Prod.mk.injEq, jvk, tX8_aim, jtb, jol, jst, jlk, jcmp, jbin, jfl, fX8, jc2, lX8, jcat, jel, lv_args, Value.category, jins, jsrt, jins2, jble, jblt, jf3, List.filter_cons, List.filter_nil, G_settle, G_flat, oJ7_fill_53178, oX2_isLiving, oJ9_max_7cf53, oX9_byWeights, oX2_isPerson, joII, joRI, joRIRIR, -Int32.not_le, -Int32.not_lt, -Int64.not_le, -Int64.not_lt, i3lt, i6lt, hlt, jk, eck, e302, hfP, jP, ecP, e304, nI_1]
    try simp (disch := omega) [-Prod.forall, -Prod.exists, -Prod.mk.injEq, -Int32.not_le, -Int32.not_lt, -Int64.not_le, -Int64.not_lt, i3lt, i6lt, hlt, jk, eck, e302, hfP, jP, ecP, e304, nI_1]
    exact k1)
  have k0 := key τ f h2 h4 (fun p hp10 => by rw [h1 p hp10, if_neg (fun z => by have := z.2; omega)])
  rw [nI_0] at k0
  exact k0
set_option maxRecDepth 100000 in
set_option maxHeartbeats 4000000 in
theorem CX8_aim (g : jG) (n : Nat) : jOk g (n + 2) mX8_aim oX8_aim := by
  refine joRR_ok ?_
  rintro _ _ σ ⟨rfl, rfl, hok, hm6, hdp⟩
  obtain ⟨⟨n10, eN⟩, -, -⟩ := fOK_n hok
  obtain ⟨D5, eD⟩ := dpO_n hdp
  refine jCon.ofP (by decide +kernel) (by simp [lg_sl, Value.category]) (fun post hp => ?_)
  refine jvk_ok TX8_aim (V := [(54, 2, 2, oX2_isLiving), (70, 5, 9, oX9_byWeights), (74, 2, 2, oX2_isPerson)]) (S := [(43, 2, 0, oJ7_fill_53178), (61, 2, 0, oJ9_max_7cf53)]) (List.forall_mem_cons.mpr ⟨⟨mX2_isLiving, n + 1, 1, TX2, 16, rfl, by omega, kX8_54, WX2_isLiving, rfl, CX2_isLiving g (n)⟩, (List.forall_mem_cons.mpr ⟨⟨mX9_byWeights, n + 1, 4, TX9, 1, rfl, by omega, kX8_70, WX9_byWeights, rfl, CX9_byWeights g (n)⟩, (List.forall_mem_cons.mpr ⟨⟨mX2_isPerson, n + 0, 1, TX2, 16, rfl, by omega, kX8_74, WX2_isPerson, rfl, CX2_isPerson g (n)⟩, (fun _ h => absurd h List.not_mem_nil)⟩)⟩)⟩) (List.forall_mem_cons.mpr ⟨⟨mJ7_fill_53178, n + 0, by omega, Or.inl kX8_43, WJ7_fill_53178, CJ7_fill_53178 g (n)⟩, (List.forall_mem_cons.mpr ⟨⟨mJ9_max_7cf53, n + 0, by omega, Or.inl kX8_61, WJ9_max_7cf53, CJ9_max_7cf53 g (n)⟩, (fun _ h => absurd h List.not_mem_nil)⟩)⟩) [12] 20 _ _ _ _ ?_
  simp (maxSteps := 1000000) [↓Bool.cond_eq_ite, -Prod.forall, -Prod.exists, -Prod.mk.injEq, jvk, tX8_aim, jtb, jol, jst, jlk, jcmp, jbin, jfl, fX8, jc2, lX8, jcat, jel, lv_args, Value.category, jins, jsrt, jins2, jble, jblt, jf3, List.filter_cons, List.filter_nil, G_settle, G_flat, oJ7_fill_53178, oX2_isLiving, oJ9_max_7cf53, oX9_byWeights, oX2_isPerson, joII, joRI, joRIRIR, -Int32.not_le, -Int32.not_lt, -Int64.not_le, -Int64.not_lt, i3lt, i6lt]
  try simp (disch := omega) [-Prod.forall, -Prod.exists, -Prod.mk.injEq, -Int32.not_le, -Int32.not_lt, -Int64.not_le, -Int64.not_lt, i3lt, i6lt]
  have loop := jloop (P := fun k => ∀ τ : jM, jfr aAi bAi σ τ → (∀ p, p < 10 → τ.1 301 p = 0) → (∀ p, p < k → liv σ p = true → τ.1 302 (cn (liv σ) p) = nI p ∧ τ.1 303 (cn (liv σ) p) = mx0 (σ.1 53 p)) → jW g mX8_aim (n + 2) post 12 [(0, .ref 300), (1, .ref 37), (2, .int (nI (cn (liv σ) k))), (3, .int (nI k))] [] τ) (N := fN σ) (fun τ f h1 ht => by
    have hle : nI (fN σ) ≤ nI (fN σ) := nI_le (Nat.le_refl _) (by omega)
    have e1 : τ.1 37 1 = nI (fN σ) := (f.2.2 37 1 rfl).trans eN
    have e3 : τ.1 37 3 = nI (dpF σ) := (f.2.2 37 3 rfl).trans eD
    have row : ∀ i, i < flM σ → τ.1 302 i = nI (qpl (liv σ) (fN σ) i) ∧ τ.1 303 i = mx0 (σ.1 53 (qpl (liv σ) (fN σ) i)) := fun i hi => by
      obtain ⟨q1, q2, q3⟩ := qpl_is (p := liv σ) (N := fN σ) hi
      have := ht _ q2 q1
      rw [q3] at this
      exact this
    have pre3 : ∃ A, nI (dpF σ) = nI A ∧ A ≤ 99999 ∧ ∃ k, nI (flM σ) = nI k ∧ k ≤ 6 ∧ ∀ i, i < k → 0 ≤ τ.1 303 i := ⟨_, rfl, D5, flM σ, rfl, hm6, fun i hi => by rw [(row i hi).2]; exact (mx0_ok _).1⟩
    have hsp := spF_all.2.2
    have ha3 := arF_all.2.2.2.2.2.2.2.1
    have ha4 := arF_all.2.2.2.2.2.2.2.2.1
    have eW : ∀ i, i < flM σ → wtN τ 303 i = ctW σ i := fun i hi => by
      unfold wtN ctW
      rw [(row i hi).2]
      exact (mx0_ok _).2
    rw [show cn (liv σ) (fN σ) = flM σ from rfl]
    refine jvk_ok TX8_aim (V := [(54, 2, 2, oX2_isLiving), (70, 5, 9, oX9_byWeights), (74, 2, 2, oX2_isPerson)]) (S := [(43, 2, 0, oJ7_fill_53178), (61, 2, 0, oJ9_max_7cf53)]) (List.forall_mem_cons.mpr ⟨⟨mX2_isLiving, n + 1, 1, TX2, 16, rfl, by omega, kX8_54, WX2_isLiving, rfl, CX2_isLiving g (n)⟩, (List.forall_mem_cons.mpr ⟨⟨mX9_byWeights, n + 1, 4, TX9, 1, rfl, by omega, kX8_70, WX9_byWeights, rfl, CX9_byWeights g (n)⟩, (List.forall_mem_cons.mpr ⟨⟨mX2_isPerson, n + 0, 1, TX2, 16, rfl, by omega, kX8_74, WX2_isPerson, rfl, CX2_isPerson g (n)⟩, (fun _ h => absurd h List.not_mem_nil)⟩)⟩)⟩) (List.forall_mem_cons.mpr ⟨⟨mJ7_fill_53178, n + 0, by omega, Or.inl kX8_43, WJ7_fill_53178, CJ7_fill_53178 g (n)⟩, (List.forall_mem_cons.mpr ⟨⟨mJ9_max_7cf53, n + 0, by omega, Or.inl kX8_61, WJ9_max_7cf53, CJ9_max_7cf53 g (n)⟩, (fun _ h => absurd h List.not_mem_nil)⟩)⟩) [12, 86] 40 _ _ _ _ ?_
    simp (maxSteps := 1000000) [↓Bool.cond_eq_ite, -Prod.forall, -Prod.exists, -Prod.mk.injEq, jvk, tX8_aim, jtb, jol, jst, jlk, jcmp, jbin, jfl, fX8, jc2, lX8, jcat, jel, lv_args, Value.category, jins, jsrt, jins2, jble, jblt, jf3, List.filter_cons, List.filter_nil, G_settle, G_flat, oJ7_fill_53178, oX2_isLiving, oJ9_max_7cf53, oX9_byWeights, oX2_isPerson, joII, joRI, joRIRIR, -Int32.not_le, -Int32.not_lt, -Int64.not_le, -Int64.not_lt, i3lt, i6lt, e1, e3, hle, hsp.1, hsp, ha3, ha4, pre3]
    try simp (disch := omega) [-Prod.forall, -Prod.exists, -Prod.mk.injEq, -Int32.not_le, -Int32.not_lt, -Int64.not_le, -Int64.not_lt, i3lt, i6lt, e1, e3, hle, hsp.1, hsp, ha3, ha4, pre3]
    intro v1 τ1 hv1 f1 h4
    subst hv1
    have ec1 : (nI (dpF σ)).toNatClampNeg = dpF σ := nI_clamp (by omega)
    have ec2 : (nI (flM σ)).toNatClampNeg = flM σ := nI_clamp (by omega)
    rw [ec1, ec2] at h4
    have k0 := CAi_end g n (post := post) hok (W := ctW σ) (D := dpF σ) (fun τ' f' h' => hp _ _ ⟨rfl, f', h'⟩) hm6 τ1 (f.tr (f1.weak (fun a j q => by
      unfold aAi at q
      simp only [Bool.or_eq_false_iff, beq_eq_false_iff_ne] at q
      exact gvA_f q.2) (fun a q => q))) (fun p hp10 => (f1.2.2 301 p rfl).trans (h1 p hp10)) (fun i hi => (f1.2.2 302 i rfl).trans (row i hi).1) (fun i hi => (h4 i hi).trans (spS_congr eW i hi))
    refine jvk_ok TX8_aim (V := [(54, 2, 2, oX2_isLiving), (70, 5, 9, oX9_byWeights), (74, 2, 2, oX2_isPerson)]) (S := [(43, 2, 0, oJ7_fill_53178), (61, 2, 0, oJ9_max_7cf53)]) (List.forall_mem_cons.mpr ⟨⟨mX2_isLiving, n + 1, 1, TX2, 16, rfl, by omega, kX8_54, WX2_isLiving, rfl, CX2_isLiving g (n)⟩, (List.forall_mem_cons.mpr ⟨⟨mX9_byWeights, n + 1, 4, TX9, 1, rfl, by omega, kX8_70, WX9_byWeights, rfl, CX9_byWeights g (n)⟩, (List.forall_mem_cons.mpr ⟨⟨mX2_isPerson, n + 0, 1, TX2, 16, rfl, by omega, kX8_74, WX2_isPerson, rfl, CX2_isPerson g (n)⟩, (fun _ h => absurd h List.not_mem_nil)⟩)⟩)⟩) (List.forall_mem_cons.mpr ⟨⟨mJ7_fill_53178, n + 0, by omega, Or.inl kX8_43, WJ7_fill_53178, CJ7_fill_53178 g (n)⟩, (List.forall_mem_cons.mpr ⟨⟨mJ9_max_7cf53, n + 0, by omega, Or.inl kX8_61, WJ9_max_7cf53, CJ9_max_7cf53 g (n)⟩, (fun _ h => absurd h List.not_mem_nil)⟩)⟩) [88] 10 _ _ _ _ ?_
    simp (maxSteps := 1000000) [↓Bool.cond_eq_ite, -Prod.forall, -Prod.exists, -Prod.mk.injEq, jvk, tX8_aim, jtb, jol, jst, jlk, jcmp, jbin, jfl, fX8, jc2, lX8, jcat, jel, lv_args, Value.category, jins, jsrt, jins2, jble, jblt, jf3, List.filter_cons, List.filter_nil, G_settle, G_flat, oJ7_fill_53178, oX2_isLiving, oJ9_max_7cf53, oX9_byWeights, oX2_isPerson, joII, joRI, joRIRIR, -Int32.not_le, -Int32.not_lt, -Int64.not_le, -Int64.not_lt, i3lt, i6lt]
    try simp (disch := omega) [-Prod.forall, -Prod.exists, -Prod.mk.injEq, -Int32.not_le, -Int32.not_lt, -Int64.not_le, -Int64.not_lt, i3lt, i6lt]
    exact k0) (fun k hk ih τ f h1 ht => by
    have hlt : ¬ nI (fN σ) ≤ nI k := nI_ge hk (by omega)
    have e1 : τ.1 37 1 = nI (fN σ) := (f.2.2 37 1 rfl).trans eN
    have jk : jin (nI k) 10 := jin_nI (by omega) (by decide)
    have eck : (nI k).toNatClampNeg = k := nI_clamp (by omega)
    have e53 : τ.1 53 k = σ.1 53 k := f.2.2 53 k rfl
    have e39 : τ.1 39 k = σ.1 39 k := f.2.2 39 k rfl
    have hfP : fP τ (nI k) = true := by
      have h0 := fP_nI hok hk
      unfold fP at h0 ⊢
      rw [f.2.2 37 1 rfl]; exact h0
    by_cases hl : liv σ k = true
    · have hl1 : τ.1 39 k = 1 := by rw [e39]; simpa [liv] using hl
      have hcl : cn (liv σ) k < flM σ := cn_lt hl hk
      obtain ⟨c, ec⟩ : ∃ c, c = cn (liv σ) k := ⟨_, rfl⟩
      have ecs : cn (liv σ) (k + 1) = c + 1 := by simp only [cn]; rw [if_pos hl, ← ec]
      rw [ecs] at ih
      rw [← ec] at hcl ⊢
      have c6 : ¬ (6 : Int32) ≤ nI c := nI_ge (b := 6) (by omega) (by decide)
      have jc : jin (nI c) 6 := jin_nI (by omega) (by decide)
      have ecc : (nI c).toNatClampNeg = c := nI_clamp (by omega)
      have emx : (if σ.1 53 k ≤ 0 then 0 else σ.1 53 k) = mx0 (σ.1 53 k) := rfl
      have k1 := ih (jup (jup τ 302 c (nI k)) 303 c (mx0 (σ.1 53 k))) ((f.up _ rfl).up _ rfl) (fun p hp10 => by rw [jup_1, if_neg (by omega), jup_1, if_neg (by omega)]; exact h1 p hp10) (fun p hp2 hlp => by
        by_cases e : p = k
        · subst e
          rw [← ec]
          simp [jup_1]
        · obtain ⟨t1, t2⟩ := ht p (by omega) hlp
          have hne : cn (liv σ) p < cn (liv σ) k := cn_lt hlp (by omega)
          refine ⟨?_, ?_⟩
          · rw [jup_1, if_neg (by omega), jup_1, if_neg (by omega)]
            exact t1
          · rw [jup_1, if_neg (by omega), jup_1, if_neg (by omega)]
            exact t2)
      refine jvk_ok TX8_aim (V := [(54, 2, 2, oX2_isLiving), (70, 5, 9, oX9_byWeights), (74, 2, 2, oX2_isPerson)]) (S := [(43, 2, 0, oJ7_fill_53178), (61, 2, 0, oJ9_max_7cf53)]) (List.forall_mem_cons.mpr ⟨⟨mX2_isLiving, n + 1, 1, TX2, 16, rfl, by omega, kX8_54, WX2_isLiving, rfl, CX2_isLiving g (n)⟩, (List.forall_mem_cons.mpr ⟨⟨mX9_byWeights, n + 1, 4, TX9, 1, rfl, by omega, kX8_70, WX9_byWeights, rfl, CX9_byWeights g (n)⟩, (List.forall_mem_cons.mpr ⟨⟨mX2_isPerson, n + 0, 1, TX2, 16, rfl, by omega, kX8_74, WX2_isPerson, rfl, CX2_isPerson g (n)⟩, (fun _ h => absurd h List.not_mem_nil)⟩)⟩)⟩) (List.forall_mem_cons.mpr ⟨⟨mJ7_fill_53178, n + 0, by omega, Or.inl kX8_43, WJ7_fill_53178, CJ7_fill_53178 g (n)⟩, (List.forall_mem_cons.mpr ⟨⟨mJ9_max_7cf53, n + 0, by omega, Or.inl kX8_61, WJ9_max_7cf53, CJ9_max_7cf53 g (n)⟩, (fun _ h => absurd h List.not_mem_nil)⟩)⟩) [12] 60 _ _ _ _ ?_
      simp (maxSteps := 1000000) [↓Bool.cond_eq_ite, -Prod.forall, -Prod.exists, -Prod.mk.injEq, jvk, tX8_aim, jtb, jol, jst, jlk, jcmp, jbin, jfl, fX8, jc2, lX8, jcat, jel, lv_args, Value.category, jins, jsrt, jins2, jble, jblt, jf3, List.filter_cons, List.filter_nil, G_settle, G_flat, oJ7_fill_53178, oX2_isLiving, oJ9_max_7cf53, oX9_byWeights, oX2_isPerson, joII, joRI, joRIRIR, -Int32.not_le, -Int32.not_lt, -Int64.not_le, -Int64.not_lt, i3lt, i6lt, e1, hlt, hfP, eck, hl1, c6, jc, ecc, jk, e53, emx, jup_1, nI_1]
      try simp (disch := omega) [-Prod.forall, -Prod.exists, -Prod.mk.injEq, -Int32.not_le, -Int32.not_lt, -Int64.not_le, -Int64.not_lt, i3lt, i6lt, e1, hlt, hfP, eck, hl1, c6, jc, ecc, jk, e53, emx, jup_1, nI_1]
      exact k1
    · have hl1 : ¬ τ.1 39 k = 1 := by rw [e39]; simpa [liv] using hl
      have ecs : cn (liv σ) (k + 1) = cn (liv σ) k := by simp only [cn]; rw [if_neg hl]; rfl
      rw [ecs] at ih
      have k1 := ih τ f h1 (fun p hp2 hlp => ht p (by
        by_cases e : p = k
        · rw [e] at hlp; exact absurd hlp hl
        · omega) hlp)
      refine jvk_ok TX8_aim (V := [(54, 2, 2, oX2_isLiving), (70, 5, 9, oX9_byWeights), (74, 2, 2, oX2_isPerson)]) (S := [(43, 2, 0, oJ7_fill_53178), (61, 2, 0, oJ9_max_7cf53)]) (List.forall_mem_cons.mpr ⟨⟨mX2_isLiving, n + 1, 1, TX2, 16, rfl, by omega, kX8_54, WX2_isLiving, rfl, CX2_isLiving g (n)⟩, (List.forall_mem_cons.mpr ⟨⟨mX9_byWeights, n + 1, 4, TX9, 1, rfl, by omega, kX8_70, WX9_byWeights, rfl, CX9_byWeights g (n)⟩, (List.forall_mem_cons.mpr ⟨⟨mX2_isPerson, n + 0, 1, TX2, 16, rfl, by omega, kX8_74, WX2_isPerson, rfl, CX2_isPerson g (n)⟩, (fun _ h => absurd h List.not_mem_nil)⟩)⟩)⟩) (List.forall_mem_cons.mpr ⟨⟨mJ7_fill_53178, n + 0, by omega, Or.inl kX8_43, WJ7_fill_53178, CJ7_fill_53178 g (n)⟩, (List.forall_mem_cons.mpr ⟨⟨mJ9_max_7cf53, n + 0, by omega, Or.inl kX8_61, WJ9_max_7cf53, CJ9_max_7cf53 g (n)⟩, (fun _ h => absurd h List.not_mem_nil)⟩)⟩) [12] 60 _ _ _ _ ?_
      simp (maxSteps := 1000000) [↓Bool.cond_eq_ite, -Prod.forall, -Prod.exists, -Prod.mk.injEq, jvk, tX8_aim, jtb, jol, jst, jlk, jcmp, jbin, jfl, fX8, jc2, lX8, jcat, jel, lv_args, Value.category, jins, jsrt, jins2, jble, jblt, jf3, List.filter_cons, List.filter_nil, G_settle, G_flat, oJ7_fill_53178, oX2_isLiving, oJ9_max_7cf53, oX9_byWeights, oX2_isPerson, joII, joRI, joRIRIR, -Int32.not_le, -Int32.not_lt, -Int64.not_le, -Int64.not_lt, i3lt, i6lt, e1, hlt, hfP, eck, hl1, nI_1]
      try simp (disch := omega) [-Prod.forall, -Prod.exists, -Prod.mk.injEq, -Int32.not_le, -Int32.not_lt, -Int64.not_le, -Int64.not_lt, i3lt, i6lt, e1, hlt, hfP, eck, hl1, nI_1]
      exact k1)
  have k0 := loop (jfil σ 301 10 0) ⟨rfl, fun _ _ _ => rfl, fun a j q => by
    unfold aAi at q
    simp only [Bool.or_eq_false_iff, beq_eq_false_iff_ne] at q
    rw [jfil_1, if_neg (fun z => q.1.1.1 z.1)]⟩ (fun p hp10 => by rw [jfil_1, if_pos ⟨rfl, hp10⟩]) (fun p hp2 => by omega)
  have ec0 : cn (liv σ) 0 = 0 := rfl
  rw [ec0, nI_0] at k0
  exact k0
