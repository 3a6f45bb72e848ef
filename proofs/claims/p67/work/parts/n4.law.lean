/-! the law's Desk.<init>: a plan, whole -/
/-- the plan c stands in the desk -/
def inPl (τ : dM) (x : Int32) (N K c : Nat) : Prop := ∀ i, i < c → DR τ 2000 i = some (1138 + i) ∧ DA τ (1138 + i) = true ∧ DN τ (1138 + i) = 3 ∧ DI τ (1138 + i) 0 = nI (pnP x N (K - i)) ∧ DI τ (1138 + i) 1 = nI (pnM x (K - i)) ∧ DI τ (1138 + i) 2 = nI (pnI x (K - i))
def alP2 (σ : dM) (c : Nat) : Prop := alP σ c (if c = 0 then 504 else 2000) ∧ ∀ i, c ≤ i → i < 2 → DA σ (1138 + i) = false
section EN4
variable {g : jG} {z : dZ} {k : Nat} {R : Option Value → dM → Nat → Nat → Prop}
theorem alA_R {σ : dM} {c v i j : Nat} (h : i ≠ 2000 ∧ i ≠ 1900) : DR (alA σ c v) i j = DR σ i j := by
  unfold alA
  show DR (DuR (if c = 0 then alG σ else σ) 2000 c (some v)) i j = _
  rw [DuR_R, if_neg (by omega)]
  by_cases e : c = 0
  · rw [if_pos e]
    unfold alG
    rw [DuR_R, if_neg (by omega), Dnw_R, if_neg (by omega)]
  · rw [if_neg e]
theorem alA_fr {σ : dM} {c v : Nat} : tfr (fun k => k ≠ 2000 ∧ k ≠ 1900) σ (alA σ c v) := by
  refine ⟨?_, fun k hk => ⟨?_, fun _ _ _ => ⟨funext fun j => ?_, ?_, funext fun j => alA_R hk, ?_⟩⟩⟩
  · unfold alA
    by_cases e : c = 0
    · rw [if_pos e]; rfl
    · rw [if_neg e]; rfl
  · unfold alA
    rw [DuI_A, DuR_A]
    by_cases e : c = 0
    · rw [if_pos e]
      unfold alG
      rw [DuR_A, Dnw_A, if_neg hk.1]
    · rw [if_neg e]
  · unfold alA
    rw [DuI_I, if_neg (by omega), DuR_I]
    by_cases e : c = 0
    · rw [if_pos e]
      unfold alG
      rw [DuR_I, Dnw_I, if_neg hk.1]
    · rw [if_neg e]
  · funext j
    unfold alA
    rw [DuI_L, DuR_L]
    by_cases e : c = 0
    · rw [if_pos e]
      unfold alG
      rw [DuR_L, Dnw_L, if_neg hk.1]
    · rw [if_neg e]
  · unfold alA
    rw [DuI_N, DuR_N]
    by_cases e : c = 0
    · rw [if_pos e]
      unfold alG
      rw [DuR_N, Dnw_N, if_neg hk.1]
    · rw [if_neg e]
theorem alA_al {σ : dM} {c v r : Nat} (h : alP σ c r) (hc : c < 9) : alP (alA σ c v) (c + 1) 2000 ∧ DR (alA σ c v) 2000 c = some v ∧ ∀ i, i < c → DR (alA σ c v) 2000 i = DR σ 2000 i := by
  obtain ⟨h1, h2, h3, h4⟩ := h
  by_cases e : c = 0
  · subst e
    unfold alA
    rw [if_pos rfl]
    refine ⟨⟨?_, ?_, ?_, Or.inr ⟨by omega, by omega, rfl, ?_, ?_⟩⟩, ?_, fun i hi => by omega⟩
    · rw [DuI_A, DuR_A]
      unfold alG
      rw [DuR_A, Dnw_A, if_neg (by omega)]
      exact h1
    · rw [DuI_I, if_pos ⟨rfl, rfl⟩]
    · rw [DuI_R, DuR_R, if_neg (by omega)]
      unfold alG
      rw [DuR_R, if_pos ⟨rfl, rfl⟩]
    · rw [DuI_A, DuR_A]
      unfold alG
      rw [DuR_A, Dnw_A, if_pos rfl]
    · rw [DuI_N, DuR_N]
      unfold alG
      rw [DuR_N, Dnw_N, if_pos rfl]
    · rw [DuI_R, DuR_R, if_pos ⟨rfl, rfl⟩]
  · unfold alA
    rw [if_neg e]
    obtain ⟨g1, -⟩ | ⟨g1, g2, g3, g4, g5⟩ := h4
    · exact absurd g1 e
    · refine ⟨⟨h1, ?_, ?_, Or.inr ⟨by omega, by omega, rfl, g4, g5⟩⟩, ?_, fun i hi => ?_⟩
      · rw [DuI_I, if_pos ⟨rfl, rfl⟩]
      · rw [DuI_R, DuR_R, if_neg (by omega), h3, g3]
      · rw [DuI_R, DuR_R, if_pos ⟨rfl, rfl⟩]
      · rw [DuI_R, DuR_R, if_neg (by omega)]
theorem alA_q {σ : dM} {c v k j q : Nat} (hv : ¬ (1600 ≤ v ∧ v < 1900)) (k3 : DA (alA σ c v) k = true) (e : DR (alA σ c v) k j = some q) (q1 : 1600 ≤ q) (q2 : q < 1900) : DA σ k = true ∧ DR σ k j = some q := by
  unfold alA at k3 e
  rw [DuI_A, DuR_A] at k3
  rw [DuI_R, DuR_R] at e
  by_cases c1 : k = 2000 ∧ j = c
  · rw [if_pos c1] at e
    have := Option.some.inj e
    omega
  · rw [if_neg c1] at e
    by_cases c2 : c = 0
    · rw [if_pos c2] at k3 e
      unfold alG at k3 e
      rw [DuR_A, Dnw_A] at k3
      rw [DuR_R, Dnw_R] at e
      by_cases c3 : k = 1900 ∧ j = 1
      · rw [if_pos c3] at e
        have := Option.some.inj e
        omega
      · rw [if_neg c3] at e
        by_cases c4 : k = 2000
        · rw [if_pos c4] at e
          cases e
        · rw [if_neg c4] at e k3
          exact ⟨k3, e⟩
    · rw [if_neg c2] at k3 e
      exact ⟨k3, e⟩
theorem plK : ∀ c, c < 2 → darr (1138 + c) 1 0 = true ∧ (1138 + c = 1138 ∨ 1138 + c = 1139) := by decide +kernel
theorem in_plan1 {N M XN q K c w : Nat} {f : Nat → Nat} {y3 : Int32} {xs : Nat → Int32} {σ : dM} {c0 s0 : Nat} (hR : dRok g z mX12_init R) (hT : dEt g z.2.2.2.2) (hC : dEc g z.2.2.2.2 XN xs) (hkp : ixF z ∧ (z.2.2.1 1138 = false ∧ z.2.2.1 1139 = false) ∧ z.2.2.1 2000 = false) (hz : k + 6 ≤ z.1.frames ∧ 64 * (k + 6) ≤ z.1.locals ∧ c0 + 14 ≤ z.1.cells ∧ s0 + 6337 ≤ z.1.slots) (hd : dk σ N M) (hcK : c < K) (hK : K ≤ 2) (hal : alP2 σ c) (hpl : inPl σ (scX XN xs 6) N K c) (h : ixS σ q f w) (hw : w + 17 ≤ 300)
    (kk : ∀ τ, tfr (fun k => ¬ ixK k ∧ k ≠ 2000 ∧ k ≠ 1900 ∧ k ≠ 1138 + c) σ τ → dk τ N M → alP2 τ (c + 1) → inPl τ (scX XN xs 6) N K (c + 1) → ixS τ 1700 (plT f w (pnP (scX XN xs 6) N (K - c)) (pnM (scX XN xs 6) (K - c)) (pnI (scX XN xs 6) (K - c))) (w + 5 + 1 + 1 + sb_dg (pnM (scX XN xs 6) (K - c)) + 1 + sb_dg (pnI (scX XN xs 6) (K - c)) + 1) → DW g z mX12_init 752 [(0, .ref 1000), (1, .ref 380), (2, .ref 1700), (3, .int y3), (4, .int (nI (K - c))), (5, .ref (1138 + c))] [] τ (c0 + 14) (s0 + 6337)) : DW g z mX12_init 615 [(0, .ref 1000), (1, .ref 380), (2, .ref q), (3, .int y3), (4, .int (nI (K - c)))] [] σ c0 s0 := by
  have hE := hT.1
  have n := k
  have hN := hd.1.1
  obtain ⟨x, ex⟩ : ∃ x, x = scX XN xs 6 := ⟨_, rfl⟩
  rw [← ex] at kk hpl
  obtain ⟨ga, ha⟩ := plK c (by omega)
  obtain ⟨hal, hfr⟩ := hal
  have hq9 : q = 1700 ∨ q = 370 := by obtain ⟨h, -⟩ := h; omega
  have hkc : z.2.2.1 (1138 + c) = false := by
    rcases ha with e | e
    · rw [e]; exact hkp.2.1.1
    · rw [e]; exact hkp.2.1.2
  have e3 : (3 : Int32).toNatClampNeg = 3 := by decide
  have q1 : ¬ q = 1138 + c ∧ ¬ 380 = 1138 + c ∧ ¬ 1000 = 1138 + c := by omega
  refine dvk_ok (nC := n + 10) DX12_init_g hTyA hR (VC := [(131, 2, 11, oX11_load)]) (VD := []) (SD := [(33, 2, 0, n + 0, 0, 0, 0, [], dL_mod)]) (AL := []) (List.forall_mem_cons.mpr ⟨⟨mX11_load, n + 10, 1, TX11, 9, rfl, by omega, hX12_131, WX11_load, rfl, CX11_load g (n) hE.1⟩, (fun _ h => absurd h List.not_mem_nil)⟩) (fun _ h => absurd h List.not_mem_nil) (List.forall_mem_cons.mpr ⟨⟨mL_mod, by decide, Or.inr ⟨_, hX12_33⟩, WL_mod, EL_mod g _ n⟩, (fun _ h => absurd h List.not_mem_nil)⟩) [616] 10 _ _ _ _ _ _ ?_
  simp (maxSteps := 1000000) [↓Bool.cond_eq_ite, -Prod.forall, -Prod.exists, -Prod.mk.injEq, ↓jc_eq_t, ↓jc_eq_f, ↓jc_ne_t, ↓jc_ne_f, ↓jc_lt_t, ↓jc_lt_f, ↓jc_ge_t, ↓jc_ge_f, ↓jc_gt_t, ↓jc_gt_f, ↓jc_le_t, ↓jc_le_f, dvk, tX12_init_g, jtb, jol, dvl, dal, dst, jlk, jcmp, jbin, jfl, qX12, jc2, qlX12, jcat, jel, lv_args, Value.category, jins, jsrt, jins2, jble, jblt, jf3, List.filter_cons, List.filter_nil, Dlo, Dnr, DnL, Dfree, Droom, DuS_S, DuS_I, DuS_L, DuS_R, DuS_N, DuS_A, DuI_S, DuI_I, DuI_L, DuI_R, DuI_N, DuI_A, DuL_S, DuL_I, DuL_L, DuL_R, DuL_N, DuL_A, DuR_S, DuR_I, DuR_L, DuR_R, DuR_N, DuR_A, Dnw_S, Dnw_I, Dnw_L, Dnw_R, Dnw_N, Dnw_A, DrI_S, DrI_I, DrI_L, DrI_R, DrI_N, DrI_A, DrJ_S, DrJ_I, DrJ_L, DrJ_R, DrJ_N, DrJ_A, dm64, G_d, G_x0, dL_mod, oX11_load, doII, joRI, -Int32.not_le, -Int32.not_lt, -Int64.not_le, -Int64.not_lt, i3lt, i6lt]
  try simp (disch := omega) [-Prod.forall, -Prod.exists, -Prod.mk.injEq, -Int32.not_le, -Int32.not_lt, -Int64.not_le, -Int64.not_lt, i3lt, i6lt]
  refine dr_newI (atype := .int) (ti := 0) (a := 1138 + c) ga (by decide) rfl rfl (show Cond.arrayClass .int ∈ jGw from jGw_of 438 (by decide +kernel) (by decide +kernel)) (hfr c (Nat.le_refl _) (by omega)) hkc (by decide) (by decide) (by omega) (by rw [e3]; omega) (by simp [DnL, q1]) (by simp [Dnr]) (by decide +kernel) ?_
  rw [e3]
  have hd1 : dk (Dnw σ (1138 + c) 3) N M := dk_tfr (P := fun k => k ≠ 1138 + c) (fun k hk => by unfold dkI at hk; omega) (tfr_fr Dfr_nw) hd
  refine in_mk (k := k) (j := K - c) (a := 1138 + c) hR hT hC ⟨by omega, by omega, by omega, by omega⟩ hd1 (by omega) ha (by rw [Dnw_A, if_pos rfl]) (by rw [Dnw_N, if_pos rfl]) ?_
  rw [← ex]
  obtain ⟨τ, eτ⟩ : ∃ τ, τ = DuI (DuI (DuI (Dnw σ (1138 + c) 3) (1138 + c) 0 (nI (pnP x N (K - c)))) (1138 + c) 1 (nI (pnM x (K - c)))) (1138 + c) 2 (nI (pnI x (K - c))) := ⟨_, rfl⟩
  have fτ : tfr (fun k => k ≠ 1138 + c) σ τ := ⟨by rw [eτ]; rfl, fun k hk => ⟨by rw [eτ, DuI_A, DuI_A, DuI_A, Dnw_A, if_neg hk], fun _ _ _ => ⟨funext fun j => by rw [eτ, DuI_I, if_neg (fun z => hk z.1), DuI_I, if_neg (fun z => hk z.1), DuI_I, if_neg (fun z => hk z.1), Dnw_I, if_neg hk], funext fun j => by rw [eτ, DuI_L, DuI_L, DuI_L, Dnw_L, if_neg hk], funext fun j => by rw [eτ, DuI_R, DuI_R, DuI_R, Dnw_R, if_neg hk], by rw [eτ, DuI_N, DuI_N, DuI_N, Dnw_N, if_neg hk]⟩⟩⟩
  have aτ : DA τ (1138 + c) = true ∧ DN τ (1138 + c) = 3 := ⟨by rw [eτ, DuI_A, DuI_A, DuI_A, Dnw_A, if_pos rfl], by rw [eτ, DuI_N, DuI_N, DuI_N, Dnw_N, if_pos rfl]⟩
  have iτ : DI τ (1138 + c) 0 = nI (pnP x N (K - c)) ∧ DI τ (1138 + c) 1 = nI (pnM x (K - c)) ∧ DI τ (1138 + c) 2 = nI (pnI x (K - c)) := ⟨by rw [eτ, DuI_I, if_neg (by omega), DuI_I, if_neg (by omega), DuI_I, if_pos ⟨rfl, rfl⟩], by rw [eτ, DuI_I, if_neg (by omega), DuI_I, if_pos ⟨rfl, rfl⟩], by rw [eτ, DuI_I, if_pos ⟨rfl, rfl⟩]⟩
  have rτ : ∀ k j, k ≠ 1138 + c → DR τ k j = DR σ k j := fun k j hk => by rw [eτ, DuI_R, DuI_R, DuI_R, Dnw_R, if_neg hk]
  have rτ0 : ∀ j, DR τ (1138 + c) j = none := fun j => by rw [eτ, DuI_R, DuI_R, DuI_R, Dnw_R, if_pos rfl]
  have hdτ : dk τ N M := dk_tfr (fun k hk => by unfold dkI at hk; omega) fτ hd
  have al1 : alP τ c (if c = 0 then 504 else 2000) := by
    obtain ⟨b1, b2, b3, b4⟩ := hal
    obtain ⟨c1, c2⟩ := fτ.2 1900 (by omega)
    obtain ⟨c3, c4, c5, c6⟩ := c2 (by omega) (by omega) b1
    obtain ⟨d1, d2⟩ := fτ.2 2000 (by omega)
    refine ⟨c1.trans b1, by rw [c3]; exact b2, by rw [c5]; exact b3, ?_⟩
    rcases b4 with ⟨g1, g2, g3⟩ | ⟨g1, g2, g3, g4, g5⟩
    · exact Or.inl ⟨g1, g2, d1.trans g3⟩
    · exact Or.inr ⟨g1, g2, g3, d1.trans g4, (d2 (by omega) (by omega) g4).2.2.2.trans g5⟩
  rw [← eτ]
  refine dvk_ok (nC := n + 10) DX12_init_g hTyA hR (VC := [(131, 2, 11, oX11_load)]) (VD := []) (SD := [(33, 2, 0, n + 0, 0, 0, 0, [], dL_mod)]) (AL := []) (List.forall_mem_cons.mpr ⟨⟨mX11_load, n + 10, 1, TX11, 9, rfl, by omega, hX12_131, WX11_load, rfl, CX11_load g (n) hE.1⟩, (fun _ h => absurd h List.not_mem_nil)⟩) (fun _ h => absurd h List.not_mem_nil) (List.forall_mem_cons.mpr ⟨⟨mL_mod, by decide, Or.inr ⟨_, hX12_33⟩, WL_mod, EL_mod g _ n⟩, (fun _ h => absurd h List.not_mem_nil)⟩) [688] 10 _ _ _ _ _ _ ?_
  simp (maxSteps := 1000000) [↓Bool.cond_eq_ite, -Prod.forall, -Prod.exists, -Prod.mk.injEq, ↓jc_eq_t, ↓jc_eq_f, ↓jc_ne_t, ↓jc_ne_f, ↓jc_lt_t, ↓jc_lt_f, ↓jc_ge_t, ↓jc_ge_f, ↓jc_gt_t, ↓jc_gt_f, ↓jc_le_t, ↓jc_le_f, dvk, tX12_init_g, jtb, jol, dvl, dal, dst, jlk, jcmp, jbin, jfl, qX12, jc2, qlX12, jcat, jel, lv_args, Value.category, jins, jsrt, jins2, jble, jblt, jf3, List.filter_cons, List.filter_nil, Dlo, Dnr, DnL, Dfree, Droom, DuS_S, DuS_I, DuS_L, DuS_R, DuS_N, DuS_A, DuI_S, DuI_I, DuI_L, DuI_R, DuI_N, DuI_A, DuL_S, DuL_I, DuL_L, DuL_R, DuL_N, DuL_A, DuR_S, DuR_I, DuR_L, DuR_R, DuR_N, DuR_A, Dnw_S, Dnw_I, Dnw_L, Dnw_R, Dnw_N, Dnw_A, DrI_S, DrI_I, DrI_L, DrI_R, DrI_N, DrI_A, DrJ_S, DrJ_I, DrJ_L, DrJ_R, DrJ_N, DrJ_A, dm64, G_d, G_x0, dL_mod, oX11_load, doII, joRI, -Int32.not_le, -Int32.not_lt, -Int64.not_le, -Int64.not_lt, i3lt, i6lt]
  try simp (disch := omega) [-Prod.forall, -Prod.exists, -Prod.mk.injEq, -Int32.not_le, -Int32.not_lt, -Int64.not_le, -Int64.not_lt, i3lt, i6lt]
  have hc := EJxl_add (g := g) (h0 := z.2.2.2.2) hT k c (1138 + c) (if c = 0 then 504 else 2000) [.ref 1900, .ref (1138 + c)] τ ⟨rfl, rfl, al1, by omega, ga, aτ.1⟩
  have hA9 : DA τ 1900 = true := al1.1
  have q2 : ¬ q = 2000 := by omega
  have q3 : ¬ 1138 + c = 2000 := by omega
  have hkp9 : z.2.2.1 2000 = false := hkp.2.2
  refine dr_callV (idx := 115) (mt' := mJx4a65c_add_9ea2d) (tl := [2000]) (n' := k + 4) (mc := 1) (ms := 10) (ci := 15) (T := TJx4a65c) (N := 3) (a := 1900) (as := [.ref (1138 + c)]) ⟨by omega, by show 8 + (2 + 11) + 64 * (k + 4) ≤ _; omega, by omega, by omega⟩ (by simp [Dfree, DnL, Dnr, hkp9, q2, q3]) (by decide +kernel) hX12_115 WJx4a65c_add_9ea2d rfl (by decide +kernel) hA9 rfl rfl (by simp [Value.category]) hc ?_
  rintro w9 ε ⟨rfl, eε⟩
  have al2 : alP (DuI τ 1900 0 (DI τ 1900 0 + 1)) c (if c = 0 then 504 else 2000) := by
    obtain ⟨b1, b2, b3, b4⟩ := al1
    exact ⟨b1, by rw [DuI_I, if_neg (by omega)]; exact b2, b3, b4⟩
  obtain ⟨al3, al4, al5⟩ := alA_al (v := 1138 + c) al2 (by omega)
  rw [← eε] at al3 al4 al5
  have fε : tfr (fun k => k ≠ 2000 ∧ k ≠ 1900) τ ε := by
    rw [eε]
    refine tfr.tr (τ := DuI τ 1900 0 (DI τ 1900 0 + 1)) ⟨rfl, fun k hk => ⟨rfl, fun _ _ _ => ⟨funext fun j => by rw [DuI_I, if_neg (by omega)], rfl, rfl, rfl⟩⟩⟩ alA_fr
  have hdε : dk ε N M := dk_ex hdτ (fε.weak (fun k hk => by have := hk.1; unfold dkI at this; omega)) al3.1
  have iε : DA ε (1138 + c) = true ∧ DN ε (1138 + c) = 3 ∧ DI ε (1138 + c) 0 = nI (pnP x N (K - c)) ∧ DI ε (1138 + c) 1 = nI (pnM x (K - c)) ∧ DI ε (1138 + c) 2 = nI (pnI x (K - c)) := by
    obtain ⟨a1, a2⟩ := fε.2 (1138 + c) (by omega)
    obtain ⟨b1, -, -, b4⟩ := a2 (by omega) (by omega) aτ.1
    exact ⟨a1.trans aτ.1, b4.trans aτ.2, by rw [b1]; exact iτ.1, by rw [b1]; exact iτ.2.1, by rw [b1]; exact iτ.2.2⟩
  have fσ : tfr (fun k => k ≠ 2000 ∧ k ≠ 1900 ∧ k ≠ 1138 + c) σ ε := (fτ.weak (fun k hk => hk.2.2)).tr (fε.weak (fun k hk => ⟨hk.1, hk.2.1⟩))
  have hxε : ixS ε q f w := ixS_w2 (P := fun k => k ≠ 2000 ∧ k ≠ 1900 ∧ k ≠ 1138 + c) (fun k k1 k2 => by omega) fσ (fun i j q8 k1 k2 k3 e p1 p2 => by
    rw [eε] at k3 e
    obtain ⟨a1, a2⟩ := alA_q (by omega) k3 e p1 p2
    have a1 : DA τ i = true := a1
    have a2 : DR τ i j = some q8 := a2
    by_cases e9 : i = 1138 + c
    · rw [e9, rτ0] at a2
      cases a2
    · rw [rτ i j e9] at a2
      exact ⟨(fτ.2 i e9).1.symm.trans a1, a2⟩) h
  show DW g z mX12_init 691 _ [.int 1] ε _ _
  refine dvk_ok (nC := n + 10) DX12_init_g hTyA hR (VC := [(131, 2, 11, oX11_load)]) (VD := []) (SD := [(33, 2, 0, n + 0, 0, 0, 0, [], dL_mod)]) (AL := []) (List.forall_mem_cons.mpr ⟨⟨mX11_load, n + 10, 1, TX11, 9, rfl, by omega, hX12_131, WX11_load, rfl, CX11_load g (n) hE.1⟩, (fun _ h => absurd h List.not_mem_nil)⟩) (fun _ h => absurd h List.not_mem_nil) (List.forall_mem_cons.mpr ⟨⟨mL_mod, by decide, Or.inr ⟨_, hX12_33⟩, WL_mod, EL_mod g _ n⟩, (fun _ h => absurd h List.not_mem_nil)⟩) [692] 10 _ _ _ _ _ _ ?_
  simp (maxSteps := 1000000) [↓Bool.cond_eq_ite, -Prod.forall, -Prod.exists, -Prod.mk.injEq, ↓jc_eq_t, ↓jc_eq_f, ↓jc_ne_t, ↓jc_ne_f, ↓jc_lt_t, ↓jc_lt_f, ↓jc_ge_t, ↓jc_ge_f, ↓jc_gt_t, ↓jc_gt_f, ↓jc_le_t, ↓jc_le_f, dvk, tX12_init_g, jtb, jol, dvl, dal, dst, jlk, jcmp, jbin, jfl, qX12, jc2, qlX12, jcat, jel, lv_args, Value.category, jins, jsrt, jins2, jble, jblt, jf3, List.filter_cons, List.filter_nil, Dlo, Dnr, DnL, Dfree, Droom, DuS_S, DuS_I, DuS_L, DuS_R, DuS_N, DuS_A, DuI_S, DuI_I, DuI_L, DuI_R, DuI_N, DuI_A, DuL_S, DuL_I, DuL_L, DuL_R, DuL_N, DuL_A, DuR_S, DuR_I, DuR_L, DuR_R, DuR_N, DuR_A, Dnw_S, Dnw_I, Dnw_L, Dnw_R, Dnw_N, Dnw_A, DrI_S, DrI_I, DrI_L, DrI_R, DrI_N, DrI_A, DrJ_S, DrJ_I, DrJ_L, DrJ_R, DrJ_N, DrJ_A, dm64, G_d, G_x0, dL_mod, oX11_load, doII, joRI, -Int32.not_le, -Int32.not_lt, -Int64.not_le, -Int64.not_lt, i3lt, i6lt]
  try simp (disch := omega) [-Prod.forall, -Prod.exists, -Prod.mk.injEq, -Int32.not_le, -Int32.not_lt, -Int64.not_le, -Int64.not_lt, i3lt, i6lt]
  refine in_plan (k := k) (p := pnP x N (K - c)) (a := pnM x (K - c)) (b := pnI x (K - c)) hR hT ⟨by omega, by omega, by omega, by omega⟩ hkp.1 hxε hdε ha iε.1 iε.2.1 iε.2.2.1 iε.2.2.2.1 iε.2.2.2.2 ?_ ?_ ?_ ?_ (fun υ t1 t2 t3 => ?_)
  · have := md_lt (x >>> (nI (2 + (K - c)) &&& 31)) (k := N) (by omega)
    unfold pnP
    omega
  · have := md_lt (x >>> (nI (3 + 2 * (K - c)) &&& 31)) (k := 6) (by omega)
    unfold pnM
    omega
  · have := md_lt (x >>> (nI (4 + (K - c)) &&& 31)) (k := 2500) (by omega)
    unfold pnI
    omega
  · have a1 : pnM x (K - c) < 6 := md_lt _ (by omega)
    have a2 : pnI x (K - c) < 2500 := md_lt _ (by omega)
    have a3 := (sbdg4 (v := pnM x (K - c)) (by omega)).2
    have a4 := (sbdg4 (v := pnI x (K - c)) (by omega)).2
    omega
  have nk : ∀ i, i = 1900 ∨ i = 2000 ∨ (1138 ≤ i ∧ i < 1140) → ¬ ixK i := fun i hi => by unfold ixK; omega
  refine DW.wide (c1 := c0 + 14) (s1 := s0 + 6337) (by omega) (by omega) (kk υ ((fσ.weak (fun k hk => hk.2)).tr (t1.weak (fun k hk => hk.1))) t2 ⟨?_, fun i h1 h2 => ?_⟩ (fun i hi => ?_) t3)
  · rw [if_neg (by omega)]
    obtain ⟨b1, b2, b3, b4⟩ := al3
    obtain ⟨c1, c2⟩ := t1.2 1900 (nk _ (by omega))
    obtain ⟨c3, c4, c5, c6⟩ := c2 (by omega) (by omega) b1
    obtain ⟨d1, d2⟩ := t1.2 2000 (nk _ (by omega))
    refine ⟨c1.trans b1, by rw [c3]; exact b2, by rw [c5]; exact b3, ?_⟩
    rcases b4 with ⟨g1, g2, g3⟩ | ⟨g1, g2, g3, g4, g5⟩
    · omega
    · exact Or.inr ⟨g1, g2, g3, d1.trans g4, (d2 (by omega) (by omega) g4).2.2.2.trans g5⟩
  · rw [(t1.2 (1138 + i) (nk _ (by omega))).1, (fσ.2 (1138 + i) (by omega)).1]
    exact hfr i (by omega) h2
  · have A2 : DA ε 2000 = true := by
      obtain ⟨b1, b2, b3, b4⟩ := al3
      rcases b4 with ⟨g1, g2, g3⟩ | ⟨g1, g2, g3, g4, g5⟩
      · omega
      · exact g4
    obtain ⟨-, -, r3, -⟩ := (t1.2 2000 (nk _ (by omega))).2 (by omega) (by omega) A2
    obtain ⟨s1, s2⟩ := t1.2 (1138 + i) (nk _ (by omega))
    by_cases e9 : i = c
    · subst e9
      obtain ⟨j1, j2, j3, j4, j5⟩ := iε
      obtain ⟨m1, -, -, m4⟩ := s2 (by omega) (by omega) j1
      exact ⟨by rw [r3]; exact al4, s1.trans j1, m4.trans j2, by rw [m1]; exact j3, by rw [m1]; exact j4, by rw [m1]; exact j5⟩
    · obtain ⟨v1, v2, v3, v4, v5, v6⟩ := hpl i (by omega)
      obtain ⟨w1, w2⟩ := fσ.2 (1138 + i) (by omega)
      obtain ⟨w3, -, -, w4⟩ := w2 (by omega) (by omega) v2
      have A3 : DA ε (1138 + i) = true := w1.trans v2
      obtain ⟨m1, -, -, m4⟩ := s2 (by omega) (by omega) A3
      refine ⟨?_, s1.trans A3, (m4.trans w4).trans v3, by rw [m1, w3]; exact v4, by rw [m1, w3]; exact v5, by rw [m1, w3]; exact v6⟩
      rw [r3, al5 i (by omega)]
      show DR τ 2000 i = _
      rw [rτ 2000 i (by omega)]
      exact v1
end EN4
