/-! the law's does: months pass -/
theorem rBd_pmF {s : jM} {f : Nat → Int32} {N M K mo : Nat} (hN : N ≤ 5) (hM : M ≤ 4) (hs : xRk s M N K) (d : dG f M N) (bd : rBd f N mo) (hmo : mo ≤ 298) : rBd (pmF s f) N (mo + 1) := by
  rw [pmF_e hs]
  exact rBd_pm hN hM (xv_n hs).2.2.1 (dG_pa hs (dG_ps hs d K (Nat.le_refl _))) (rBd_pa hs (dG_ps hs d K (Nat.le_refl _)) (rBd_ps bd)) (by omega)
theorem psI_2 (s : jM) (f : Nat → Int32) : ∀ k, psI s f k 2 = f 2
  | 0 => rfl
  | k + 1 => by
    show ps1 s k (psI s f k) 2 = f 2
    rcases ps1_fu s k (psI s f k) with e | ⟨-, -, e⟩
    · rw [e]
      exact psI_2 s f k
    · rw [e]
      dsimp only
      rw [if_neg (by omega), fu_n _ _ (by omega)]
      exact psI_2 s f k
theorem pmF_2 {s : jM} {N M K : Nat} (hs : xRk s M N K) (f : Nat → Int32) : pmF s f 2 = f 2 := by
  have e : paF s (psI s f K) 2 = psI s f K 2 := by
    unfold paF
    split
    · exact agX_lo (by omega)
    · rfl
  rw [pmF_e hs, pm_lo (xv_n hs).2.2.1 (by omega), e, psI_2]
theorem pmI_2 {s : jM} {N M K : Nat} (hs : xRk s M N K) (f : Nat → Int32) : ∀ k, pmI s f k 2 = f 2
  | 0 => rfl
  | k + 1 => (pmF_2 hs _).trans (pmI_2 hs f k)
theorem rP_s1 {σ : dM} {s0 s1 : jM} {F : Nat → Int32} {K : Nat} (h : rP σ (rw3 s0 F) K) (k : xSm s0 s1) (e : s1.1 323 = F) : rP σ s1 K := by
  obtain ⟨_, _, _, -, -, q⟩ := k
  have e9 : mO s1 = mO (rw3 s0 F) := mO_row (by rw [e]; exact funext fun j => (rw3_sf s0 F j).symm)
  have eo : ∀ a, 327 ≤ a → a ≤ 329 → s1.1 a = (rw3 s0 F).1 a := fun a h1 h2 => by
    rw [q a h1 h2]
    exact funext fun j => (rw3_of s0 F (by omega)).symm
  obtain ⟨h1, h2, h3⟩ := h
  refine ⟨h1, by rw [e9]; exact h2, fun z => ?_⟩
  rw [e9, eo 327 (by omega) (by omega), eo 328 (by omega) (by omega), eo 329 (by omega) (by omega)]
  exact h3 z
/-- what stands behind k months -/
def stK (σ0 σ : dM) (s : jM) (N M K mo k : Nat) : Prop := stB σ0 σ s (pmI s (s.1 323) k) N M K ∧ rBd (pmI s (s.1 323) k) N (mo + k)
theorem stK_0 {σ : dM} {s0 : jM} {N M K mo : Nat} (h : rZ σ s0 N M K mo) (hcl : Dcl0 σ) : stK σ σ s0 N M K mo 0 := by
  refine ⟨⟨rDs_R h.1.1, ?_, rfl, h.1.2.2.1, fun _ _ _ => rfl, hcl⟩, h.2.2.1⟩
  have e9 : mO (rw3 s0 (s0.1 323)) = mO s0 := mO_row (funext fun j => rw3_sf s0 _ j)
  have eo : ∀ a, a ≠ 323 → (rw3 s0 (s0.1 323)).1 a = s0.1 a := fun a ha => funext fun j => rw3_of s0 _ ha
  obtain ⟨h1, h2, h3⟩ := h.2.1
  show rP σ (rw3 s0 (s0.1 323)) K
  refine ⟨h1, by rw [e9]; exact h2, fun z => ?_⟩
  rw [e9, eo 327 (by omega), eo 328 (by omega), eo 329 (by omega)]
  exact h3 z
theorem stK_s {σ0 σ τ : dM} {s : jM} {N M K mo k : Nat} (hs : xRk s M N K) (h : stK σ0 σ s N M K mo k) (hmo : mo + k ≤ 298) (hB : stB σ τ s (pmF s (pmI s (s.1 323) k)) N M K) : stK σ0 τ s N M K mo (k + 1) := by
  obtain ⟨⟨a1, a2, a3, a4, a5, a6⟩, a7⟩ := h
  obtain ⟨b1, b2, b3, b4, b5, b6⟩ := hB
  exact ⟨⟨b1, b2, b3.trans a3, b4, fun k h1 h2 => (b5 k h1 h2).trans (a5 k h1 h2), b6⟩, rBd_pmF (by have := a1.1.1.1; omega) (by have := a1.1.1.2; omega) hs a1.2.2 a7 hmo⟩
theorem rZ_C {σ0 τ : dM} {s0 s1 : jM} {N M K mo k : Nat} (h : rZ σ0 s0 N M K mo) (hC : stK σ0 τ s0 N M K mo k) (q : xSm s0 s1) (e : s1.1 323 = pmI s0 (s0.1 323) k) : rZ (DuS τ s1) s1 N M K (mo + k) := by
  obtain ⟨⟨⟨a1, a2, a9⟩, a3, a4, a5, a6, a7⟩, a8⟩ := hC
  have hx1 := xSm_k h.1.1.2.1 q
  exact ⟨⟨⟨a1, hx1, by rw [e]; exact a2⟩, xG_self hx1, a5, fun b hb => (a6 b (fun z => by unfold tmpK at hb; omega) (fun z => by unfold tmpK at hb; omega)).trans (h.1.2.2.2 b hb)⟩, rP_s1 a3 q e, by rw [e]; exact a8, by rw [e, pmI_2 h.1.1.2.1]; exact h.2.2.2⟩
set_option maxRecDepth 100000 in
set_option maxHeartbeats 4000000 in
theorem EDo_k1 {g : jG} {n : Nat} {z : dZ} {R : Option Value → dM → Nat → Nat → Prop} (hE : dEs g) (hR : dRok g z mX12_does R) (hz : z.1.frames = n + 9 ∧ z.1.locals = 64 * (n + 9) ∧ z.1.cells = 3200 ∧ z.1.slots = 16000) (hkp : dKp z) {σ0 σ : dM} {s0 : jM} {N M K mo k m : Nat} (h : rZ σ0 s0 N M K mo) (hmo : mo + k ≤ 298) (hC : stK σ0 σ s0 N M K mo k) (hk : k < m) (hm : m ≤ 3) {p q r x : Int32}
    (ih : ∀ τ, stK σ0 τ s0 N M K mo (k + 1) → DW g z mX12_does 780 [(0, .ref 1000), (1, .int x), (2, .int p), (3, .int q), (4, .int r), (5, .int (nI m)), (6, .int (nI (k + 1)))] [] τ (1046 * (k + 1)) (5230 * (k + 1))) :
    DW g z mX12_does 780 [(0, .ref 1000), (1, .int x), (2, .int p), (3, .int q), (4, .int r), (5, .int (nI m)), (6, .int (nI k))] [] σ (1046 * k) (5230 * k) := by
  have hk1 := hC.1.1.1
  have hf := dk_f hk1
  have hkk := dKp_k hkp
  have hlt : ¬ nI m ≤ nI k := nI_ge hk (by omega)
  have hpre : prPs σ s0 (pmI s0 (s0.1 323) k) N M K := ⟨h.1.1.2.1, hC.1.1, hC.1.2.1, hC.1.2.2.2.1, fun b hb => (hC.1.2.2.2.2.1 b (fun z => by unfold tmpK at hb; omega) (fun z => by unfold tmpK at hb; omega)).trans (h.1.2.2.2 b hb), mo + k, hC.2, hmo⟩
  have r1 : 1046 * k + 1046 ≤ 3200 ∧ 1046 * k ≤ 2154 := by omega
  have r2 : 5230 * k + 5230 ≤ 16000 ∧ 5230 * k ≤ 10770 := by omega
  refine dvk_ok (nC := n + 8) DX12_does_k hTyA hR (VC := [(319, 2, 11, oX11_moveIn), (322, 2, 11, oX11_moveOut), (325, 4, 11, oX11_setValue), (329, 4, 11, oX11_setRefusal), (333, 2, 11, oX11_setLease), (336, 3, 11, oX11_setSetting), (216, 1, 11, oX11_divide), (339, 3, 11, oX11_swapRooms), (345, 2, 11, oX11_passMonths)]) (VD := [(164, 1, 12, n + 0, 0, 0, 0, [], dX12_living), (204, 1, 12, n + 7, 0, 1025, 5125, [1108, 1106, 1107, 1109], dX12_proposes), (304, 1, 12, n + 4, 0, 21, 105, [1125, 1123, 1120, 1121, 1401, 1115, 1116, 1117, 1118, 1119, 1210, 1311, 1124, 1310, 1312], dX12_agree), (256, 1, 12, n + 2, 0, 0, 0, [], dX12_allEnvy), (342, 1, 12, n + 8, 0, 1046, 5230, [1125, 1123, 1120, 1121, 1401, 1115, 1116, 1117, 1118, 1119, 1210, 1311, 1124, 1310, 1312, 1108, 1106, 1107, 1109], (dX12_pass s0 (pmI s0 (s0.1 323) k) N M K))]) (SD := [(33, 2, 0, n + 0, 0, 0, 0, [], dL_mod)]) (AL := []) (List.forall_mem_cons.mpr ⟨⟨mX11_moveIn, n + 4, 1, TX11, 9, rfl, by omega, hX12_319, WX11_moveIn, rfl, CX11_moveIn g (n)⟩, (List.forall_mem_cons.mpr ⟨⟨mX11_moveOut, n + 4, 1, TX11, 9, rfl, by omega, hX12_322, WX11_moveOut, rfl, CX11_moveOut g (n)⟩, (List.forall_mem_cons.mpr ⟨⟨mX11_setValue, n + 4, 3, TX11, 9, rfl, by omega, hX12_325, WX11_setValue, rfl, CX11_setValue g (n)⟩, (List.forall_mem_cons.mpr ⟨⟨mX11_setRefusal, n + 4, 3, TX11, 9, rfl, by omega, hX12_329, WX11_setRefusal, rfl, CX11_setRefusal g (n)⟩, (List.forall_mem_cons.mpr ⟨⟨mX11_setLease, n + 4, 1, TX11, 9, rfl, by omega, hX12_333, WX11_setLease, rfl, CX11_setLease g (n)⟩, (List.forall_mem_cons.mpr ⟨⟨mX11_setSetting, n + 4, 2, TX11, 9, rfl, by omega, hX12_336, WX11_setSetting, rfl, CX11_setSetting g (n)⟩, (List.forall_mem_cons.mpr ⟨⟨mX11_divide, n + 6, 0, TX11, 9, rfl, by omega, hX12_216, WX11_divide, rfl, CX11_divide g (n)⟩, (List.forall_mem_cons.mpr ⟨⟨mX11_swapRooms, n + 5, 2, TX11, 9, rfl, by omega, hX12_339, WX11_swapRooms, rfl, CX11_swapRooms g (n)⟩, (List.forall_mem_cons.mpr ⟨⟨mX11_passMonths, n + 7, 1, TX11, 9, rfl, by omega, hX12_345, WX11_passMonths, rfl, CX11_passMonths g (n)⟩, (fun _ h => absurd h List.not_mem_nil)⟩)⟩)⟩)⟩)⟩)⟩)⟩)⟩)⟩) (List.forall_mem_cons.mpr ⟨⟨mX12_living, 0, TX12, 25, rfl, by decide, hX12_164, WX12_living, rfl, EX12_living g _ n⟩, (List.forall_mem_cons.mpr ⟨⟨mX12_proposes, 0, TX12, 25, rfl, by decide, hX12_204, WX12_proposes, rfl, EX12_proposes g _ n hE⟩, (List.forall_mem_cons.mpr ⟨⟨mX12_agree, 0, TX12, 25, rfl, by decide, hX12_304, WX12_agree, rfl, EX12_agree g _ n hE⟩, (List.forall_mem_cons.mpr ⟨⟨mX12_allEnvy, 0, TX12, 25, rfl, by decide, hX12_256, WX12_allEnvy, rfl, EX12_allEnvy g _ n⟩, (List.forall_mem_cons.mpr ⟨⟨mX12_pass, 0, TX12, 25, rfl, by decide, hX12_342, WX12_pass, rfl, EX12_pass g _ n hE s0 (pmI s0 (s0.1 323) k) N M K⟩, (fun _ h => absurd h List.not_mem_nil)⟩)⟩)⟩)⟩)⟩) (List.forall_mem_cons.mpr ⟨⟨mL_mod, by decide, Or.inr ⟨_, hX12_33⟩, WL_mod, EL_mod g _ n⟩, (fun _ h => absurd h List.not_mem_nil)⟩) [791, 797] 20 _ _ _ _ _ _ ?_
  simp (maxSteps := 1000000) [↓Bool.cond_eq_ite, -Prod.forall, -Prod.exists, -Prod.mk.injEq, ↓jc_eq_t, ↓jc_eq_f, ↓jc_ne_t, ↓jc_ne_f, ↓jc_lt_t, ↓jc_lt_f, ↓jc_ge_t, ↓jc_ge_f, ↓jc_gt_t, ↓jc_gt_f, ↓jc_le_t, ↓jc_le_f, dvk, tX12_does_k, jtb, jol, dvl, dal, dst, jlk, jcmp, jbin, jfl, qX12, jc2, qlX12, jcat, jel, lv_args, Value.category, jins, jsrt, jins2, jble, jblt, jf3, List.filter_cons, List.filter_nil, Dlo, Dnr, DnL, Dfree, Droom, DuS_S, DuS_I, DuS_L, DuS_R, DuS_N, DuS_A, DuI_S, DuI_I, DuI_L, DuI_R, DuI_N, DuI_A, DuL_S, DuL_I, DuL_L, DuL_R, DuL_N, DuL_A, DuR_S, DuR_I, DuR_L, DuR_R, DuR_N, DuR_A, Dnw_S, Dnw_I, Dnw_L, Dnw_R, Dnw_N, Dnw_A, DrI_S, DrI_I, DrI_L, DrI_R, DrI_N, DrI_A, DrJ_S, DrJ_I, DrJ_L, DrJ_R, DrJ_N, DrJ_A, dm64, G_d, G_x0, dL_mod, oX11_moveIn, dX12_living, oX11_moveOut, oX11_setValue, oX11_setRefusal, oX11_setLease, oX11_setSetting, oX11_divide, dX12_proposes, dX12_agree, oX11_swapRooms, dX12_allEnvy, dX12_pass, oX11_passMonths, doII, doR, joR, joRI, joRII, joRIII, -Int32.not_le, -Int32.not_lt, -Int64.not_le, -Int64.not_lt, i3lt, i6lt, hf, hz, hkk, hlt, hpre, r1, r2]
  try simp (disch := omega) [-Prod.forall, -Prod.exists, -Prod.mk.injEq, -Int32.not_le, -Int32.not_lt, -Int64.not_le, -Int64.not_lt, i3lt, i6lt, hf, hz, hkk, hlt, hpre, r1, r2]
  rintro _ τ rfl hB
  have j := ih τ (stK_s h.1.1.2.1 hC hmo hB)
  rw [← nI_1] at j
  refine dvk_ok (nC := n + 8) DX12_does_k hTyA hR (VC := [(319, 2, 11, oX11_moveIn), (322, 2, 11, oX11_moveOut), (325, 4, 11, oX11_setValue), (329, 4, 11, oX11_setRefusal), (333, 2, 11, oX11_setLease), (336, 3, 11, oX11_setSetting), (216, 1, 11, oX11_divide), (339, 3, 11, oX11_swapRooms), (345, 2, 11, oX11_passMonths)]) (VD := [(164, 1, 12, n + 0, 0, 0, 0, [], dX12_living), (204, 1, 12, n + 7, 0, 1025, 5125, [1108, 1106, 1107, 1109], dX12_proposes), (304, 1, 12, n + 4, 0, 21, 105, [1125, 1123, 1120, 1121, 1401, 1115, 1116, 1117, 1118, 1119, 1210, 1311, 1124, 1310, 1312], dX12_agree), (256, 1, 12, n + 2, 0, 0, 0, [], dX12_allEnvy)]) (SD := [(33, 2, 0, n + 0, 0, 0, 0, [], dL_mod)]) (AL := []) (List.forall_mem_cons.mpr ⟨⟨mX11_moveIn, n + 4, 1, TX11, 9, rfl, by omega, hX12_319, WX11_moveIn, rfl, CX11_moveIn g (n)⟩, (List.forall_mem_cons.mpr ⟨⟨mX11_moveOut, n + 4, 1, TX11, 9, rfl, by omega, hX12_322, WX11_moveOut, rfl, CX11_moveOut g (n)⟩, (List.forall_mem_cons.mpr ⟨⟨mX11_setValue, n + 4, 3, TX11, 9, rfl, by omega, hX12_325, WX11_setValue, rfl, CX11_setValue g (n)⟩, (List.forall_mem_cons.mpr ⟨⟨mX11_setRefusal, n + 4, 3, TX11, 9, rfl, by omega, hX12_329, WX11_setRefusal, rfl, CX11_setRefusal g (n)⟩, (List.forall_mem_cons.mpr ⟨⟨mX11_setLease, n + 4, 1, TX11, 9, rfl, by omega, hX12_333, WX11_setLease, rfl, CX11_setLease g (n)⟩, (List.forall_mem_cons.mpr ⟨⟨mX11_setSetting, n + 4, 2, TX11, 9, rfl, by omega, hX12_336, WX11_setSetting, rfl, CX11_setSetting g (n)⟩, (List.forall_mem_cons.mpr ⟨⟨mX11_divide, n + 6, 0, TX11, 9, rfl, by omega, hX12_216, WX11_divide, rfl, CX11_divide g (n)⟩, (List.forall_mem_cons.mpr ⟨⟨mX11_swapRooms, n + 5, 2, TX11, 9, rfl, by omega, hX12_339, WX11_swapRooms, rfl, CX11_swapRooms g (n)⟩, (List.forall_mem_cons.mpr ⟨⟨mX11_passMonths, n + 7, 1, TX11, 9, rfl, by omega, hX12_345, WX11_passMonths, rfl, CX11_passMonths g (n)⟩, (fun _ h => absurd h List.not_mem_nil)⟩)⟩)⟩)⟩)⟩)⟩)⟩)⟩)⟩) (List.forall_mem_cons.mpr ⟨⟨mX12_living, 0, TX12, 25, rfl, by decide, hX12_164, WX12_living, rfl, EX12_living g _ n⟩, (List.forall_mem_cons.mpr ⟨⟨mX12_proposes, 0, TX12, 25, rfl, by decide, hX12_204, WX12_proposes, rfl, EX12_proposes g _ n hE⟩, (List.forall_mem_cons.mpr ⟨⟨mX12_agree, 0, TX12, 25, rfl, by decide, hX12_304, WX12_agree, rfl, EX12_agree g _ n hE⟩, (List.forall_mem_cons.mpr ⟨⟨mX12_allEnvy, 0, TX12, 25, rfl, by decide, hX12_256, WX12_allEnvy, rfl, EX12_allEnvy g _ n⟩, (fun _ h => absurd h List.not_mem_nil)⟩)⟩)⟩)⟩) (List.forall_mem_cons.mpr ⟨⟨mL_mod, by decide, Or.inr ⟨_, hX12_33⟩, WL_mod, EL_mod g _ n⟩, (fun _ h => absurd h List.not_mem_nil)⟩) [780] 20 _ _ _ _ _ _ ?_
  simp (maxSteps := 1000000) [↓Bool.cond_eq_ite, -Prod.forall, -Prod.exists, -Prod.mk.injEq, ↓jc_eq_t, ↓jc_eq_f, ↓jc_ne_t, ↓jc_ne_f, ↓jc_lt_t, ↓jc_lt_f, ↓jc_ge_t, ↓jc_ge_f, ↓jc_gt_t, ↓jc_gt_f, ↓jc_le_t, ↓jc_le_f, dvk, tX12_does_k, jtb, jol, dvl, dal, dst, jlk, jcmp, jbin, jfl, qX12, jc2, qlX12, jcat, jel, lv_args, Value.category, jins, jsrt, jins2, jble, jblt, jf3, List.filter_cons, List.filter_nil, Dlo, Dnr, DnL, Dfree, Droom, DuS_S, DuS_I, DuS_L, DuS_R, DuS_N, DuS_A, DuI_S, DuI_I, DuI_L, DuI_R, DuI_N, DuI_A, DuL_S, DuL_I, DuL_L, DuL_R, DuL_N, DuL_A, DuR_S, DuR_I, DuR_L, DuR_R, DuR_N, DuR_A, Dnw_S, Dnw_I, Dnw_L, Dnw_R, Dnw_N, Dnw_A, DrI_S, DrI_I, DrI_L, DrI_R, DrI_N, DrI_A, DrJ_S, DrJ_I, DrJ_L, DrJ_R, DrJ_N, DrJ_A, dm64, G_d, G_x0, dL_mod, oX11_moveIn, dX12_living, oX11_moveOut, oX11_setValue, oX11_setRefusal, oX11_setLease, oX11_setSetting, oX11_divide, dX12_proposes, dX12_agree, oX11_swapRooms, dX12_allEnvy, oX11_passMonths, doII, doR, joR, joRI, joRII, joRIII, -Int32.not_le, -Int32.not_lt, -Int64.not_le, -Int64.not_lt, i3lt, i6lt, hz]
  try simp (disch := omega) [-Prod.forall, -Prod.exists, -Prod.mk.injEq, -Int32.not_le, -Int32.not_lt, -Int64.not_le, -Int64.not_lt, i3lt, i6lt, hz]
  exact j
