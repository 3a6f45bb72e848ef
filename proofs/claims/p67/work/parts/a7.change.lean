/-! RentDivision: passMonth, passMonths, settle, undo, write -/
theorem cu_tr {σ τ ρ : jM} (C : cuP σ τ) (D : cuP τ ρ) : cuP σ ρ := ⟨C.1.tr D.1, D.2⟩
theorem cu_E {σ τ : jM} (C : cuP σ τ) : flE σ τ := flE_of (fun c h1 h2 => cu_same C c (by omega) (by omega))
theorem clR_E {σ τ : jM} (hok : fOK σ) (h : flE σ τ) : clR τ = clR σ ∧ clY τ = clY σ := by
  obtain ⟨⟨a1, a2, a3, -⟩, a5, a6, a7, a8, a9⟩ := fl_sameE hok h
  have e38 := h.2 38 (by omega) (by omega)
  refine ⟨?_, ?_⟩
  · funext p; unfold clR; rw [a6, a2, a1]
  · funext p
    unfold clY flPy flSh flPr flPp flBs
    rw [a6, a2, a9, a7, a8, a5, a3, e38]
def aDX (a j : Nat) : Bool := aDp a j || a == 0 && j == 5
/-- the plans of the month done -/
def plP1 (σ ρ : jM) : Prop := jfr aDX b0 σ ρ ∧ ρ.1 40 = dnR σ (dnN σ) (dnE σ - dnN σ) ∧ ρ.1 37 6 = nI (dnE σ)
/-- the proposal made the division where it is to be so -/
def auP (σ ρ : jM) : Prop := (¬ σ.1 38 2 = 1 ∧ ρ = σ) ∨ (σ.1 38 2 = 1 ∧ flC σ = none ∧ cuP σ ρ) ∨ (σ.1 38 2 = 1 ∧ ¬ flC σ = none ∧ ∃ μ, cuP σ μ ∧ ρ = agS (clR σ) (clY σ) μ (fN σ))
/-- the payments of the month -/
def moS (ρ : jM) : jM := jup (jup (fCol ρ (fN ρ)) 37 4 (ρ.1 37 4 + (ρ.1 37 2 - sm (ρ.1 53) 10))) 37 5 (ρ.1 37 5 + 1)
def pmP (σ τ : jM) : Prop := ∃ ρ1 ρ3, plP1 σ ρ1 ∧ auP ρ1 ρ3 ∧ τ = moS ρ3
def plO (σ : jM) : Prop := ∀ k, k < 20 → nI k < σ.1 31 5 → 0 ≤ σ.1 36 k
def pmH (σ : jM) : Prop := flOK σ ∧ prIv σ ∧ dnO σ ∧ plO σ
theorem dnK_lt (σ : jM) : ∀ f k i, k ≤ i → i < dnK σ f k → nI i < σ.1 31 5
  | 0, k, i, h1, h2 => by
    simp only [dnK] at h2
    omega
  | f + 1, k, i, h1, h2 => by
    simp only [dnK] at h2
    by_cases c : nI k < σ.1 31 5 ∧ σ.1 35 k ≤ σ.1 37 5
    · rw [if_pos c] at h2
      by_cases e : i = k
      · rw [e]; exact c.1
      · exact dnK_lt σ f (k + 1) i (by omega) h2
    · rw [if_neg c] at h2
      omega
theorem dnR_pos {σ : jM} (hi : ∀ p, p < fN σ → 0 ≤ σ.1 40 p) {k0 : Nat} : ∀ d, (∀ i, k0 ≤ i → i < k0 + d → 0 ≤ σ.1 36 i) → ∀ p, p < fN σ → 0 ≤ dnR σ k0 d p
  | 0, _, p, h => hi p h
  | d + 1, hp, p, h => by
    have ih := dnR_pos hi (k0 := k0) d (fun i h1 h2 => hp i h1 (by omega))
    simp only [dnR]
    by_cases c : fP σ (σ.1 34 (k0 + d)) = true
    · rw [if_pos c]
      by_cases e : p = (σ.1 34 (k0 + d)).toNatClampNeg
      · rw [if_pos e]; exact hp _ (by omega) (by omega)
      · rw [if_neg e]; exact ih p h
    · rw [if_neg c]; exact ih p h
theorem dn_le {σ : jM} (h : dnO σ) : dnN σ ≤ dnE σ ∧ dnE σ ≤ 20 ∧ σ.1 37 6 = nI (dnN σ) := by
  obtain ⟨k, h1, h2⟩ := h
  have e : dnN σ = k := by unfold dnN; rw [h1, nI_clamp (by omega)]
  have := dnK_le σ (20 - k) k
  unfold dnE
  rw [e]
  exact ⟨this.1, by omega, h1⟩
theorem pl_flOK {σ ρ : jM} (hf : flOK σ) (hd : dnO σ) (hp : plO σ) (h : plP1 σ ρ) : flOK ρ ∧ dnO ρ ∧ plO ρ ∧ (dnN σ = dnE σ → flE σ ρ) := by
  obtain ⟨f, h40, h6⟩ := h
  obtain ⟨hok, hm, hv, hi, hl, hs⟩ := hf
  have o : ∀ a j, a ≠ 40 → ¬ (a = 37 ∧ j = 6) → ¬ (a = 0 ∧ j = 5) → ρ.1 a j = σ.1 a j := fun a j q1 q2 q3 => f.2.2 a j (by
    unfold aDX aDp
    simp only [Bool.or_eq_false_iff, Bool.and_eq_false_iff, beq_eq_false_iff_ne]
    omega)
  obtain ⟨d1, d2, d3⟩ := dn_le hd
  have a0 : ρ.1 37 0 = σ.1 37 0 := o _ _ (by omega) (by omega) (by omega)
  have a1 : ρ.1 37 1 = σ.1 37 1 := o _ _ (by omega) (by omega) (by omega)
  have a2 : ρ.1 37 2 = σ.1 37 2 := o _ _ (by omega) (by omega) (by omega)
  have e39 : ρ.1 39 = σ.1 39 := funext fun j => o _ _ (by omega) (by omega) (by omega)
  have n10 := (fOK_n hok).1.1
  have eN : fN ρ = fN σ := by unfold fN; rw [a1]
  have eR : fRm ρ = fRm σ := by unfold fRm; rw [a0]
  have eL : liv ρ = liv σ := by unfold liv; rw [e39]
  refine ⟨⟨by unfold fOK; rw [a0, a1]; exact hok, by unfold flM; rw [eL, eN]; exact hm, fun p hp r hr => ?_, fun p hpN => ?_, by rw [a2]; exact hl, by rw [o 38 1 (by omega) (by omega) (by omega)]; exact hs⟩, ⟨_, h6, d2⟩, fun k hk hl => by rw [o 36 k (by omega) (by omega) (by omega)]; rw [o 31 5 (by omega) (by omega) (by omega)] at hl; exact hp k hk hl, fun e => ⟨fun j hj => o _ _ (by omega) (by omega) (by omega), fun c c1 c2 => ?_⟩⟩
  · rw [eN] at hp
    rw [eR] at hr
    rw [o (42 + p) r (by omega) (by omega) (by omega)]
    exact hv p hp r hr
  · rw [eN] at hpN
    rw [h40]
    exact dnR_pos hi _ (fun i i1 i2 => hp i (by omega) (dnK_lt σ _ _ i i1 (by show i < dnE σ; omega))) p hpN
  · by_cases c40 : c = 40
    · subst c40
      rw [h40, e, Nat.sub_self]
      rfl
    · exact funext fun j => o c j c40 (by omega) (by omega)
theorem fCol_52 (ρ : jM) (k : Nat) : ∀ a, a ≠ 54 → a ≠ 56 → (fCol ρ k).1 a = ρ.1 a := fun a h1 h2 => funext fun j => fCol_o ρ a j h1 h2 k
theorem mo_E (ρ : jM) : flE ρ (moS ρ) ∧ (∀ c, c ≤ 36 ∨ 57 ≤ c → (moS ρ).1 c = ρ.1 c) ∧ (moS ρ).1 37 6 = ρ.1 37 6 := by
  have o : ∀ a j, a ≠ 54 → a ≠ 56 → ¬ (a = 37 ∧ j = 4) → ¬ (a = 37 ∧ j = 5) → (moS ρ).1 a j = ρ.1 a j := fun a j h1 h2 h3 h4 => by
    unfold moS
    rw [jup_1, if_neg h4, jup_1, if_neg h3, fCol_52 ρ _ a h1 h2]
  exact ⟨⟨fun j hj => o _ _ (by omega) (by omega) (by omega) (by omega), fun c c1 c2 => funext fun j => o _ _ (by omega) (by omega) (by omega) (by omega)⟩, fun c hc => funext fun j => o _ _ (by omega) (by omega) (by omega) (by omega), o _ _ (by omega) (by omega) (by omega) (by omega)⟩
theorem ag_E (ch py : Nat → Int32) (ρ : jM) (k : Nat) : flE ρ (agS ch py ρ k) ∧ ∀ c, c ≠ 52 → c ≠ 53 → (agS ch py ρ k).1 c = ρ.1 c := by
  have o : ∀ c, c ≠ 52 → c ≠ 53 → (agS ch py ρ k).1 c = ρ.1 c := fun c h1 h2 => funext fun j => by
    rw [agS_1, if_neg (fun z => h1 z.1), if_neg (fun z => h2 z.1)]
  exact ⟨⟨fun j _ => by rw [o 37 (by omega) (by omega)], fun c c1 c2 => o c (by omega) (by omega)⟩, o⟩
theorem prIv_of {σ τ : jM} (hf : flOK σ) (h : prIv σ) (e0 : τ.1 0 5 = σ.1 0 5) (e1 : flE σ τ) (e2 : ∀ c, 259 ≤ c → c ≤ 279 → τ.1 c = σ.1 c) : prIv τ := by
  rcases h with h | h
  · exact Or.inl (e0.trans h)
  · exact Or.inr ⟨e0.trans h.1, prMk_ofE hf h.2 e1 e2⟩
def oX11_passMonth : jO := joR fun a σ => (a = 0 ∧ pmH σ, fun v τ => v = none ∧ pmP σ τ ∧ pmH τ)
set_option maxRecDepth 100000 in
set_option maxHeartbeats 4000000 in
theorem CPm_end (g : jG) (n : Nat) {post : Option Value → jM → Prop} {ρ : jM} (hf : flOK ρ) (k : post none (moS ρ)) : jW g mX11_passMonth (n + 6) post 51 [(0, .ref 0)] [] ρ := by
  have hok := hf.1
  have e5 : (jup (fCol ρ (fN ρ)) 37 4 (ρ.1 37 4 + (ρ.1 37 2 - sm (ρ.1 53) 10))).1 37 5 = ρ.1 37 5 := by
    rw [jup_1, if_neg (by omega), fCol_52 ρ _ 37 (by omega) (by omega)]
  refine jvk_ok TX11_passMonth (V := [(337, 2, 2, oX2_doPlans), (176, 1, 11, oX11_currentProposal), (180, 1, 6, oX6_exists), (330, 2, 11, oX11_agreeOn), (341, 1, 2, oX2_collect)]) (S := []) (List.forall_mem_cons.mpr ⟨⟨mX2_doPlans, n + 1, 1, TX2, 16, rfl, by omega, kX11_337, WX2_doPlans, rfl, CX2_doPlans g (n)⟩, (List.forall_mem_cons.mpr ⟨⟨mX11_currentProposal, n + 5, 0, TX11, 9, rfl, by omega, kX11_176, WX11_currentProposal, rfl, CX11_currentProposal g (n)⟩, (List.forall_mem_cons.mpr ⟨⟨mX6_exists, n + 1, 0, TX6, 8, rfl, by omega, kX11_180, WX6_exists, rfl, CX6_exists g (n)⟩, (List.forall_mem_cons.mpr ⟨⟨mX11_agreeOn, n + 4, 1, TX11, 9, rfl, by omega, kX11_330, WX11_agreeOn, rfl, CX11_agreeOn g (n)⟩, (List.forall_mem_cons.mpr ⟨⟨mX2_collect, n + 2, 0, TX2, 16, rfl, by omega, kX11_341, WX2_collect, rfl, CX2_collect g (n)⟩, (fun _ h => absurd h List.not_mem_nil)⟩)⟩)⟩)⟩)⟩) (fun _ h => absurd h List.not_mem_nil) [58] 20 _ _ _ _ ?_
  simp (maxSteps := 1000000) [↓Bool.cond_eq_ite, -Prod.forall, -Prod.exists, -Prod.mk.injEq, jvk, tX11_passMonth, jtb, jol, jst, jlk, jcmp, jbin, jfl, fX11, jc2, lX11, jcat, jel, lv_args, Value.category, jins, jsrt, jins2, jble, jblt, jf3, List.filter_cons, List.filter_nil, G_x, G_flat, G_loader, G_roster, G_lroster, G_lflat, G_history, G_prop, G_choice, G_tchoice, G_settle, G_page, oX2_doPlans, oX11_currentProposal, oX6_exists, oX11_agreeOn, oX2_collect, joR, joRR, -Int32.not_le, -Int32.not_lt, -Int64.not_le, -Int64.not_lt, i3lt, i6lt, hok]
  try simp (disch := omega) [-Prod.forall, -Prod.exists, -Prod.mk.injEq, -Int32.not_le, -Int32.not_lt, -Int64.not_le, -Int64.not_lt, i3lt, i6lt, hok]
  refine jvk_ok TX11_passMonth (V := [(337, 2, 2, oX2_doPlans), (176, 1, 11, oX11_currentProposal), (180, 1, 6, oX6_exists), (330, 2, 11, oX11_agreeOn), (341, 1, 2, oX2_collect)]) (S := []) (List.forall_mem_cons.mpr ⟨⟨mX2_doPlans, n + 1, 1, TX2, 16, rfl, by omega, kX11_337, WX2_doPlans, rfl, CX2_doPlans g (n)⟩, (List.forall_mem_cons.mpr ⟨⟨mX11_currentProposal, n + 5, 0, TX11, 9, rfl, by omega, kX11_176, WX11_currentProposal, rfl, CX11_currentProposal g (n)⟩, (List.forall_mem_cons.mpr ⟨⟨mX6_exists, n + 1, 0, TX6, 8, rfl, by omega, kX11_180, WX6_exists, rfl, CX6_exists g (n)⟩, (List.forall_mem_cons.mpr ⟨⟨mX11_agreeOn, n + 4, 1, TX11, 9, rfl, by omega, kX11_330, WX11_agreeOn, rfl, CX11_agreeOn g (n)⟩, (List.forall_mem_cons.mpr ⟨⟨mX2_collect, n + 2, 0, TX2, 16, rfl, by omega, kX11_341, WX2_collect, rfl, CX2_collect g (n)⟩, (fun _ h => absurd h List.not_mem_nil)⟩)⟩)⟩)⟩)⟩) (fun _ h => absurd h List.not_mem_nil) [] 20 _ _ _ _ ?_
  simp (maxSteps := 1000000) [↓Bool.cond_eq_ite, -Prod.forall, -Prod.exists, -Prod.mk.injEq, jvk, tX11_passMonth, jtb, jol, jst, jlk, jcmp, jbin, jfl, fX11, jc2, lX11, jcat, jel, lv_args, Value.category, jins, jsrt, jins2, jble, jblt, jf3, List.filter_cons, List.filter_nil, G_x, G_flat, G_loader, G_roster, G_lroster, G_lflat, G_history, G_prop, G_choice, G_tchoice, G_settle, G_page, oX2_doPlans, oX11_currentProposal, oX6_exists, oX11_agreeOn, oX2_collect, joR, joRR, -Int32.not_le, -Int32.not_lt, -Int64.not_le, -Int64.not_lt, i3lt, i6lt, e5]
  try simp (disch := omega) [-Prod.forall, -Prod.exists, -Prod.mk.injEq, -Int32.not_le, -Int32.not_lt, -Int64.not_le, -Int64.not_lt, i3lt, i6lt, e5]
  exact k
set_option maxRecDepth 100000 in
set_option maxHeartbeats 4000000 in
theorem CX11_passMonth (g : jG) (n : Nat) : jOk g (n + 6) mX11_passMonth oX11_passMonth := by
  refine joR_ok ?_
  rintro _ σ ⟨rfl, hf, hI, hd, hpl⟩
  obtain ⟨d1, d2, d3⟩ := dn_le hd
  refine jCon.ofP (by decide +kernel) (by simp [lg_sl, Value.category]) (fun post hp => ?_)
  refine jvk_ok TX11_passMonth (V := [(337, 2, 2, oX2_doPlans), (176, 1, 11, oX11_currentProposal), (180, 1, 6, oX6_exists), (330, 2, 11, oX11_agreeOn), (341, 1, 2, oX2_collect)]) (S := []) (List.forall_mem_cons.mpr ⟨⟨mX2_doPlans, n + 1, 1, TX2, 16, rfl, by omega, kX11_337, WX2_doPlans, rfl, CX2_doPlans g (n)⟩, (List.forall_mem_cons.mpr ⟨⟨mX11_currentProposal, n + 5, 0, TX11, 9, rfl, by omega, kX11_176, WX11_currentProposal, rfl, CX11_currentProposal g (n)⟩, (List.forall_mem_cons.mpr ⟨⟨mX6_exists, n + 1, 0, TX6, 8, rfl, by omega, kX11_180, WX6_exists, rfl, CX6_exists g (n)⟩, (List.forall_mem_cons.mpr ⟨⟨mX11_agreeOn, n + 4, 1, TX11, 9, rfl, by omega, kX11_330, WX11_agreeOn, rfl, CX11_agreeOn g (n)⟩, (List.forall_mem_cons.mpr ⟨⟨mX2_collect, n + 2, 0, TX2, 16, rfl, by omega, kX11_341, WX2_collect, rfl, CX2_collect g (n)⟩, (fun _ h => absurd h List.not_mem_nil)⟩)⟩)⟩)⟩)⟩) (fun _ h => absurd h List.not_mem_nil) [11] 20 _ _ _ _ ?_
  simp (maxSteps := 1000000) [↓Bool.cond_eq_ite, -Prod.forall, -Prod.exists, -Prod.mk.injEq, jvk, tX11_passMonth, jtb, jol, jst, jlk, jcmp, jbin, jfl, fX11, jc2, lX11, jcat, jel, lv_args, Value.category, jins, jsrt, jins2, jble, jblt, jf3, List.filter_cons, List.filter_nil, G_x, G_flat, G_loader, G_roster, G_lroster, G_lflat, G_history, G_prop, G_choice, G_tchoice, G_settle, G_page, oX2_doPlans, oX11_currentProposal, oX6_exists, oX11_agreeOn, oX2_collect, joR, joRR, -Int32.not_le, -Int32.not_lt, -Int64.not_le, -Int64.not_lt, i3lt, i6lt, hd]
  try simp (disch := omega) [-Prod.forall, -Prod.exists, -Prod.mk.injEq, -Int32.not_le, -Int32.not_lt, -Int64.not_le, -Int64.not_lt, i3lt, i6lt, hd]
  intro v1 τ1 hv1 fr1 h40 h6
  subst hv1
  -- from the plans on
  have rest : ∀ ρ1 : jM, plP1 σ ρ1 → prIv ρ1 → jW g mX11_passMonth (n + 6) post 19 [(0, .ref 0)] [] ρ1 := fun ρ1 hP hI1 => by
    obtain ⟨hf1, hd1, hp1, -⟩ := pl_flOK hf hd hpl hP
    have j2 : jin 2 3 := ⟨by decide, by decide⟩
    have fin : ∀ ρ3 : jM, auP ρ1 ρ3 → flOK ρ3 → prIv ρ3 → ρ3.1 37 6 = ρ1.1 37 6 → ρ3.1 36 = ρ1.1 36 → ρ3.1 31 = ρ1.1 31 → post none (moS ρ3) := fun ρ3 hA hf3 hI3 e6 e36 e31 => by
      obtain ⟨m1, m2, m3⟩ := mo_E ρ3
      refine hp _ _ ⟨rfl, ⟨ρ1, ρ3, hP, hA, rfl⟩, flOK_sameE hf3 m1, prIv_of hf3 hI3 (by rw [m2 0 (by omega)]) m1 (fun c c1 c2 => m2 c (by omega)), ?_, ?_⟩
      · obtain ⟨k, q1, q2⟩ := hd1
        exact ⟨k, by rw [m3, e6, q1], q2⟩
      · intro k hk hl
        rw [m2 36 (by omega), e36]
        rw [m2 31 (by omega), e31] at hl
        exact hp1 k hk hl
    by_cases au : ρ1.1 38 2 = 1
    · refine jvk_ok TX11_passMonth (V := [(337, 2, 2, oX2_doPlans), (176, 1, 11, oX11_currentProposal), (180, 1, 6, oX6_exists), (330, 2, 11, oX11_agreeOn), (341, 1, 2, oX2_collect)]) (S := []) (List.forall_mem_cons.mpr ⟨⟨mX2_doPlans, n + 1, 1, TX2, 16, rfl, by omega, kX11_337, WX2_doPlans, rfl, CX2_doPlans g (n)⟩, (List.forall_mem_cons.mpr ⟨⟨mX11_currentProposal, n + 5, 0, TX11, 9, rfl, by omega, kX11_176, WX11_currentProposal, rfl, CX11_currentProposal g (n)⟩, (List.forall_mem_cons.mpr ⟨⟨mX6_exists, n + 1, 0, TX6, 8, rfl, by omega, kX11_180, WX6_exists, rfl, CX6_exists g (n)⟩, (List.forall_mem_cons.mpr ⟨⟨mX11_agreeOn, n + 4, 1, TX11, 9, rfl, by omega, kX11_330, WX11_agreeOn, rfl, CX11_agreeOn g (n)⟩, (List.forall_mem_cons.mpr ⟨⟨mX2_collect, n + 2, 0, TX2, 16, rfl, by omega, kX11_341, WX2_collect, rfl, CX2_collect g (n)⟩, (fun _ h => absurd h List.not_mem_nil)⟩)⟩)⟩)⟩)⟩) (fun _ h => absurd h List.not_mem_nil) [36, 51] 20 _ _ _ _ ?_
      simp (maxSteps := 1000000) [↓Bool.cond_eq_ite, -Prod.forall, -Prod.exists, -Prod.mk.injEq, jvk, tX11_passMonth, jtb, jol, jst, jlk, jcmp, jbin, jfl, fX11, jc2, lX11, jcat, jel, lv_args, Value.category, jins, jsrt, jins2, jble, jblt, jf3, List.filter_cons, List.filter_nil, G_x, G_flat, G_loader, G_roster, G_lroster, G_lflat, G_history, G_prop, G_choice, G_tchoice, G_settle, G_page, oX2_doPlans, oX11_currentProposal, oX6_exists, oX11_agreeOn, oX2_collect, joR, joRR, -Int32.not_le, -Int32.not_lt, -Int64.not_le, -Int64.not_lt, i3lt, i6lt, j2, tn_c, au, hf1, hI1]
      try simp (disch := omega) [-Prod.forall, -Prod.exists, -Prod.mk.injEq, -Int32.not_le, -Int32.not_lt, -Int64.not_le, -Int64.not_lt, i3lt, i6lt, j2, tn_c, au, hf1, hI1]
      intro v2 τ2 hv2 C
      subst hv2
      have hc := (pr_ex C.2.1).2.1
      refine jvk_ok TX11_passMonth (V := [(337, 2, 2, oX2_doPlans), (176, 1, 11, oX11_currentProposal), (180, 1, 6, oX6_exists), (330, 2, 11, oX11_agreeOn), (341, 1, 2, oX2_collect)]) (S := []) (List.forall_mem_cons.mpr ⟨⟨mX2_doPlans, n + 1, 1, TX2, 16, rfl, by omega, kX11_337, WX2_doPlans, rfl, CX2_doPlans g (n)⟩, (List.forall_mem_cons.mpr ⟨⟨mX11_currentProposal, n + 5, 0, TX11, 9, rfl, by omega, kX11_176, WX11_currentProposal, rfl, CX11_currentProposal g (n)⟩, (List.forall_mem_cons.mpr ⟨⟨mX6_exists, n + 1, 0, TX6, 8, rfl, by omega, kX11_180, WX6_exists, rfl, CX6_exists g (n)⟩, (List.forall_mem_cons.mpr ⟨⟨mX11_agreeOn, n + 4, 1, TX11, 9, rfl, by omega, kX11_330, WX11_agreeOn, rfl, CX11_agreeOn g (n)⟩, (List.forall_mem_cons.mpr ⟨⟨mX2_collect, n + 2, 0, TX2, 16, rfl, by omega, kX11_341, WX2_collect, rfl, CX2_collect g (n)⟩, (fun _ h => absurd h List.not_mem_nil)⟩)⟩)⟩)⟩)⟩) (fun _ h => absurd h List.not_mem_nil) [39, 51] 20 _ _ _ _ ?_
      simp (maxSteps := 1000000) [↓Bool.cond_eq_ite, -Prod.forall, -Prod.exists, -Prod.mk.injEq, jvk, tX11_passMonth, jtb, jol, jst, jlk, jcmp, jbin, jfl, fX11, jc2, lX11, jcat, jel, lv_args, Value.category, jins, jsrt, jins2, jble, jblt, jf3, List.filter_cons, List.filter_nil, G_x, G_flat, G_loader, G_roster, G_lroster, G_lflat, G_history, G_prop, G_choice, G_tchoice, G_settle, G_page, oX2_doPlans, oX11_currentProposal, oX6_exists, oX11_agreeOn, oX2_collect, joR, joRR, -Int32.not_le, -Int32.not_lt, -Int64.not_le, -Int64.not_lt, i3lt, i6lt, hc]
      try simp (disch := omega) [-Prod.forall, -Prod.exists, -Prod.mk.injEq, -Int32.not_le, -Int32.not_lt, -Int64.not_le, -Int64.not_lt, i3lt, i6lt, hc]
      rcases pr_cases hf1 C with ⟨e, c⟩ | ⟨a, e, c, c1⟩
      · rw [c]
        have k1 := CPm_end g n (post := post) C.2.2 (fin τ2 (Or.inr (Or.inl ⟨au, e, C⟩)) C.2.2 (Or.inr C.2.1) (by rw [cu_same C 37 (by omega) (by omega)]) (cu_same C 36 (by omega) (by omega)) (cu_same C 31 (by omega) (by omega)))
        refine jvk_ok TX11_passMonth (V := [(337, 2, 2, oX2_doPlans), (176, 1, 11, oX11_currentProposal), (180, 1, 6, oX6_exists), (330, 2, 11, oX11_agreeOn), (341, 1, 2, oX2_collect)]) (S := []) (List.forall_mem_cons.mpr ⟨⟨mX2_doPlans, n + 1, 1, TX2, 16, rfl, by omega, kX11_337, WX2_doPlans, rfl, CX2_doPlans g (n)⟩, (List.forall_mem_cons.mpr ⟨⟨mX11_currentProposal, n + 5, 0, TX11, 9, rfl, by omega, kX11_176, WX11_currentProposal, rfl, CX11_currentProposal g (n)⟩, (List.forall_mem_cons.mpr ⟨⟨mX6_exists, n + 1, 0, TX6, 8, rfl, by omega, kX11_180, WX6_exists, rfl, CX6_exists g (n)⟩, (List.forall_mem_cons.mpr ⟨⟨mX11_agreeOn, n + 4, 1, TX11, 9, rfl, by omega, kX11_330, WX11_agreeOn, rfl, CX11_agreeOn g (n)⟩, (List.forall_mem_cons.mpr ⟨⟨mX2_collect, n + 2, 0, TX2, 16, rfl, by omega, kX11_341, WX2_collect, rfl, CX2_collect g (n)⟩, (fun _ h => absurd h List.not_mem_nil)⟩)⟩)⟩)⟩)⟩) (fun _ h => absurd h List.not_mem_nil) [51] 20 _ _ _ _ ?_
        simp (maxSteps := 1000000) [↓Bool.cond_eq_ite, -Prod.forall, -Prod.exists, -Prod.mk.injEq, jvk, tX11_passMonth, jtb, jol, jst, jlk, jcmp, jbin, jfl, fX11, jc2, lX11, jcat, jel, lv_args, Value.category, jins, jsrt, jins2, jble, jblt, jf3, List.filter_cons, List.filter_nil, G_x, G_flat, G_loader, G_roster, G_lroster, G_lflat, G_history, G_prop, G_choice, G_tchoice, G_settle, G_page, oX2_doPlans, oX11_currentProposal, oX6_exists, oX11_agreeOn, oX2_collect, joR, joRR, -Int32.not_le, -Int32.not_lt, -Int64.not_le, -Int64.not_lt, i3lt, i6lt]
        try simp (disch := omega) [-Prod.forall, -Prod.exists, -Prod.mk.injEq, -Int32.not_le, -Int32.not_lt, -Int64.not_le, -Int64.not_lt, i3lt, i6lt]
        exact k1
      · rw [c]
        have hf2 := C.2.2
        have hI2 : prIv τ2 := Or.inr C.2.1
        refine jvk_ok TX11_passMonth (V := [(337, 2, 2, oX2_doPlans), (176, 1, 11, oX11_currentProposal), (180, 1, 6, oX6_exists), (330, 2, 11, oX11_agreeOn), (341, 1, 2, oX2_collect)]) (S := []) (List.forall_mem_cons.mpr ⟨⟨mX2_doPlans, n + 1, 1, TX2, 16, rfl, by omega, kX11_337, WX2_doPlans, rfl, CX2_doPlans g (n)⟩, (List.forall_mem_cons.mpr ⟨⟨mX11_currentProposal, n + 5, 0, TX11, 9, rfl, by omega, kX11_176, WX11_currentProposal, rfl, CX11_currentProposal g (n)⟩, (List.forall_mem_cons.mpr ⟨⟨mX6_exists, n + 1, 0, TX6, 8, rfl, by omega, kX11_180, WX6_exists, rfl, CX6_exists g (n)⟩, (List.forall_mem_cons.mpr ⟨⟨mX11_agreeOn, n + 4, 1, TX11, 9, rfl, by omega, kX11_330, WX11_agreeOn, rfl, CX11_agreeOn g (n)⟩, (List.forall_mem_cons.mpr ⟨⟨mX2_collect, n + 2, 0, TX2, 16, rfl, by omega, kX11_341, WX2_collect, rfl, CX2_collect g (n)⟩, (fun _ h => absurd h List.not_mem_nil)⟩)⟩)⟩)⟩)⟩) (fun _ h => absurd h List.not_mem_nil) [47, 51] 20 _ _ _ _ ?_
        simp (maxSteps := 1000000) [↓Bool.cond_eq_ite, -Prod.forall, -Prod.exists, -Prod.mk.injEq, jvk, tX11_passMonth, jtb, jol, jst, jlk, jcmp, jbin, jfl, fX11, jc2, lX11, jcat, jel, lv_args, Value.category, jins, jsrt, jins2, jble, jblt, jf3, List.filter_cons, List.filter_nil, G_x, G_flat, G_loader, G_roster, G_lroster, G_lflat, G_history, G_prop, G_choice, G_tchoice, G_settle, G_page, oX2_doPlans, oX11_currentProposal, oX6_exists, oX11_agreeOn, oX2_collect, joR, joRR, -Int32.not_le, -Int32.not_lt, -Int64.not_le, -Int64.not_lt, i3lt, i6lt, hf2, hI2]
        try simp (disch := omega) [-Prod.forall, -Prod.exists, -Prod.mk.injEq, -Int32.not_le, -Int32.not_lt, -Int64.not_le, -Int64.not_lt, i3lt, i6lt, hf2, hI2]
        intro v3 τ3 hv3 D
        subst hv3
        have CD := cu_tr C D
        have h3 := CD.2.2
        have h4 := CD.2.1
        obtain ⟨eR, eY⟩ := clR_E hf1.1 (cu_E CD)
        obtain ⟨⟨eN, -⟩, -⟩ := cu_fl hf1 CD
        obtain ⟨g1, g2⟩ := ag_E (clR ρ1) (clY ρ1) τ3 (fN ρ1)
        have k1 := CPm_end g n (post := post) (flOK_sameE h3 g1) (fin (agS (clR ρ1) (clY ρ1) τ3 (fN ρ1)) (Or.inr (Or.inr ⟨au, by rw [e]; simp, τ3, CD, rfl⟩)) (flOK_sameE h3 g1) (prIv_of h3 (Or.inr h4) (by rw [g2 0 (by omega) (by omega)]) g1 (fun c c1 c2 => g2 c (by omega) (by omega))) (by rw [g2 37 (by omega) (by omega), cu_same CD 37 (by omega) (by omega)]) (by rw [g2 36 (by omega) (by omega), cu_same CD 36 (by omega) (by omega)]) (by rw [g2 31 (by omega) (by omega), cu_same CD 31 (by omega) (by omega)]))
        refine jvk_ok TX11_passMonth (V := [(337, 2, 2, oX2_doPlans), (176, 1, 11, oX11_currentProposal), (180, 1, 6, oX6_exists), (330, 2, 11, oX11_agreeOn), (341, 1, 2, oX2_collect)]) (S := []) (List.forall_mem_cons.mpr ⟨⟨mX2_doPlans, n + 1, 1, TX2, 16, rfl, by omega, kX11_337, WX2_doPlans, rfl, CX2_doPlans g (n)⟩, (List.forall_mem_cons.mpr ⟨⟨mX11_currentProposal, n + 5, 0, TX11, 9, rfl, by omega, kX11_176, WX11_currentProposal, rfl, CX11_currentProposal g (n)⟩, (List.forall_mem_cons.mpr ⟨⟨mX6_exists, n + 1, 0, TX6, 8, rfl, by omega, kX11_180, WX6_exists, rfl, CX6_exists g (n)⟩, (List.forall_mem_cons.mpr ⟨⟨mX11_agreeOn, n + 4, 1, TX11, 9, rfl, by omega, kX11_330, WX11_agreeOn, rfl, CX11_agreeOn g (n)⟩, (List.forall_mem_cons.mpr ⟨⟨mX2_collect, n + 2, 0, TX2, 16, rfl, by omega, kX11_341, WX2_collect, rfl, CX2_collect g (n)⟩, (fun _ h => absurd h List.not_mem_nil)⟩)⟩)⟩)⟩)⟩) (fun _ h => absurd h List.not_mem_nil) [50, 51] 20 _ _ _ _ ?_
        simp (maxSteps := 1000000) [↓Bool.cond_eq_ite, -Prod.forall, -Prod.exists, -Prod.mk.injEq, jvk, tX11_passMonth, jtb, jol, jst, jlk, jcmp, jbin, jfl, fX11, jc2, lX11, jcat, jel, lv_args, Value.category, jins, jsrt, jins2, jble, jblt, jf3, List.filter_cons, List.filter_nil, G_x, G_flat, G_loader, G_roster, G_lroster, G_lflat, G_history, G_prop, G_choice, G_tchoice, G_settle, G_page, oX2_doPlans, oX11_currentProposal, oX6_exists, oX11_agreeOn, oX2_collect, joR, joRR, -Int32.not_le, -Int32.not_lt, -Int64.not_le, -Int64.not_lt, i3lt, i6lt, h3, h4]
        try simp (disch := omega) [-Prod.forall, -Prod.exists, -Prod.mk.injEq, -Int32.not_le, -Int32.not_lt, -Int64.not_le, -Int64.not_lt, i3lt, i6lt, h3, h4]
        rw [eR, eY, eN]
        refine jvk_ok TX11_passMonth (V := [(337, 2, 2, oX2_doPlans), (176, 1, 11, oX11_currentProposal), (180, 1, 6, oX6_exists), (330, 2, 11, oX11_agreeOn), (341, 1, 2, oX2_collect)]) (S := []) (List.forall_mem_cons.mpr ⟨⟨mX2_doPlans, n + 1, 1, TX2, 16, rfl, by omega, kX11_337, WX2_doPlans, rfl, CX2_doPlans g (n)⟩, (List.forall_mem_cons.mpr ⟨⟨mX11_currentProposal, n + 5, 0, TX11, 9, rfl, by omega, kX11_176, WX11_currentProposal, rfl, CX11_currentProposal g (n)⟩, (List.forall_mem_cons.mpr ⟨⟨mX6_exists, n + 1, 0, TX6, 8, rfl, by omega, kX11_180, WX6_exists, rfl, CX6_exists g (n)⟩, (List.forall_mem_cons.mpr ⟨⟨mX11_agreeOn, n + 4, 1, TX11, 9, rfl, by omega, kX11_330, WX11_agreeOn, rfl, CX11_agreeOn g (n)⟩, (List.forall_mem_cons.mpr ⟨⟨mX2_collect, n + 2, 0, TX2, 16, rfl, by omega, kX11_341, WX2_collect, rfl, CX2_collect g (n)⟩, (fun _ h => absurd h List.not_mem_nil)⟩)⟩)⟩)⟩)⟩) (fun _ h => absurd h List.not_mem_nil) [51] 20 _ _ _ _ ?_
        simp (maxSteps := 1000000) [↓Bool.cond_eq_ite, -Prod.forall, -Prod.exists, -Prod.mk.injEq, jvk, tX11_passMonth, jtb, jol, jst, jlk, jcmp, jbin, jfl, fX11, jc2, lX11, jcat, jel, lv_args, Value.category, jins, jsrt, jins2, jble, jblt, jf3, List.filter_cons, List.filter_nil, G_x, G_flat, G_loader, G_roster, G_lroster, G_lflat, G_history, G_prop, G_choice, G_tchoice, G_settle, G_page, oX2_doPlans, oX11_currentProposal, oX6_exists, oX11_agreeOn, oX2_collect, joR, joRR, -Int32.not_le, -Int32.not_lt, -Int64.not_le, -Int64.not_lt, i3lt, i6lt]
        try simp (disch := omega) [-Prod.forall, -Prod.exists, -Prod.mk.injEq, -Int32.not_le, -Int32.not_lt, -Int64.not_le, -Int64.not_lt, i3lt, i6lt]
        exact k1
    · have k1 := CPm_end g n (post := post) hf1 (fin ρ1 (Or.inl ⟨au, rfl⟩) hf1 hI1 rfl rfl rfl)
      refine jvk_ok TX11_passMonth (V := [(337, 2, 2, oX2_doPlans), (176, 1, 11, oX11_currentProposal), (180, 1, 6, oX6_exists), (330, 2, 11, oX11_agreeOn), (341, 1, 2, oX2_collect)]) (S := []) (List.forall_mem_cons.mpr ⟨⟨mX2_doPlans, n + 1, 1, TX2, 16, rfl, by omega, kX11_337, WX2_doPlans, rfl, CX2_doPlans g (n)⟩, (List.forall_mem_cons.mpr ⟨⟨mX11_currentProposal, n + 5, 0, TX11, 9, rfl, by omega, kX11_176, WX11_currentProposal, rfl, CX11_currentProposal g (n)⟩, (List.forall_mem_cons.mpr ⟨⟨mX6_exists, n + 1, 0, TX6, 8, rfl, by omega, kX11_180, WX6_exists, rfl, CX6_exists g (n)⟩, (List.forall_mem_cons.mpr ⟨⟨mX11_agreeOn, n + 4, 1, TX11, 9, rfl, by omega, kX11_330, WX11_agreeOn, rfl, CX11_agreeOn g (n)⟩, (List.forall_mem_cons.mpr ⟨⟨mX2_collect, n + 2, 0, TX2, 16, rfl, by omega, kX11_341, WX2_collect, rfl, CX2_collect g (n)⟩, (fun _ h => absurd h List.not_mem_nil)⟩)⟩)⟩)⟩)⟩) (fun _ h => absurd h List.not_mem_nil) [51] 20 _ _ _ _ ?_
      simp (maxSteps := 1000000) [↓Bool.cond_eq_ite, -Prod.forall, -Prod.exists, -Prod.mk.injEq, jvk, tX11_passMonth, jtb, jol, jst, jlk, jcmp, jbin, jfl, fX11, jc2, lX11, jcat, jel, lv_args, Value.category, jins, jsrt, jins2, jble, jblt, jf3, List.filter_cons, List.filter_nil, G_x, G_flat, G_loader, G_roster, G_lroster, G_lflat, G_history, G_prop, G_choice, G_tchoice, G_settle, G_page, oX2_doPlans, oX11_currentProposal, oX6_exists, oX11_agreeOn, oX2_collect, joR, joRR, -Int32.not_le, -Int32.not_lt, -Int64.not_le, -Int64.not_lt, i3lt, i6lt, j2, tn_c, au]
      try simp (disch := omega) [-Prod.forall, -Prod.exists, -Prod.mk.injEq, -Int32.not_le, -Int32.not_lt, -Int64.not_le, -Int64.not_lt, i3lt, i6lt, j2, tn_c, au]
      exact k1
  have w : ∀ x, plP1 σ (jup τ1 0 5 x) := fun x => by
    refine ⟨⟨fr1.1, fr1.2.1, fun a j q => ?_⟩, ?_, ?_⟩
    · unfold aDX at q
      simp only [Bool.or_eq_false_iff, Bool.and_eq_false_iff, beq_eq_false_iff_ne] at q
      rw [jup_1, if_neg (by omega)]
      exact fr1.2.2 a j q.1
    · rw [← h40]; funext j; rw [jup_1, if_neg (by omega)]
    · rw [jup_1, if_neg (by omega)]; exact h6
  by_cases c : dnN σ < dnE σ
  · have k1 := rest _ (w 0) (Or.inl (jup_s _ _ _ _))
    rw [if_pos c]
    refine jvk_ok TX11_passMonth (V := [(337, 2, 2, oX2_doPlans), (176, 1, 11, oX11_currentProposal), (180, 1, 6, oX6_exists), (330, 2, 11, oX11_agreeOn), (341, 1, 2, oX2_collect)]) (S := []) (List.forall_mem_cons.mpr ⟨⟨mX2_doPlans, n + 1, 1, TX2, 16, rfl, by omega, kX11_337, WX2_doPlans, rfl, CX2_doPlans g (n)⟩, (List.forall_mem_cons.mpr ⟨⟨mX11_currentProposal, n + 5, 0, TX11, 9, rfl, by omega, kX11_176, WX11_currentProposal, rfl, CX11_currentProposal g (n)⟩, (List.forall_mem_cons.mpr ⟨⟨mX6_exists, n + 1, 0, TX6, 8, rfl, by omega, kX11_180, WX6_exists, rfl, CX6_exists g (n)⟩, (List.forall_mem_cons.mpr ⟨⟨mX11_agreeOn, n + 4, 1, TX11, 9, rfl, by omega, kX11_330, WX11_agreeOn, rfl, CX11_agreeOn g (n)⟩, (List.forall_mem_cons.mpr ⟨⟨mX2_collect, n + 2, 0, TX2, 16, rfl, by omega, kX11_341, WX2_collect, rfl, CX2_collect g (n)⟩, (fun _ h => absurd h List.not_mem_nil)⟩)⟩)⟩)⟩)⟩) (fun _ h => absurd h List.not_mem_nil) [19] 20 _ _ _ _ ?_
    simp (maxSteps := 1000000) [↓Bool.cond_eq_ite, -Prod.forall, -Prod.exists, -Prod.mk.injEq, jvk, tX11_passMonth, jtb, jol, jst, jlk, jcmp, jbin, jfl, fX11, jc2, lX11, jcat, jel, lv_args, Value.category, jins, jsrt, jins2, jble, jblt, jf3, List.filter_cons, List.filter_nil, G_x, G_flat, G_loader, G_roster, G_lroster, G_lflat, G_history, G_prop, G_choice, G_tchoice, G_settle, G_page, oX2_doPlans, oX11_currentProposal, oX6_exists, oX11_agreeOn, oX2_collect, joR, joRR, -Int32.not_le, -Int32.not_lt, -Int64.not_le, -Int64.not_lt, i3lt, i6lt]
    try simp (disch := omega) [-Prod.forall, -Prod.exists, -Prod.mk.injEq, -Int32.not_le, -Int32.not_lt, -Int64.not_le, -Int64.not_lt, i3lt, i6lt]
    exact k1
  · have hP : plP1 σ τ1 := ⟨fr1.weak (fun a j q => by unfold aDX at q; simp only [Bool.or_eq_false_iff] at q; exact q.1) (fun _ q => q), h40, h6⟩
    obtain ⟨-, -, -, hE⟩ := pl_flOK hf hd hpl hP
    have k1 := rest τ1 hP (prIv_of hf hI (fr1.2.2 0 5 rfl) (hE (by omega)) (fun c c1 c2 => funext fun j => fr1.2.2 c j (by
      unfold aDp
      simp only [Bool.or_eq_false_iff, Bool.and_eq_false_iff, beq_eq_false_iff_ne]
      omega)))
    rw [if_neg c]
    refine jvk_ok TX11_passMonth (V := [(337, 2, 2, oX2_doPlans), (176, 1, 11, oX11_currentProposal), (180, 1, 6, oX6_exists), (330, 2, 11, oX11_agreeOn), (341, 1, 2, oX2_collect)]) (S := []) (List.forall_mem_cons.mpr ⟨⟨mX2_doPlans, n + 1, 1, TX2, 16, rfl, by omega, kX11_337, WX2_doPlans, rfl, CX2_doPlans g (n)⟩, (List.forall_mem_cons.mpr ⟨⟨mX11_currentProposal, n + 5, 0, TX11, 9, rfl, by omega, kX11_176, WX11_currentProposal, rfl, CX11_currentProposal g (n)⟩, (List.forall_mem_cons.mpr ⟨⟨mX6_exists, n + 1, 0, TX6, 8, rfl, by omega, kX11_180, WX6_exists, rfl, CX6_exists g (n)⟩, (List.forall_mem_cons.mpr ⟨⟨mX11_agreeOn, n + 4, 1, TX11, 9, rfl, by omega, kX11_330, WX11_agreeOn, rfl, CX11_agreeOn g (n)⟩, (List.forall_mem_cons.mpr ⟨⟨mX2_collect, n + 2, 0, TX2, 16, rfl, by omega, kX11_341, WX2_collect, rfl, CX2_collect g (n)⟩, (fun _ h => absurd h List.not_mem_nil)⟩)⟩)⟩)⟩)⟩) (fun _ h => absurd h List.not_mem_nil) [19] 20 _ _ _ _ ?_
    simp (maxSteps := 1000000) [↓Bool.cond_eq_ite, -Prod.forall, -Prod.exists, -Prod.mk.injEq, jvk, tX11_passMonth, jtb, jol, jst, jlk, jcmp, jbin, jfl, fX11, jc2, lX11, jcat, jel, lv_args, Value.category, jins, jsrt, jins2, jble, jblt, jf3, List.filter_cons, List.filter_nil, G_x, G_flat, G_loader, G_roster, G_lroster, G_lflat, G_history, G_prop, G_choice, G_tchoice, G_settle, G_page, oX2_doPlans, oX11_currentProposal, oX6_exists, oX11_agreeOn, oX2_collect, joR, joRR, -Int32.not_le, -Int32.not_lt, -Int64.not_le, -Int64.not_lt, i3lt, i6lt]
    try simp (disch := omega) [-Prod.forall, -Prod.exists, -Prod.mk.injEq, -Int32.not_le, -Int32.not_lt, -Int64.not_le, -Int64.not_lt, i3lt, i6lt]
    exact k1
/-- some months, one behind the other -/
def pmR : Nat → jM → jM → Prop
  | 0, σ, τ => τ = σ
  | k + 1, σ, τ => ∃ ρ, pmR k σ ρ ∧ pmH ρ ∧ pmP ρ τ ∧ pmH τ
def oX11_passMonths : jO := joRI fun a x σ => (a = 0 ∧ pmH σ ∧ hiO σ, fun v τ => (¬ (1 ≤ x ∧ x ≤ 24) ∧ v = some (.int (-2)) ∧ τ = σ) ∨ ((1 ≤ x ∧ x ≤ 24) ∧ ¬ σ.1 37 5 + x ≤ 999 ∧ v = some (.int (-3)) ∧ τ = σ) ∨ ((1 ≤ x ∧ x ≤ 24) ∧ σ.1 37 5 + x ≤ 999 ∧ v = some (.int (τ.1 37 5)) ∧ ∃ ρ, scP σ ρ ∧ pmR x.toNatClampNeg ρ τ))
set_option maxRecDepth 100000 in
set_option maxHeartbeats 4000000 in
theorem CX11_passMonths (g : jG) (n : Nat) : jOk g (n + 7) mX11_passMonths oX11_passMonths := by
  refine joRI_ok ?_
  rintro _ x σ ⟨rfl, hH, hO⟩
  refine jCon.ofP (by decide +kernel) (by simp [lg_sl, Value.category]) (fun post hp => ?_)
  by_cases c1 : 1 ≤ x
  · by_cases c2 : x ≤ 24
    · by_cases c3 : σ.1 37 5 + x ≤ 999
      · obtain ⟨M, m1, m2, m3⟩ := nI_rng (x := x) (by grind) c2 (by decide)
        refine jvk_ok TX11_passMonths (V := [(310, 1, 11, oX11_startChange), (334, 1, 11, oX11_passMonth)]) (S := []) (List.forall_mem_cons.mpr ⟨⟨mX11_startChange, n + 3, 0, TX11, 9, rfl, by omega, kX11_310, WX11_startChange, rfl, CX11_startChange g (n)⟩, (List.forall_mem_cons.mpr ⟨⟨mX11_passMonth, n + 6, 0, TX11, 9, rfl, by omega, kX11_334, WX11_passMonth, rfl, CX11_passMonth g (n)⟩, (fun _ h => absurd h List.not_mem_nil)⟩)⟩) (fun _ h => absurd h List.not_mem_nil) [36] 40 _ _ _ _ ?_
        simp (maxSteps := 1000000) [↓Bool.cond_eq_ite, -Prod.forall, -Prod.exists, -Prod.mk.injEq, jvk, tX11_passMonths, jtb, jol, jst, jlk, jcmp, jbin, jfl, fX11, jc2, lX11, jcat, jel, lv_args, Value.category, jins, jsrt, jins2, jble, jblt, jf3, List.filter_cons, List.filter_nil, G_x, G_flat, G_loader, G_roster, G_lroster, G_lflat, G_history, G_prop, G_choice, G_tchoice, G_settle, G_page, oX11_startChange, oX11_passMonth, joR, -Int32.not_le, -Int32.not_lt, -Int64.not_le, -Int64.not_lt, i3lt, i6lt, c1, c2, c3, hO]
        try simp (disch := omega) [-Prod.forall, -Prod.exists, -Prod.mk.injEq, -Int32.not_le, -Int32.not_lt, -Int64.not_le, -Int64.not_lt, i3lt, i6lt, c1, c2, c3, hO]
        intro v1 ρ hv1 S
        subst hv1
        have hE := flE_of (sc_fl hO S)
        have hH0 : pmH ρ := by
          refine ⟨flOK_sameE hH.1 hE, Or.inl S.2.2.2.2, ?_, fun k hk hl => ?_⟩
          · obtain ⟨k, q1, q2⟩ := hH.2.2.1
            exact ⟨k, by rw [sc_fl hO S 37 (by omega) (by omega), q1], q2⟩
          · rw [sc_same hO S 36 (by omega) (by omega)]
            rw [sc_same hO S 31 (by omega) (by omega)] at hl
            exact hH.2.2.2 k hk hl
        have key := jloop (P := fun k => ∀ τ : jM, pmR k ρ τ → pmH τ → jW g mX11_passMonths (n + 7) post 38 [(0, .ref 0), (1, .int x), (2, .int (nI k))] [] τ) (N := M) (fun τ hr hH => by
          have hle : x ≤ nI M := by rw [m2]; exact nI_le (Nat.le_refl _) (by omega)
          have k1 := hp _ τ (Or.inr (Or.inr ⟨⟨c1, c2⟩, c3, rfl, ρ, S, by rw [m3]; exact hr⟩))
          refine jvk_ok TX11_passMonths (V := [(310, 1, 11, oX11_startChange), (334, 1, 11, oX11_passMonth)]) (S := []) (List.forall_mem_cons.mpr ⟨⟨mX11_startChange, n + 3, 0, TX11, 9, rfl, by omega, kX11_310, WX11_startChange, rfl, CX11_startChange g (n)⟩, (List.forall_mem_cons.mpr ⟨⟨mX11_passMonth, n + 6, 0, TX11, 9, rfl, by omega, kX11_334, WX11_passMonth, rfl, CX11_passMonth g (n)⟩, (fun _ h => absurd h List.not_mem_nil)⟩)⟩) (fun _ h => absurd h List.not_mem_nil) [38] 20 _ _ _ _ ?_
          simp (maxSteps := 1000000) [↓Bool.cond_eq_ite, -Prod.forall, -Prod.exists, -Prod.mk.injEq, jvk, tX11_passMonths, jtb, jol, jst, jlk, jcmp, jbin, jfl, fX11, jc2, lX11, jcat, jel, lv_args, Value.category, jins, jsrt, jins2, jble, jblt, jf3, List.filter_cons, List.filter_nil, G_x, G_flat, G_loader, G_roster, G_lroster, G_lflat, G_history, G_prop, G_choice, G_tchoice, G_settle, G_page, oX11_startChange, oX11_passMonth, joR, -Int32.not_le, -Int32.not_lt, -Int64.not_le, -Int64.not_lt, i3lt, i6lt, hle]
          try simp (disch := omega) [-Prod.forall, -Prod.exists, -Prod.mk.injEq, -Int32.not_le, -Int32.not_lt, -Int64.not_le, -Int64.not_lt, i3lt, i6lt, hle]
          exact k1) (fun k hk ih τ hr hH => by
          have hlt : ¬ x ≤ nI k := by rw [m2]; exact nI_ge hk (by omega)
          refine jvk_ok TX11_passMonths (V := [(310, 1, 11, oX11_startChange), (334, 1, 11, oX11_passMonth)]) (S := []) (List.forall_mem_cons.mpr ⟨⟨mX11_startChange, n + 3, 0, TX11, 9, rfl, by omega, kX11_310, WX11_startChange, rfl, CX11_startChange g (n)⟩, (List.forall_mem_cons.mpr ⟨⟨mX11_passMonth, n + 6, 0, TX11, 9, rfl, by omega, kX11_334, WX11_passMonth, rfl, CX11_passMonth g (n)⟩, (fun _ h => absurd h List.not_mem_nil)⟩)⟩) (fun _ h => absurd h List.not_mem_nil) [38, 47] 20 _ _ _ _ ?_
          simp (maxSteps := 1000000) [↓Bool.cond_eq_ite, -Prod.forall, -Prod.exists, -Prod.mk.injEq, jvk, tX11_passMonths, jtb, jol, jst, jlk, jcmp, jbin, jfl, fX11, jc2, lX11, jcat, jel, lv_args, Value.category, jins, jsrt, jins2, jble, jblt, jf3, List.filter_cons, List.filter_nil, G_x, G_flat, G_loader, G_roster, G_lroster, G_lflat, G_history, G_prop, G_choice, G_tchoice, G_settle, G_page, oX11_startChange, oX11_passMonth, joR, -Int32.not_le, -Int32.not_lt, -Int64.not_le, -Int64.not_lt, i3lt, i6lt, hlt, hH]
          try simp (disch := omega) [-Prod.forall, -Prod.exists, -Prod.mk.injEq, -Int32.not_le, -Int32.not_lt, -Int64.not_le, -Int64.not_lt, i3lt, i6lt, hlt, hH]
          intro v2 τ2 hv2 P2 H2
          subst hv2
          have k1 := ih τ2 ⟨τ, hr, hH, P2, H2⟩ H2
          refine jvk_ok TX11_passMonths (V := [(310, 1, 11, oX11_startChange), (334, 1, 11, oX11_passMonth)]) (S := []) (List.forall_mem_cons.mpr ⟨⟨mX11_startChange, n + 3, 0, TX11, 9, rfl, by omega, kX11_310, WX11_startChange, rfl, CX11_startChange g (n)⟩, (List.forall_mem_cons.mpr ⟨⟨mX11_passMonth, n + 6, 0, TX11, 9, rfl, by omega, kX11_334, WX11_passMonth, rfl, CX11_passMonth g (n)⟩, (fun _ h => absurd h List.not_mem_nil)⟩)⟩) (fun _ h => absurd h List.not_mem_nil) [38] 20 _ _ _ _ ?_
          simp (maxSteps := 1000000) [↓Bool.cond_eq_ite, -Prod.forall, -Prod.exists, -Prod.mk.injEq, jvk, tX11_passMonths, jtb, jol, jst, jlk, jcmp, jbin, jfl, fX11, jc2, lX11, jcat, jel, lv_args, Value.category, jins, jsrt, jins2, jble, jblt, jf3, List.filter_cons, List.filter_nil, G_x, G_flat, G_loader, G_roster, G_lroster, G_lflat, G_history, G_prop, G_choice, G_tchoice, G_settle, G_page, oX11_startChange, oX11_passMonth, joR, -Int32.not_le, -Int32.not_lt, -Int64.not_le, -Int64.not_lt, i3lt, i6lt, nI_1]
          try simp (disch := omega) [-Prod.forall, -Prod.exists, -Prod.mk.injEq, -Int32.not_le, -Int32.not_lt, -Int64.not_le, -Int64.not_lt, i3lt, i6lt, nI_1]
          exact k1)
        have k0 := key ρ rfl hH0
        rw [nI_0] at k0
        refine jvk_ok TX11_passMonths (V := [(310, 1, 11, oX11_startChange), (334, 1, 11, oX11_passMonth)]) (S := []) (List.forall_mem_cons.mpr ⟨⟨mX11_startChange, n + 3, 0, TX11, 9, rfl, by omega, kX11_310, WX11_startChange, rfl, CX11_startChange g (n)⟩, (List.forall_mem_cons.mpr ⟨⟨mX11_passMonth, n + 6, 0, TX11, 9, rfl, by omega, kX11_334, WX11_passMonth, rfl, CX11_passMonth g (n)⟩, (fun _ h => absurd h List.not_mem_nil)⟩)⟩) (fun _ h => absurd h List.not_mem_nil) [38] 20 _ _ _ _ ?_
        simp (maxSteps := 1000000) [↓Bool.cond_eq_ite, -Prod.forall, -Prod.exists, -Prod.mk.injEq, jvk, tX11_passMonths, jtb, jol, jst, jlk, jcmp, jbin, jfl, fX11, jc2, lX11, jcat, jel, lv_args, Value.category, jins, jsrt, jins2, jble, jblt, jf3, List.filter_cons, List.filter_nil, G_x, G_flat, G_loader, G_roster, G_lroster, G_lflat, G_history, G_prop, G_choice, G_tchoice, G_settle, G_page, oX11_startChange, oX11_passMonth, joR, -Int32.not_le, -Int32.not_lt, -Int64.not_le, -Int64.not_lt, i3lt, i6lt]
        try simp (disch := omega) [-Prod.forall, -Prod.exists, -Prod.mk.injEq, -Int32.not_le, -Int32.not_lt, -Int64.not_le, -Int64.not_lt, i3lt, i6lt]
        exact k0
      · have k1 := hp _ σ (Or.inr (Or.inl ⟨⟨c1, c2⟩, c3, rfl, rfl⟩))
        refine jvk_ok TX11_passMonths (V := [(310, 1, 11, oX11_startChange), (334, 1, 11, oX11_passMonth)]) (S := []) (List.forall_mem_cons.mpr ⟨⟨mX11_startChange, n + 3, 0, TX11, 9, rfl, by omega, kX11_310, WX11_startChange, rfl, CX11_startChange g (n)⟩, (List.forall_mem_cons.mpr ⟨⟨mX11_passMonth, n + 6, 0, TX11, 9, rfl, by omega, kX11_334, WX11_passMonth, rfl, CX11_passMonth g (n)⟩, (fun _ h => absurd h List.not_mem_nil)⟩)⟩) (fun _ h => absurd h List.not_mem_nil) [] 40 _ _ _ _ ?_
        simp (maxSteps := 1000000) [↓Bool.cond_eq_ite, -Prod.forall, -Prod.exists, -Prod.mk.injEq, jvk, tX11_passMonths, jtb, jol, jst, jlk, jcmp, jbin, jfl, fX11, jc2, lX11, jcat, jel, lv_args, Value.category, jins, jsrt, jins2, jble, jblt, jf3, List.filter_cons, List.filter_nil, G_x, G_flat, G_loader, G_roster, G_lroster, G_lflat, G_history, G_prop, G_choice, G_tchoice, G_settle, G_page, oX11_startChange, oX11_passMonth, joR, -Int32.not_le, -Int32.not_lt, -Int64.not_le, -Int64.not_lt, i3lt, i6lt, c1, c2, c3]
        try simp (disch := omega) [-Prod.forall, -Prod.exists, -Prod.mk.injEq, -Int32.not_le, -Int32.not_lt, -Int64.not_le, -Int64.not_lt, i3lt, i6lt, c1, c2, c3]
        exact k1
    · have k1 := hp _ σ (Or.inl ⟨fun z => c2 z.2, rfl, rfl⟩)
      refine jvk_ok TX11_passMonths (V := [(310, 1, 11, oX11_startChange), (334, 1, 11, oX11_passMonth)]) (S := []) (List.forall_mem_cons.mpr ⟨⟨mX11_startChange, n + 3, 0, TX11, 9, rfl, by omega, kX11_310, WX11_startChange, rfl, CX11_startChange g (n)⟩, (List.forall_mem_cons.mpr ⟨⟨mX11_passMonth, n + 6, 0, TX11, 9, rfl, by omega, kX11_334, WX11_passMonth, rfl, CX11_passMonth g (n)⟩, (fun _ h => absurd h List.not_mem_nil)⟩)⟩) (fun _ h => absurd h List.not_mem_nil) [] 40 _ _ _ _ ?_
      simp (maxSteps := 1000000) [↓Bool.cond_eq_ite, -Prod.forall, -Prod.exists, -Prod.mk.injEq, jvk, tX11_passMonths, jtb, jol, jst, jlk, jcmp, jbin, jfl, fX11, jc2, lX11, jcat, jel, lv_args, Value.category, jins, jsrt, jins2, jble, jblt, jf3, List.filter_cons, List.filter_nil, G_x, G_flat, G_loader, G_roster, G_lroster, G_lflat, G_history, G_prop, G_choice, G_tchoice, G_settle, G_page, oX11_startChange, oX11_passMonth, joR, -Int32.not_le, -Int32.not_lt, -Int64.not_le, -Int64.not_lt, i3lt, i6lt, c1, c2]
      try simp (disch := omega) [-Prod.forall, -Prod.exists, -Prod.mk.injEq, -Int32.not_le, -Int32.not_lt, -Int64.not_le, -Int64.not_lt, i3lt, i6lt, c1, c2]
      exact k1
  · have k1 := hp _ σ (Or.inl ⟨fun z => c1 z.1, rfl, rfl⟩)
    refine jvk_ok TX11_passMonths (V := [(310, 1, 11, oX11_startChange), (334, 1, 11, oX11_passMonth)]) (S := []) (List.forall_mem_cons.mpr ⟨⟨mX11_startChange, n + 3, 0, TX11, 9, rfl, by omega, kX11_310, WX11_startChange, rfl, CX11_startChange g (n)⟩, (List.forall_mem_cons.mpr ⟨⟨mX11_passMonth, n + 6, 0, TX11, 9, rfl, by omega, kX11_334, WX11_passMonth, rfl, CX11_passMonth g (n)⟩, (fun _ h => absurd h List.not_mem_nil)⟩)⟩) (fun _ h => absurd h List.not_mem_nil) [] 40 _ _ _ _ ?_
    simp (maxSteps := 1000000) [↓Bool.cond_eq_ite, -Prod.forall, -Prod.exists, -Prod.mk.injEq, jvk, tX11_passMonths, jtb, jol, jst, jlk, jcmp, jbin, jfl, fX11, jc2, lX11, jcat, jel, lv_args, Value.category, jins, jsrt, jins2, jble, jblt, jf3, List.filter_cons, List.filter_nil, G_x, G_flat, G_loader, G_roster, G_lroster, G_lflat, G_history, G_prop, G_choice, G_tchoice, G_settle, G_page, oX11_startChange, oX11_passMonth, joR, -Int32.not_le, -Int32.not_lt, -Int64.not_le, -Int64.not_lt, i3lt, i6lt, c1]
    try simp (disch := omega) [-Prod.forall, -Prod.exists, -Prod.mk.injEq, -Int32.not_le, -Int32.not_lt, -Int64.not_le, -Int64.not_lt, i3lt, i6lt, c1]
    exact k1
def stS (σ ρ : jM) : jM := (fun a j => if a = 55 ∧ j < 10 then ctS σ j else ρ.1 a j, ρ.2)
def oX11_settle : jO := joR fun a σ => (a = 0 ∧ fOK σ ∧ flM σ ≤ 6 ∧ dpO σ ∧ stO σ ∧ hiO σ, fun v τ => v = some (.int (nI (ctr σ).length)) ∧ ∃ ρ1 ρ2, jfr aMs bAi σ ρ1 ∧ scP ρ1 ρ2 ∧ τ = stS σ ρ2)
set_option maxRecDepth 100000 in
set_option maxHeartbeats 4000000 in
theorem CX11_settle (g : jG) (n : Nat) : jOk g (n + 4) mX11_settle oX11_settle := by
  refine joR_ok ?_
  rintro _ σ ⟨rfl, hok, hm6, hdp, hst, hO⟩
  refine jCon.ofP (by decide +kernel) (by simp [lg_sl, Value.category]) (fun post hp => ?_)
  refine jvk_ok TX11_settle (V := [(297, 2, 8, oX8_make), (310, 1, 11, oX11_startChange)]) (S := []) (List.forall_mem_cons.mpr ⟨⟨mX8_make, n + 3, 1, TX8, 8, rfl, by omega, kX11_297, WX8_make, rfl, CX8_make g (n)⟩, (List.forall_mem_cons.mpr ⟨⟨mX11_startChange, n + 3, 0, TX11, 9, rfl, by omega, kX11_310, WX11_startChange, rfl, CX11_startChange g (n)⟩, (fun _ h => absurd h List.not_mem_nil)⟩)⟩) (fun _ h => absurd h List.not_mem_nil) [11] 30 _ _ _ _ ?_
  simp (maxSteps := 1000000) [↓Bool.cond_eq_ite, -Prod.forall, -Prod.exists, -Prod.mk.injEq, jvk, tX11_settle, jtb, jol, jst, jlk, jcmp, jbin, jfl, fX11, jc2, lX11, jcat, jel, lv_args, Value.category, jins, jsrt, jins2, jble, jblt, jf3, List.filter_cons, List.filter_nil, G_x, G_flat, G_loader, G_roster, G_lroster, G_lflat, G_history, G_prop, G_choice, G_tchoice, G_settle, G_page, oX8_make, oX11_startChange, joR, joRR, -Int32.not_le, -Int32.not_lt, -Int64.not_le, -Int64.not_lt, i3lt, i6lt, hok, hm6, hdp, hst]
  try simp (disch := omega) [-Prod.forall, -Prod.exists, -Prod.mk.injEq, -Int32.not_le, -Int32.not_lt, -Int64.not_le, -Int64.not_lt, i3lt, i6lt, hok, hm6, hdp, hst]
  intro v1 τ1 hv1 f1 h1 ht
  subst hv1
  have hO1 : hiO τ1 := by
    have e57 : τ1.1 57 = σ.1 57 := funext fun j => f1.2.2 57 j rfl
    unfold hiO
    rw [e57]; exact hO
  refine jvk_ok TX11_settle (V := [(297, 2, 8, oX8_make), (310, 1, 11, oX11_startChange)]) (S := []) (List.forall_mem_cons.mpr ⟨⟨mX8_make, n + 3, 1, TX8, 8, rfl, by omega, kX11_297, WX8_make, rfl, CX8_make g (n)⟩, (List.forall_mem_cons.mpr ⟨⟨mX11_startChange, n + 3, 0, TX11, 9, rfl, by omega, kX11_310, WX11_startChange, rfl, CX11_startChange g (n)⟩, (fun _ h => absurd h List.not_mem_nil)⟩)⟩) (fun _ h => absurd h List.not_mem_nil) [15] 30 _ _ _ _ ?_
  simp (maxSteps := 1000000) [↓Bool.cond_eq_ite, -Prod.forall, -Prod.exists, -Prod.mk.injEq, jvk, tX11_settle, jtb, jol, jst, jlk, jcmp, jbin, jfl, fX11, jc2, lX11, jcat, jel, lv_args, Value.category, jins, jsrt, jins2, jble, jblt, jf3, List.filter_cons, List.filter_nil, G_x, G_flat, G_loader, G_roster, G_lroster, G_lflat, G_history, G_prop, G_choice, G_tchoice, G_settle, G_page, oX8_make, oX11_startChange, joR, joRR, -Int32.not_le, -Int32.not_lt, -Int64.not_le, -Int64.not_lt, i3lt, i6lt, hO1]
  try simp (disch := omega) [-Prod.forall, -Prod.exists, -Prod.mk.injEq, -Int32.not_le, -Int32.not_lt, -Int64.not_le, -Int64.not_lt, i3lt, i6lt, hO1]
  intro v2 τ2 hv2 S
  subst hv2
  refine jvk_ok TX11_settle (V := [(297, 2, 8, oX8_make), (310, 1, 11, oX11_startChange)]) (S := []) (List.forall_mem_cons.mpr ⟨⟨mX8_make, n + 3, 1, TX8, 8, rfl, by omega, kX11_297, WX8_make, rfl, CX8_make g (n)⟩, (List.forall_mem_cons.mpr ⟨⟨mX11_startChange, n + 3, 0, TX11, 9, rfl, by omega, kX11_310, WX11_startChange, rfl, CX11_startChange g (n)⟩, (fun _ h => absurd h List.not_mem_nil)⟩)⟩) (fun _ h => absurd h List.not_mem_nil) [33] 30 _ _ _ _ ?_
  simp (maxSteps := 1000000) [↓Bool.cond_eq_ite, -Prod.forall, -Prod.exists, -Prod.mk.injEq, jvk, tX11_settle, jtb, jol, jst, jlk, jcmp, jbin, jfl, fX11, jc2, lX11, jcat, jel, lv_args, Value.category, jins, jsrt, jins2, jble, jblt, jf3, List.filter_cons, List.filter_nil, G_x, G_flat, G_loader, G_roster, G_lroster, G_lflat, G_history, G_prop, G_choice, G_tchoice, G_settle, G_page, oX8_make, oX11_startChange, joR, joRR, -Int32.not_le, -Int32.not_lt, -Int64.not_le, -Int64.not_lt, i3lt, i6lt]
  try simp (disch := omega) [-Prod.forall, -Prod.exists, -Prod.mk.injEq, -Int32.not_le, -Int32.not_lt, -Int64.not_le, -Int64.not_lt, i3lt, i6lt]
  have q1 : jarr 301 1 0 = true ∧ jlen 301 = 10 ∧ jarr 55 1 0 = true ∧ jlen 55 = 10 := ⟨by decide +kernel, by decide +kernel, by decide +kernel, by decide +kernel⟩
  refine jr_acp (m := 10) TX11_settle acp_11 rfl q1.1 q1.2.2.1 q1.2.1 q1.2.2.2 (by omega) (by decide) (by omega) ?_
  have eS : jcpy τ2 55 301 0 0 10 = stS σ τ2 := by
    have : (jcpy τ2 55 301 0 0 10).1 = (stS σ τ2).1 := by
      funext a j
      rw [jcpy_1]
      show _ = if a = 55 ∧ j < 10 then ctS σ j else τ2.1 a j
      by_cases c : a = 55 ∧ j < 10
      · rw [if_pos c, if_pos c, sc_same hO1 S 301 (by omega) (by omega)]
        exact h1 j c.2
      · rw [if_neg c, if_neg c]
    exact Prod.ext this rfl
  rw [eS]
  have e6 : (stS σ τ2).1 300 6 = nI (ctr σ).length := by
    have := ht.1
    rw [Nat.zero_add] at this
    show (if (300 : Nat) = 55 ∧ 6 < 10 then ctS σ 6 else τ2.1 300 6) = _
    rw [if_neg (by omega), sc_same hO1 S 300 (by omega) (by omega)]
    exact this
  have k1 := hp _ _ ⟨rfl, τ1, τ2, f1, S, rfl⟩
  refine jvk_ok TX11_settle (V := [(297, 2, 8, oX8_make), (310, 1, 11, oX11_startChange)]) (S := []) (List.forall_mem_cons.mpr ⟨⟨mX8_make, n + 3, 1, TX8, 8, rfl, by omega, kX11_297, WX8_make, rfl, CX8_make g (n)⟩, (List.forall_mem_cons.mpr ⟨⟨mX11_startChange, n + 3, 0, TX11, 9, rfl, by omega, kX11_310, WX11_startChange, rfl, CX11_startChange g (n)⟩, (fun _ h => absurd h List.not_mem_nil)⟩)⟩) (fun _ h => absurd h List.not_mem_nil) [] 30 _ _ _ _ ?_
  simp (maxSteps := 1000000) [↓Bool.cond_eq_ite, -Prod.forall, -Prod.exists, -Prod.mk.injEq, jvk, tX11_settle, jtb, jol, jst, jlk, jcmp, jbin, jfl, fX11, jc2, lX11, jcat, jel, lv_args, Value.category, jins, jsrt, jins2, jble, jblt, jf3, List.filter_cons, List.filter_nil, G_x, G_flat, G_loader, G_roster, G_lroster, G_lflat, G_history, G_prop, G_choice, G_tchoice, G_settle, G_page, oX8_make, oX11_startChange, joR, joRR, -Int32.not_le, -Int32.not_lt, -Int64.not_le, -Int64.not_lt, i3lt, i6lt, e6]
  try simp (disch := omega) [-Prod.forall, -Prod.exists, -Prod.mk.injEq, -Int32.not_le, -Int32.not_lt, -Int64.not_le, -Int64.not_lt, i3lt, i6lt, e6]
  exact k1
