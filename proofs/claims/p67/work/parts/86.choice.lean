/-! Choice: solve -/
/-- the room of a place in what is best, -1 if there is none -/
def cRm (σ : jM) (b j : Nat) : Int32 := match cD σ b 0 with
  | none => -1
  | some a => if j < cM σ b then nI (a.2.2 j) else -1
theorem aSo_self {b j : Nat} : aSo b (b + 9) j = true := by unfold aSo; simp
theorem lb_some {σ : jM} {b t : Nat} (h : cOK σ b) (ht : t < 2 ^ cR σ b) (hp : pop t < cM σ b) {a : Nat × Nat × (Nat → Nat)} (e : cD σ b t = some a) : ∃ r c, r < cR σ b ∧ ff (lbP σ b t) (cR σ b) 0 = nI r ∧ a.2.2 (pop t) = r ∧ t ||| 1 <<< r < 2 ^ cR σ b ∧ pop (t ||| 1 <<< r) = pop t + 1 ∧ cD σ b (t ||| 1 <<< r) = some c ∧ ∀ j, j ≠ pop t → a.2.2 j = c.2.2 j := by
  obtain ⟨m6, -, r6, -⟩ := cOK_n h
  have h64 : 2 ^ cR σ b ≤ 2 ^ 6 := Nat.pow_le_pow_right (by decide) r6
  have e2 := e
  rw [cD_step hp] at e2
  obtain ⟨r, x, hr, hx, hx1, hx2, hlt, -⟩ := qR_first _ _ e2
  obtain ⟨b1, b2, b3, b4, b5, b6, b7, c, c1, c2, c3⟩ := cT_bd h hp hr ht rfl hx
  refine ⟨r, c, hr, ?_, by rw [← hx2]; exact c2, b6, pop_or (by omega) (by omega) b1, c1, fun j hj => by rw [← hx2]; exact c3 j hj⟩
  have hab := cD_bd h e
  have key : ∀ d k, k + d = r → ff (lbP σ b t) (cR σ b - k) k = nI r := by
    intro d
    induction d with
    | zero =>
      intro k hk
      have ek : k = r := by omega
      subst ek
      rw [show cR σ b - k = (cR σ b - (k + 1)) + 1 by omega]
      have ex : qs (cT σ b (pop t) t k) = nI a.1 := by rw [hx, ← hx1]; rfl
      have ed : qs (cD σ b t) = nI a.1 := by rw [e]; rfl
      have hn : ¬ nI a.1 = -1 := fun z => (nI_m1 (by omega)).mp z
      have hlb : lbP σ b t k = true := by
        unfold lbP
        rw [ex, ed]
        simp [hn]
      unfold ff
      rw [if_pos hlb]
    | succ d ih =>
      intro k hk
      rw [show cR σ b - k = (cR σ b - (k + 1)) + 1 by omega]
      have ed : qs (cD σ b t) = nI a.1 := by rw [e]; rfl
      have hlb : ¬ lbP σ b t k = true := by
        unfold lbP
        rw [ed]
        rcases eC : cT σ b (pop t) t k with _ | y
        · simp [qs]
        · have h1 := hlt k (by omega) y eC
          have h2 := cT_bd h hp (show k < cR σ b by omega) ht rfl eC
          have h3 : ¬ nI y.1 = nI a.1 := fun z => by
            have := (nI_eq (by omega) (by omega)).mp z
            omega
          have h4 : qs (some y) = nI y.1 := rfl
          rw [h4]
          simp [h3]
      have := ih (k + 1) (by omega)
      unfold ff
      rw [if_neg hlb]
      exact this
  have := key r 0 (by omega)
  rw [Nat.sub_zero] at this
  exact this
theorem lb_none {σ : jM} {b t : Nat} (hp : pop t < cM σ b) (e : cD σ b t = none) : ff (lbP σ b t) (cR σ b) 0 = -1 := by
  rw [cD_step hp] at e
  have hq := qR_none _ e
  rcases ff_rng (p := lbP σ b t) (cR σ b) 0 with h1 | ⟨j, -, hj, hl, -⟩
  · exact h1
  · rw [Nat.zero_add] at hj
    unfold lbP at hl
    rw [hq j hj] at hl
    simp [qs] at hl
def oX1_solve : jO := joR fun b σ => (chF b ∧ cOK σ b, fun v τ => v = none ∧ jfr (aSo b) b0 σ τ ∧ cLd τ b 0 ∧ ∀ j, j < 6 → τ.1 (b + 9) j = cRm σ b j)
set_option maxRecDepth 100000 in
set_option maxHeartbeats 4000000 in
theorem CX1_solve (g : jG) (n : Nat) : jOk g (n + 2) mX1_solve oX1_solve := by
  refine joR_ok ?_
  rintro b σ ⟨hF, hok⟩
  obtain ⟨m6, em, r6, eR⟩ := cOK_n hok
  have h64 : 2 ^ cR σ b ≤ 2 ^ 6 := Nat.pow_le_pow_right (by decide) r6
  have hp0 : 0 < 2 ^ cR σ b := Nat.pow_pos (by decide)
  have hF0 := hF
  obtain ⟨f0, f1, f2, -, -, -, -, f7, f8, f9, f10, f11, f12, -, -, -, -, -, -, f19, f20, f21, f22, f23, f24⟩ := hF
  have eshl : (1 : Int32) <<< (nI (cR σ b) &&& 31) - 1 = nI (2 ^ cR σ b) - 1 := by
    have := shl_n (c := 1) (k := cR σ b) (by omega) (by decide)
    rw [Nat.one_mul] at this
    rw [← this]
    rfl
  refine jCon.ofP (by decide +kernel) (by simp [lg_sl, Value.category]) (fun post hp => ?_)
  refine jvk_ok TX1_solve (V := [(55, 2, 1, oX1_weigh), (65, 3, 1, oX1_lowestBest)]) (S := [(59, 2, 0, oJ7_fill_53178)]) (List.forall_mem_cons.mpr ⟨⟨mX1_weigh, n + 1, 1, TX1, 7, rfl, by omega, kX1_55, WX1_weigh, rfl, CX1_weigh g (n)⟩, (List.forall_mem_cons.mpr ⟨⟨mX1_lowestBest, n + 1, 2, TX1, 7, rfl, by omega, kX1_65, WX1_lowestBest, rfl, CX1_lowestBest g (n)⟩, (fun _ h => absurd h List.not_mem_nil)⟩)⟩) (List.forall_mem_cons.mpr ⟨⟨mJ7_fill_53178, n + 0, by omega, Or.inl kX1_59, WJ7_fill_53178, CJ7_fill_53178 g (n)⟩, (fun _ h => absurd h List.not_mem_nil)⟩) [9] 20 _ _ _ _ ?_
  simp (maxSteps := 1000000) [↓Bool.cond_eq_ite, -Prod.forall, -Prod.exists, -Prod.mk.injEq, jvk, tX1_solve, jtb, jol, jst, jlk, jcmp, jbin, jfl, fX1, jc2, lX1, jcat, jel, lv_args, Value.category, jins, jsrt, jins2, jble, jblt, jf3, List.filter_cons, List.filter_nil, G_choice, G_tchoice, G_flat, oX1_weigh, oJ7_fill_53178, oX1_lowestBest, joRI, joRII, -Int32.not_le, -Int32.not_lt, -Int64.not_le, -Int64.not_lt, i3lt, i6lt, f0, f2, eR, eshl]
  try simp (disch := omega) [-Prod.forall, -Prod.exists, -Prod.mk.injEq, -Int32.not_le, -Int32.not_lt, -Int64.not_le, -Int64.not_lt, i3lt, i6lt, f0, f2, eR, eshl]
  -- the rooms, the way along the best
  have rooms : ∀ ρ : jM, jfr (aSo b) b0 σ ρ → cLd ρ b 0 → jW g mX1_solve (n + 2) post 24 [(0, .ref b)] [] ρ := by
    intro ρ fρ hl
    obtain ⟨ρ0, eρ0⟩ : ∃ ρ0, ρ0 = jfil ρ (b + 9) 6 (-1) := ⟨_, rfl⟩
    have f09 : jfr (aSo b) b0 σ ρ0 := by
      rw [eρ0]
      refine ⟨fρ.1, fun a j q => fρ.2.1 a j q, fun a j q => ?_⟩
      rw [jfil_1, if_neg (fun z => by rw [z.1, aSo_self] at q; cases q)]
      exact fρ.2.2 a j q
    have e10 : ρ0.1 (b + 10) = ρ.1 (b + 10) := by rw [eρ0]; funext j; rw [jfil_1, if_neg (by omega)]
    have e11 : ρ0.1 (b + 11) = ρ.1 (b + 11) := by rw [eρ0]; funext j; rw [jfil_1, if_neg (by omega)]
    have e9 : ∀ j, j < 6 → ρ0.1 (b + 9) j = -1 := fun j hj => by rw [eρ0, jfil_1, if_pos ⟨rfl, hj⟩]
    have hl0 : cLd ρ0 b 0 := by
      intro u h1 h2
      rw [(so_M f09).2, ← (so_M fρ).2] at h2
      rw [(so_D hok f09).1, ← (so_D hok fρ).1, e10, e11]
      exact hl u h1 h2
    refine jvk_ok TX1_solve (V := [(55, 2, 1, oX1_weigh), (65, 3, 1, oX1_lowestBest)]) (S := [(59, 2, 0, oJ7_fill_53178)]) (List.forall_mem_cons.mpr ⟨⟨mX1_weigh, n + 1, 1, TX1, 7, rfl, by omega, kX1_55, WX1_weigh, rfl, CX1_weigh g (n)⟩, (List.forall_mem_cons.mpr ⟨⟨mX1_lowestBest, n + 1, 2, TX1, 7, rfl, by omega, kX1_65, WX1_lowestBest, rfl, CX1_lowestBest g (n)⟩, (fun _ h => absurd h List.not_mem_nil)⟩)⟩) (List.forall_mem_cons.mpr ⟨⟨mJ7_fill_53178, n + 0, by omega, Or.inl kX1_59, WJ7_fill_53178, CJ7_fill_53178 g (n)⟩, (fun _ h => absurd h List.not_mem_nil)⟩) [36] 20 _ _ _ _ ?_
    simp (maxSteps := 1000000) [↓Bool.cond_eq_ite, -Prod.forall, -Prod.exists, -Prod.mk.injEq, jvk, tX1_solve, jtb, jol, jst, jlk, jcmp, jbin, jfl, fX1, jc2, lX1, jcat, jel, lv_args, Value.category, jins, jsrt, jins2, jble, jblt, jf3, List.filter_cons, List.filter_nil, G_choice, G_tchoice, G_flat, oX1_weigh, oJ7_fill_53178, oX1_lowestBest, joRI, joRII, -Int32.not_le, -Int32.not_lt, -Int64.not_le, -Int64.not_lt, i3lt, i6lt, f0, f7, f8, f19, f20]
    try simp (disch := omega) [-Prod.forall, -Prod.exists, -Prod.mk.injEq, -Int32.not_le, -Int32.not_lt, -Int64.not_le, -Int64.not_lt, i3lt, i6lt, f0, f7, f8, f19, f20]
    rw [← eρ0]
    rcases eD : cD σ b 0 with _ | a
    · -- no choice: a place, and it has no room
      have hm : 0 < cM σ b := by
        refine Nat.pos_of_ne_zero (fun z => ?_)
        unfold cD dpv at eD
        rw [z] at eD
        cases eD
      have e4 : ρ0.1 b 0 = nI (cM σ b) := by rw [(so_C f09).1]; exact em
      have hlt : ¬ nI (cM σ b) ≤ nI 0 := nI_ge hm (by omega)
      have hpop : pop 0 = 0 := by decide
      have hok0 := so_OK hok f09
      have hpre : preL ρ0 b (nI 0) (nI 0) := ⟨0, rfl, by rw [hpop], by rw [(so_M f09).2]; exact hp0, by rw [(so_M f09).1, hpop]; exact hm, hl0⟩
      have eff : ff (lbP ρ0 b 0) (cR ρ0 b) 0 = -1 := lb_none (by rw [(so_M f09).1, hpop]; exact hm) (by rw [(so_D hok f09).1]; exact eD)
      have z0 : (nI 0).toNatClampNeg = 0 := rfl
      have hp' := hp none ρ0 ⟨rfl, f09, hl0, fun j hj => by unfold cRm; rw [eD]; exact e9 j hj⟩
      rw [← nI_0]
      refine jvk_ok TX1_solve (V := [(55, 2, 1, oX1_weigh), (65, 3, 1, oX1_lowestBest)]) (S := [(59, 2, 0, oJ7_fill_53178)]) (List.forall_mem_cons.mpr ⟨⟨mX1_weigh, n + 1, 1, TX1, 7, rfl, by omega, kX1_55, WX1_weigh, rfl, CX1_weigh g (n)⟩, (List.forall_mem_cons.mpr ⟨⟨mX1_lowestBest, n + 1, 2, TX1, 7, rfl, by omega, kX1_65, WX1_lowestBest, rfl, CX1_lowestBest g (n)⟩, (fun _ h => absurd h List.not_mem_nil)⟩)⟩) (List.forall_mem_cons.mpr ⟨⟨mJ7_fill_53178, n + 0, by omega, Or.inl kX1_59, WJ7_fill_53178, CJ7_fill_53178 g (n)⟩, (fun _ h => absurd h List.not_mem_nil)⟩) [] 30 _ _ _ _ ?_
      simp (maxSteps := 1000000) [↓Bool.cond_eq_ite, -Prod.forall, -Prod.exists, -Prod.mk.injEq, jvk, tX1_solve, jtb, jol, jst, jlk, jcmp, jbin, jfl, fX1, jc2, lX1, jcat, jel, lv_args, Value.category, jins, jsrt, jins2, jble, jblt, jf3, List.filter_cons, List.filter_nil, G_choice, G_tchoice, G_flat, oX1_weigh, oJ7_fill_53178, oX1_lowestBest, joRI, joRII, -Int32.not_le, -Int32.not_lt, -Int64.not_le, -Int64.not_lt, i3lt, i6lt, f0, f1, e4, hlt, hF0, hok0, hpre, z0, eff]
      try simp (disch := omega) [-Prod.forall, -Prod.exists, -Prod.mk.injEq, -Int32.not_le, -Int32.not_lt, -Int64.not_le, -Int64.not_lt, i3lt, i6lt, f0, f1, e4, hlt, hF0, hok0, hpre, z0, eff]
      exact hp'
    · have key := jloop (P := fun k => ∀ t c, t < 2 ^ cR σ b → pop t = k → cD σ b t = some c → (∀ j, k ≤ j → c.2.2 j = a.2.2 j) → ∀ ρ : jM, jfr (aSo b) b0 σ ρ → cLd ρ b 0 → (∀ j, j < 6 → ρ.1 (b + 9) j = if j < k then nI (a.2.2 j) else -1) → jW g mX1_solve (n + 2) post 36 [(0, .ref b), (1, .int (nI t)), (2, .int (nI k))] [] ρ) (N := cM σ b) (fun t c _ _ _ _ ρ fρ hl h9 => by
        have e4 : ρ.1 b 0 = nI (cM σ b) := by rw [(so_C fρ).1]; exact em
        have hle : nI (cM σ b) ≤ nI (cM σ b) := nI_le (Nat.le_refl _) (by omega)
        refine jvk_ok TX1_solve (V := [(55, 2, 1, oX1_weigh), (65, 3, 1, oX1_lowestBest)]) (S := [(59, 2, 0, oJ7_fill_53178)]) (List.forall_mem_cons.mpr ⟨⟨mX1_weigh, n + 1, 1, TX1, 7, rfl, by omega, kX1_55, WX1_weigh, rfl, CX1_weigh g (n)⟩, (List.forall_mem_cons.mpr ⟨⟨mX1_lowestBest, n + 1, 2, TX1, 7, rfl, by omega, kX1_65, WX1_lowestBest, rfl, CX1_lowestBest g (n)⟩, (fun _ h => absurd h List.not_mem_nil)⟩)⟩) (List.forall_mem_cons.mpr ⟨⟨mJ7_fill_53178, n + 0, by omega, Or.inl kX1_59, WJ7_fill_53178, CJ7_fill_53178 g (n)⟩, (fun _ h => absurd h List.not_mem_nil)⟩) [36] 30 _ _ _ _ ?_
        simp (maxSteps := 1000000) [↓Bool.cond_eq_ite, -Prod.forall, -Prod.exists, -Prod.mk.injEq, jvk, tX1_solve, jtb, jol, jst, jlk, jcmp, jbin, jfl, fX1, jc2, lX1, jcat, jel, lv_args, Value.category, jins, jsrt, jins2, jble, jblt, jf3, List.filter_cons, List.filter_nil, G_choice, G_tchoice, G_flat, oX1_weigh, oJ7_fill_53178, oX1_lowestBest, joRI, joRII, -Int32.not_le, -Int32.not_lt, -Int64.not_le, -Int64.not_lt, i3lt, i6lt, f0, f1, e4, hle]
        try simp (disch := omega) [-Prod.forall, -Prod.exists, -Prod.mk.injEq, -Int32.not_le, -Int32.not_lt, -Int64.not_le, -Int64.not_lt, i3lt, i6lt, f0, f1, e4, hle]
        exact hp _ _ ⟨rfl, fρ, hl, fun j hj => by unfold cRm; rw [eD]; exact h9 j hj⟩) (fun k hk ih t c ht hpt hc hcj ρ fρ hl h9 => by
        subst hpt
        have e4 : ρ.1 b 0 = nI (cM σ b) := by rw [(so_C fρ).1]; exact em
        have hlt : ¬ nI (cM σ b) ≤ nI (pop t) := nI_ge hk (by omega)
        have hokρ := so_OK hok fρ
        have hpre : preL ρ b (nI t) (nI (pop t)) := ⟨t, rfl, rfl, by rw [(so_M fρ).2]; exact ht, by rw [(so_M fρ).1]; exact hk, fun u h1 h2 => hl u (Nat.zero_le _) h2⟩
        obtain ⟨r, d, hr, h1, h2, h3, h4, h5, h6⟩ := lb_some hokρ (t := t) (a := c) (by rw [(so_M fρ).2]; exact ht) (by rw [(so_M fρ).1]; exact hk) (by rw [(so_D hok fρ).1]; exact hc)
        rw [(so_M fρ).2] at hr h3
        rw [(so_D hok fρ).1] at h5
        have ect : (nI t).toNatClampNeg = t := nI_clamp (by omega)
        have ecp : (nI (pop t)).toNatClampNeg = pop t := nI_clamp (by omega)
        have jp : jin (nI (pop t)) 6 := jin_nI (by omega) (by decide)
        have rn1 : ¬ nI r = -1 := fun z => (nI_m1 (by omega)).mp z
        obtain ⟨p1, p2, p3⟩ := bit_t (t := t) (r := r) (by omega) (by omega)
        have k1 := ih (t ||| 1 <<< r) d h3 h4 h5 (fun j hj => by rw [← h6 j (by omega)]; exact hcj j (by omega)) (jup ρ (b + 9) (pop t) (nI r)) (fρ.up _ aSo_self) (by
          intro u q1 q2
          have f2' : jfr (aSo b) b0 σ (jup ρ (b + 9) (pop t) (nI r)) := fρ.up _ aSo_self
          rw [(so_D hok f2').1, ← (so_D hok fρ).1, jup_1, if_neg (by omega), jup_1, if_neg (by omega)]
          exact hl u q1 (by rw [(so_M f2').2, ← (so_M fρ).2] at q2; exact q2)) (fun j hj => by
          rw [jup_1]
          by_cases z : j = pop t
          · rw [if_pos ⟨rfl, z⟩, if_pos (by omega), z, ← hcj _ (Nat.le_refl _), h2]
          · rw [if_neg (fun w => z w.2), h9 j hj]
            by_cases y : j < pop t
            · rw [if_pos y, if_pos (by omega)]
            · rw [if_neg y, if_neg (by omega)])
        refine jvk_ok TX1_solve (V := [(55, 2, 1, oX1_weigh), (65, 3, 1, oX1_lowestBest)]) (S := [(59, 2, 0, oJ7_fill_53178)]) (List.forall_mem_cons.mpr ⟨⟨mX1_weigh, n + 1, 1, TX1, 7, rfl, by omega, kX1_55, WX1_weigh, rfl, CX1_weigh g (n)⟩, (List.forall_mem_cons.mpr ⟨⟨mX1_lowestBest, n + 1, 2, TX1, 7, rfl, by omega, kX1_65, WX1_lowestBest, rfl, CX1_lowestBest g (n)⟩, (fun _ h => absurd h List.not_mem_nil)⟩)⟩) (List.forall_mem_cons.mpr ⟨⟨mJ7_fill_53178, n + 0, by omega, Or.inl kX1_59, WJ7_fill_53178, CJ7_fill_53178 g (n)⟩, (fun _ h => absurd h List.not_mem_nil)⟩) [36] 30 _ _ _ _ ?_
        simp (maxSteps := 1000000) [↓Bool.cond_eq_ite, -Prod.forall, -Prod.exists, -Prod.mk.injEq, jvk, tX1_solve, jtb, jol, jst, jlk, jcmp, jbin, jfl, fX1, jc2, lX1, jcat, jel, lv_args, Value.category, jins, jsrt, jins2, jble, jblt, jf3, List.filter_cons, List.filter_nil, G_choice, G_tchoice, G_flat, oX1_weigh, oJ7_fill_53178, oX1_lowestBest, joRI, joRII, -Int32.not_le, -Int32.not_lt, -Int64.not_le, -Int64.not_lt, i3lt, i6lt, f0, f1, f7, f8, f19, f20, e4, hlt, hF0, hokρ, hpre, ect, ecp, h1, rn1, jp, p2, nI_1]
        try simp (disch := omega) [-Prod.forall, -Prod.exists, -Prod.mk.injEq, -Int32.not_le, -Int32.not_lt, -Int64.not_le, -Int64.not_lt, i3lt, i6lt, f0, f1, f7, f8, f19, f20, e4, hlt, hF0, hokρ, hpre, ect, ecp, h1, rn1, jp, p2, nI_1]
        exact jW.mono k1 (by simp))
      have hk0 := key 0 a hp0 (by decide) eD (fun _ _ => rfl) ρ0 f09 hl0 (fun j hj => by rw [e9 j hj, if_neg (by omega)])
      rw [nI_0] at hk0
      exact hk0
  have key := jloopD (P := fun k => k ≤ 2 ^ cR σ b → ∀ ρ : jM, jfr (aSo b) b0 σ ρ → cLd ρ b k → jW g mX1_solve (n + 2) post 9 [(0, .ref b), (1, .int (nI k - 1))] [] ρ) (fun _ ρ fρ hl => by
    have k1 := rooms ρ fρ hl
    have lt0 : (nI 0 - 1 : Int32) < 0 := by decide
    refine jvk_ok TX1_solve (V := [(55, 2, 1, oX1_weigh), (65, 3, 1, oX1_lowestBest)]) (S := [(59, 2, 0, oJ7_fill_53178)]) (List.forall_mem_cons.mpr ⟨⟨mX1_weigh, n + 1, 1, TX1, 7, rfl, by omega, kX1_55, WX1_weigh, rfl, CX1_weigh g (n)⟩, (List.forall_mem_cons.mpr ⟨⟨mX1_lowestBest, n + 1, 2, TX1, 7, rfl, by omega, kX1_65, WX1_lowestBest, rfl, CX1_lowestBest g (n)⟩, (fun _ h => absurd h List.not_mem_nil)⟩)⟩) (List.forall_mem_cons.mpr ⟨⟨mJ7_fill_53178, n + 0, by omega, Or.inl kX1_59, WJ7_fill_53178, CJ7_fill_53178 g (n)⟩, (fun _ h => absurd h List.not_mem_nil)⟩) [9, 24] 10 _ _ _ _ ?_
    simp (maxSteps := 1000000) [↓Bool.cond_eq_ite, -Prod.forall, -Prod.exists, -Prod.mk.injEq, jvk, tX1_solve, jtb, jol, jst, jlk, jcmp, jbin, jfl, fX1, jc2, lX1, jcat, jel, lv_args, Value.category, jins, jsrt, jins2, jble, jblt, jf3, List.filter_cons, List.filter_nil, G_choice, G_tchoice, G_flat, oX1_weigh, oJ7_fill_53178, oX1_lowestBest, joRI, joRII, -Int32.not_le, -Int32.not_lt, -Int64.not_le, -Int64.not_lt, i3lt, i6lt, lt0]
    try simp (disch := omega) [-Prod.forall, -Prod.exists, -Prod.mk.injEq, -Int32.not_le, -Int32.not_lt, -Int64.not_le, -Int64.not_lt, i3lt, i6lt, lt0]
    exact jW.mono k1 (by simp)) (fun k ih hk ρ fρ hl => by
    have ek : nI (k + 1) - 1 = nI k := pk_sub (a := k + 1) (b := 1) (by omega)
    have lt0 : ¬ nI k < 0 := by
      rw [Int32.lt_iff_toInt_lt, nI_toInt (by omega)]
      have : ((0 : Int32)).toInt = 0 := by decide
      omega
    have ek2 : nI k + -1 = nI k - 1 := by rw [Int32.sub_eq_add_neg]
    have hpre : preW ρ b (nI k) := ⟨k, rfl, by rw [(so_M fρ).2]; omega, hl⟩
    have hokρ := so_OK hok fρ
    have eck : (nI k).toNatClampNeg = k := nI_clamp (by omega)
    rw [ek]
    refine jvk_ok TX1_solve (V := [(55, 2, 1, oX1_weigh), (65, 3, 1, oX1_lowestBest)]) (S := [(59, 2, 0, oJ7_fill_53178)]) (List.forall_mem_cons.mpr ⟨⟨mX1_weigh, n + 1, 1, TX1, 7, rfl, by omega, kX1_55, WX1_weigh, rfl, CX1_weigh g (n)⟩, (List.forall_mem_cons.mpr ⟨⟨mX1_lowestBest, n + 1, 2, TX1, 7, rfl, by omega, kX1_65, WX1_lowestBest, rfl, CX1_lowestBest g (n)⟩, (fun _ h => absurd h List.not_mem_nil)⟩)⟩) (List.forall_mem_cons.mpr ⟨⟨mJ7_fill_53178, n + 0, by omega, Or.inl kX1_59, WJ7_fill_53178, CJ7_fill_53178 g (n)⟩, (fun _ h => absurd h List.not_mem_nil)⟩) [9, 24] 20 _ _ _ _ ?_
    simp (maxSteps := 1000000) [↓Bool.cond_eq_ite, -Prod.forall, -Prod.exists, -Prod.mk.injEq, jvk, tX1_solve, jtb, jol, jst, jlk, jcmp, jbin, jfl, fX1, jc2, lX1, jcat, jel, lv_args, Value.category, jins, jsrt, jins2, jble, jblt, jf3, List.filter_cons, List.filter_nil, G_choice, G_tchoice, G_flat, oX1_weigh, oJ7_fill_53178, oX1_lowestBest, joRI, joRII, -Int32.not_le, -Int32.not_lt, -Int64.not_le, -Int64.not_lt, i3lt, i6lt, f0, lt0, hF0, hokρ, hpre]
    try simp (disch := omega) [-Prod.forall, -Prod.exists, -Prod.mk.injEq, -Int32.not_le, -Int32.not_lt, -Int64.not_le, -Int64.not_lt, i3lt, i6lt, f0, lt0, hF0, hokρ, hpre]
    intro v τ hv fτ hlτ
    subst hv
    rw [eck] at hlτ
    have k1 := ih (by omega) τ (fρ.tr fτ) hlτ
    rw [ek2]
    exact k1) (2 ^ cR σ b)
  refine key (Nat.le_refl _) σ jfr.rfl (fun u h1 h2 => ?_)
  omega
