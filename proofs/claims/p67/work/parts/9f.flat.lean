/-! History: keep, bringBack; Flat: doPlans, empty -/
def hiN (σ : jM) : Nat := (σ.1 57 1).toNatClampNeg
def hiC (σ : jM) : Nat := (σ.1 57 2).toNatClampNeg
def hiO (σ : jM) : Prop := (0 ≤ σ.1 57 1 ∧ σ.1 57 1 ≤ 9) ∧ 0 ≤ σ.1 57 2 ∧ σ.1 57 2 ≤ 10
theorem hiO_n {σ : jM} (h : hiO σ) : (hiN σ ≤ 9 ∧ σ.1 57 1 = nI (hiN σ)) ∧ hiC σ ≤ 10 ∧ σ.1 57 2 = nI (hiC σ) := by
  obtain ⟨a, a1, a2, a3⟩ := nI_rng h.1.1 h.1.2 (by decide)
  obtain ⟨c, c1, c2, c3⟩ := nI_rng h.2.1 h.2.2 (by decide)
  unfold hiN hiC
  rw [a3, c3]
  exact ⟨⟨a1, a2⟩, c1, c2⟩
def oX3_keep : jO := joRR fun a f σ => (a = 57 ∧ f = 37 ∧ hiO σ, fun v τ => v = none ∧ ∃ ρ, cpP σ ρ (59 + 20 * hiN σ) 37 ∧ τ = jup (jup ρ 57 1 (nI ((hiN σ + 1) % 10))) 57 2 (nI (min (hiC σ + 1) 10)))
set_option maxRecDepth 100000 in
set_option maxHeartbeats 4000000 in
theorem CX3_keep (g : jG) (n : Nat) : jOk g (n + 2) mX3_keep oX3_keep := by
  refine joRR_ok ?_
  rintro _ _ σ ⟨rfl, rfl, hO⟩
  obtain ⟨⟨h9, e1⟩, h10, e2⟩ := hiO_n hO
  obtain ⟨i, ei⟩ : ∃ i, i = hiN σ := ⟨_, rfl⟩
  obtain ⟨c, ec⟩ : ∃ c, c = hiC σ := ⟨_, rfl⟩
  rw [← ei] at h9 e1
  rw [← ec] at h10 e2
  have ji : jin (nI i) 10 := jin_nI (by omega) (by decide)
  have eci : (nI i).toNatClampNeg = i := nI_clamp (by omega)
  have hd := flF_h i (by omega)
  have hj : dsj (59 + 20 * i) 37 := Or.inr (by omega)
  have hs := flF_37
  refine jCon.ofP (by decide +kernel) (by simp [lg_sl, Value.category]) (fun post hp => ?_)
  refine jvk_ok TX3_keep (V := [(25, 2, 2, oX2_copy)]) (S := [(29, 2, 0, oJ9_min_7cf53)]) (List.forall_mem_cons.mpr ⟨⟨mX2_copy, n + 1, 1, TX2, 16, rfl, by omega, kX3_25, WX2_copy, rfl, CX2_copy g (n)⟩, (fun _ h => absurd h List.not_mem_nil)⟩) (List.forall_mem_cons.mpr ⟨⟨mJ9_min_7cf53, n + 0, by omega, Or.inl kX3_29, WJ9_min_7cf53, CJ9_min_7cf53 g (n)⟩, (fun _ h => absurd h List.not_mem_nil)⟩) [19] 20 _ _ _ _ ?_
  simp (maxSteps := 1000000) [↓Bool.cond_eq_ite, -Prod.forall, -Prod.exists, -Prod.mk.injEq, jvk, tX3_keep, jtb, jol, jst, jlk, jcmp, jbin, jfl, fX3, jc2, lX3, jcat, jel, lv_args, Value.category, jins, jsrt, jins2, jble, jblt, jf3, List.filter_cons, List.filter_nil, G_history, oX2_copy, oJ9_min_7cf53, joII, joRR, -Int32.not_le, -Int32.not_lt, -Int64.not_le, -Int64.not_lt, i3lt, i6lt, e1, ji, eci, hd, hd.1.1, hs, hj]
  try simp (disch := omega) [-Prod.forall, -Prod.exists, -Prod.mk.injEq, -Int32.not_le, -Int32.not_lt, -Int64.not_le, -Int64.not_lt, i3lt, i6lt, e1, ji, eci, hd, hd.1.1, hs, hj]
  rw [← ei, ← ec] at hp
  intro v1 ρ hv1 C
  subst hv1
  have g1 : ρ.1 57 1 = nI i := (C.1.2.2 57 1 (aFl_o (by omega))).trans e1
  have g2 : ρ.1 57 2 = nI c := (C.1.2.2 57 2 (aFl_o (by omega))).trans e2
  have er : nI (i + 1) - nI (i + 1) / 10 * 10 = nI ((i + 1) % 10) := pk_rem (d := 10) (by omega) (by decide) (by decide)
  have em : (if nI (c + 1) ≤ 10 then nI (c + 1) else 10) = nI (min (c + 1) 10) := by
    by_cases z : c + 1 ≤ 10
    · rw [if_pos (show nI (c + 1) ≤ (10 : Int32) from nI_le (b := 10) z (by decide)), Nat.min_eq_left z]
    · rw [if_neg (show ¬ nI (c + 1) ≤ (10 : Int32) from nI_ge (a := 10) (by omega) (by omega)), Nat.min_eq_right (by omega)]; rfl
  refine jvk_ok TX3_keep (V := [(25, 2, 2, oX2_copy)]) (S := [(29, 2, 0, oJ9_min_7cf53)]) (List.forall_mem_cons.mpr ⟨⟨mX2_copy, n + 1, 1, TX2, 16, rfl, by omega, kX3_25, WX2_copy, rfl, CX2_copy g (n)⟩, (fun _ h => absurd h List.not_mem_nil)⟩) (List.forall_mem_cons.mpr ⟨⟨mJ9_min_7cf53, n + 0, by omega, Or.inl kX3_29, WJ9_min_7cf53, CJ9_min_7cf53 g (n)⟩, (fun _ h => absurd h List.not_mem_nil)⟩) [] 40 _ _ _ _ ?_
  simp (maxSteps := 1000000) [↓Bool.cond_eq_ite, -Prod.forall, -Prod.exists, -Prod.mk.injEq, jvk, tX3_keep, jtb, jol, jst, jlk, jcmp, jbin, jfl, fX3, jc2, lX3, jcat, jel, lv_args, Value.category, jins, jsrt, jins2, jble, jblt, jf3, List.filter_cons, List.filter_nil, G_history, oX2_copy, oJ9_min_7cf53, joII, joRR, -Int32.not_le, -Int32.not_lt, -Int64.not_le, -Int64.not_lt, i3lt, i6lt, g1, g2, er, em, jup_1, nI_1]
  try simp (disch := omega) [-Prod.forall, -Prod.exists, -Prod.mk.injEq, -Int32.not_le, -Int32.not_lt, -Int64.not_le, -Int64.not_lt, i3lt, i6lt, g1, g2, er, em, jup_1, nI_1]
  exact hp _ _ ⟨rfl, ρ, C, rfl⟩
/-! the plans for a month -/
def dnK (σ : jM) : Nat → Nat → Nat
  | 0, k => k
  | f + 1, k => if nI k < σ.1 31 5 ∧ σ.1 35 k ≤ σ.1 37 5 then dnK σ f (k + 1) else k
theorem dnK_le (σ : jM) : ∀ f k, k ≤ dnK σ f k ∧ dnK σ f k ≤ k + f
  | 0, k => ⟨Nat.le_refl _, Nat.le_refl _⟩
  | f + 1, k => by
    obtain ⟨h1, h2⟩ := dnK_le σ f (k + 1)
    simp only [dnK]
    split <;> omega
/-- the incomes when d plans from k0 on are done -/
def dnR (σ : jM) (k0 : Nat) : Nat → Nat → Int32
  | 0 => σ.1 40
  | d + 1 => if fP σ (σ.1 34 (k0 + d)) = true then (fun p => if p = (σ.1 34 (k0 + d)).toNatClampNeg then σ.1 36 (k0 + d) else dnR σ k0 d p) else dnR σ k0 d
def aDp (a j : Nat) : Bool := a == 40 || a == 37 && j == 6
def dnO (σ : jM) : Prop := ∃ k, σ.1 37 6 = nI k ∧ k ≤ 20
def dnN (σ : jM) : Nat := (σ.1 37 6).toNatClampNeg
def dnE (σ : jM) : Nat := dnK σ (20 - dnN σ) (dnN σ)
def oX2_doPlans : jO := joRR fun a r σ => (a = 37 ∧ r = 31 ∧ dnO σ, fun v τ => v = some (.int (if dnN σ < dnE σ then 1 else 0)) ∧ jfr aDp b0 σ τ ∧ τ.1 40 = dnR σ (dnN σ) (dnE σ - dnN σ) ∧ τ.1 37 6 = nI (dnE σ))
set_option maxRecDepth 100000 in
set_option maxHeartbeats 4000000 in
theorem CX2_doPlans (g : jG) (n : Nat) : jOk g (n + 1) mX2_doPlans oX2_doPlans := by
  refine joRR_ok ?_
  rintro _ _ σ ⟨rfl, rfl, k0, h6, h20⟩
  have ec0 : (nI k0).toNatClampNeg = k0 := nI_clamp (by omega)
  have eN : dnN σ = k0 := by unfold dnN; rw [h6, ec0]
  have hE := dnK_le σ (20 - k0) k0
  obtain ⟨E, eE⟩ : ∃ E, E = dnK σ (20 - k0) k0 := ⟨_, rfl⟩
  have eE' : dnE σ = E := by unfold dnE; rw [eN, eE]
  rw [← eE] at hE
  refine jCon.ofP (by decide +kernel) (by simp [lg_sl, Value.category]) (fun post hp => ?_)
  refine jvk_ok TX2_doPlans (V := [(106, 2, 7, oX7_hasPlan), (78, 2, 2, oX2_isPerson)]) (S := []) (List.forall_mem_cons.mpr ⟨⟨mX7_hasPlan, n + 0, 1, TX7, 6, rfl, by omega, kX2_106, WX7_hasPlan, rfl, CX7_hasPlan g (n)⟩, (List.forall_mem_cons.mpr ⟨⟨mX2_isPerson, n + 0, 1, TX2, 16, rfl, by omega, kX2_78, WX2_isPerson, rfl, CX2_isPerson g (n)⟩, (fun _ h => absurd h List.not_mem_nil)⟩)⟩) (fun _ h => absurd h List.not_mem_nil) [5] 20 _ _ _ _ ?_
  simp (maxSteps := 1000000) [↓Bool.cond_eq_ite, -Prod.forall, -Prod.exists, -Prod.mk.injEq, jvk, tX2_doPlans, jtb, jol, jst, jlk, jcmp, jbin, jfl, fX2, jc2, lX2, jcat, jel, lv_args, Value.category, jins, jsrt, jins2, jble, jblt, jf3, List.filter_cons, List.filter_nil, G_flat, oX7_hasPlan, oX2_isPerson, joRI, -Int32.not_le, -Int32.not_lt, -Int64.not_le, -Int64.not_lt, i3lt, i6lt, h6, G_roster]
  try simp (disch := omega) [-Prod.forall, -Prod.exists, -Prod.mk.injEq, -Int32.not_le, -Int32.not_lt, -Int64.not_le, -Int64.not_lt, i3lt, i6lt, h6, G_roster]
  rw [eE', eN] at hp
  have last : ∀ τ : jM, jfr aDp b0 σ τ → τ.1 40 = dnR σ k0 (E - k0) → τ.1 37 6 = nI E → jW g mX2_doPlans (n + 1) post 87 [(0, .ref 37), (1, .ref 31), (2, .int (nI k0))] [] τ := fun τ f h40 h6 => by
    have c := nI_leI (a := E) (b := k0) (by omega) (by omega)
    by_cases z : k0 < E
    · have c' : ¬ nI E ≤ nI k0 := nI_ge z (by omega)
      have hk := hp _ _ ⟨by rw [if_pos z], f, h40, h6⟩
      refine jvk_ok TX2_doPlans (V := [(106, 2, 7, oX7_hasPlan), (78, 2, 2, oX2_isPerson)]) (S := []) (List.forall_mem_cons.mpr ⟨⟨mX7_hasPlan, n + 0, 1, TX7, 6, rfl, by omega, kX2_106, WX7_hasPlan, rfl, CX7_hasPlan g (n)⟩, (List.forall_mem_cons.mpr ⟨⟨mX2_isPerson, n + 0, 1, TX2, 16, rfl, by omega, kX2_78, WX2_isPerson, rfl, CX2_isPerson g (n)⟩, (fun _ h => absurd h List.not_mem_nil)⟩)⟩) (fun _ h => absurd h List.not_mem_nil) [] 20 _ _ _ _ ?_
      simp (maxSteps := 1000000) [↓Bool.cond_eq_ite, -Prod.forall, -Prod.exists, -Prod.mk.injEq, jvk, tX2_doPlans, jtb, jol, jst, jlk, jcmp, jbin, jfl, fX2, jc2, lX2, jcat, jel, lv_args, Value.category, jins, jsrt, jins2, jble, jblt, jf3, List.filter_cons, List.filter_nil, G_flat, oX7_hasPlan, oX2_isPerson, joRI, -Int32.not_le, -Int32.not_lt, -Int64.not_le, -Int64.not_lt, i3lt, i6lt, h6, c', G_roster]
      try simp (disch := omega) [-Prod.forall, -Prod.exists, -Prod.mk.injEq, -Int32.not_le, -Int32.not_lt, -Int64.not_le, -Int64.not_lt, i3lt, i6lt, h6, c', G_roster]
      exact hk
    · have c' : nI E ≤ nI k0 := nI_le (by omega) (by omega)
      have hk := hp _ _ ⟨by rw [if_neg z], f, h40, h6⟩
      refine jvk_ok TX2_doPlans (V := [(106, 2, 7, oX7_hasPlan), (78, 2, 2, oX2_isPerson)]) (S := []) (List.forall_mem_cons.mpr ⟨⟨mX7_hasPlan, n + 0, 1, TX7, 6, rfl, by omega, kX2_106, WX7_hasPlan, rfl, CX7_hasPlan g (n)⟩, (List.forall_mem_cons.mpr ⟨⟨mX2_isPerson, n + 0, 1, TX2, 16, rfl, by omega, kX2_78, WX2_isPerson, rfl, CX2_isPerson g (n)⟩, (fun _ h => absurd h List.not_mem_nil)⟩)⟩) (fun _ h => absurd h List.not_mem_nil) [] 20 _ _ _ _ ?_
      simp (maxSteps := 1000000) [↓Bool.cond_eq_ite, -Prod.forall, -Prod.exists, -Prod.mk.injEq, jvk, tX2_doPlans, jtb, jol, jst, jlk, jcmp, jbin, jfl, fX2, jc2, lX2, jcat, jel, lv_args, Value.category, jins, jsrt, jins2, jble, jblt, jf3, List.filter_cons, List.filter_nil, G_flat, oX7_hasPlan, oX2_isPerson, joRI, -Int32.not_le, -Int32.not_lt, -Int64.not_le, -Int64.not_lt, i3lt, i6lt, h6, c', G_roster]
      try simp (disch := omega) [-Prod.forall, -Prod.exists, -Prod.mk.injEq, -Int32.not_le, -Int32.not_lt, -Int64.not_le, -Int64.not_lt, i3lt, i6lt, h6, c', G_roster]
      exact hk
  have key : ∀ (f k : Nat) (τ : jM), k + f = 20 → k0 ≤ k → dnK σ f k = E → jfr aDp b0 σ τ → τ.1 40 = dnR σ k0 (k - k0) → τ.1 37 6 = nI k → jW g mX2_doPlans (n + 1) post 5 [(0, .ref 37), (1, .ref 31), (2, .int (nI k0))] [] τ := by
    intro f
    induction f with
    | zero =>
      intro k τ hk _ he fr h40 h6
      have c1 : (20 : Int32) ≤ nI k := by rw [show k = 20 by omega]; decide
      have eK : k = E := he
      rw [eK] at h40 h6
      rw [eK] at c1
      have k1 := last τ fr h40 h6
      refine jvk_ok TX2_doPlans (V := [(106, 2, 7, oX7_hasPlan), (78, 2, 2, oX2_isPerson)]) (S := []) (List.forall_mem_cons.mpr ⟨⟨mX7_hasPlan, n + 0, 1, TX7, 6, rfl, by omega, kX2_106, WX7_hasPlan, rfl, CX7_hasPlan g (n)⟩, (List.forall_mem_cons.mpr ⟨⟨mX2_isPerson, n + 0, 1, TX2, 16, rfl, by omega, kX2_78, WX2_isPerson, rfl, CX2_isPerson g (n)⟩, (fun _ h => absurd h List.not_mem_nil)⟩)⟩) (fun _ h => absurd h List.not_mem_nil) [5, 87] 20 _ _ _ _ ?_
      simp (maxSteps := 1000000) [↓Bool.cond_eq_ite, -Prod.forall, -Prod.exists, -Prod.mk.injEq, jvk, tX2_doPlans, jtb, jol, jst, jlk, jcmp, jbin, jfl, fX2, jc2, lX2, jcat, jel, lv_args, Value.category, jins, jsrt, jins2, jble, jblt, jf3, List.filter_cons, List.filter_nil, G_flat, oX7_hasPlan, oX2_isPerson, joRI, -Int32.not_le, -Int32.not_lt, -Int64.not_le, -Int64.not_lt, i3lt, i6lt, h6, c1, G_roster]
      try simp (disch := omega) [-Prod.forall, -Prod.exists, -Prod.mk.injEq, -Int32.not_le, -Int32.not_lt, -Int64.not_le, -Int64.not_lt, i3lt, i6lt, h6, c1, G_roster]
      exact k1
    | succ f ih =>
      intro k τ hk hk0 he fr h40 h6
      have c1 : ¬ (20 : Int32) ≤ nI k := nI_ge (b := 20) (by omega) (by decide)
      have c2 : nI k < 20 := nI_lt (b := 20) (by omega) (by decide)
      have pre : ∃ q, nI k = nI q ∧ q ≤ 1000000 := ⟨k, rfl, by omega⟩
      have hr : (31 : Nat) = 24 ∨ (31 : Nat) = 31 := Or.inr rfl
      have e31 : τ.1 31 5 = σ.1 31 5 := fr.2.2 31 5 rfl
      have e34 : τ.1 34 k = σ.1 34 k := fr.2.2 34 k rfl
      have e35 : τ.1 35 k = σ.1 35 k := fr.2.2 35 k rfl
      have e36 : τ.1 36 k = σ.1 36 k := fr.2.2 36 k rfl
      have e375 : τ.1 37 5 = σ.1 37 5 := fr.2.2 37 5 rfl
      have jk : jin (nI k) 20 := jin_nI (by omega) (by decide)
      have eck : (nI k).toNatClampNeg = k := nI_clamp (by omega)
      have ePf : fP τ (σ.1 34 k) = fP σ (σ.1 34 k) := by unfold fP; rw [fr.2.2 37 1 rfl]
      simp only [dnK] at he
      by_cases d1 : nI k < σ.1 31 5
      · have d1' : (if nI k < σ.1 31 5 ∧ nI k < 20 then (1 : Int32) else 0) = 1 := if_pos ⟨d1, c2⟩
        by_cases d2 : σ.1 35 k ≤ σ.1 37 5
        · rw [if_pos ⟨d1, d2⟩] at he
          by_cases d3 : fP σ (σ.1 34 k) = true
          · have j3 : jin (σ.1 34 k) 10 := fP_jin d3
            have k1 := ih (k + 1) (jup (jup τ 40 (σ.1 34 k).toNatClampNeg (σ.1 36 k)) 37 6 (nI (k + 1))) (by omega) (by omega) he ((fr.up _ rfl).up _ rfl) (by
              rw [show k + 1 - k0 = (k - k0) + 1 by omega]
              simp only [dnR]
              rw [show k0 + (k - k0) = k by omega, if_pos d3]
              funext p
              rw [jup_1, if_neg (by omega), jup_1, h40]
              by_cases z : p = (σ.1 34 k).toNatClampNeg
              · rw [if_pos ⟨rfl, z⟩, if_pos z]
              · rw [if_neg (fun y => z y.2), if_neg z]) (jup_s _ _ _ _)
            refine jvk_ok TX2_doPlans (V := [(106, 2, 7, oX7_hasPlan), (78, 2, 2, oX2_isPerson)]) (S := []) (List.forall_mem_cons.mpr ⟨⟨mX7_hasPlan, n + 0, 1, TX7, 6, rfl, by omega, kX2_106, WX7_hasPlan, rfl, CX7_hasPlan g (n)⟩, (List.forall_mem_cons.mpr ⟨⟨mX2_isPerson, n + 0, 1, TX2, 16, rfl, by omega, kX2_78, WX2_isPerson, rfl, CX2_isPerson g (n)⟩, (fun _ h => absurd h List.not_mem_nil)⟩)⟩) (fun _ h => absurd h List.not_mem_nil) [22, 87] 20 _ _ _ _ ?_
            simp (maxSteps := 1000000) [↓Bool.cond_eq_ite, -Prod.forall, -Prod.exists, -Prod.mk.injEq, jvk, tX2_doPlans, jtb, jol, jst, jlk, jcmp, jbin, jfl, fX2, jc2, lX2, jcat, jel, lv_args, Value.category, jins, jsrt, jins2, jble, jblt, jf3, List.filter_cons, List.filter_nil, G_flat, oX7_hasPlan, oX2_isPerson, joRI, -Int32.not_le, -Int32.not_lt, -Int64.not_le, -Int64.not_lt, i3lt, i6lt, h6, c1, hr, pre, G_roster]
            try simp (disch := omega) [-Prod.forall, -Prod.exists, -Prod.mk.injEq, -Int32.not_le, -Int32.not_lt, -Int64.not_le, -Int64.not_lt, i3lt, i6lt, h6, c1, hr, pre, G_roster]
            rw [e31, if_neg (Int32.not_le.mpr d1)]
            refine jvk_ok TX2_doPlans (V := [(106, 2, 7, oX7_hasPlan), (78, 2, 2, oX2_isPerson)]) (S := []) (List.forall_mem_cons.mpr ⟨⟨mX7_hasPlan, n + 0, 1, TX7, 6, rfl, by omega, kX2_106, WX7_hasPlan, rfl, CX7_hasPlan g (n)⟩, (List.forall_mem_cons.mpr ⟨⟨mX2_isPerson, n + 0, 1, TX2, 16, rfl, by omega, kX2_78, WX2_isPerson, rfl, CX2_isPerson g (n)⟩, (fun _ h => absurd h List.not_mem_nil)⟩)⟩) (fun _ h => absurd h List.not_mem_nil) [5, 87] 60 _ _ _ _ ?_
            simp (maxSteps := 1000000) [↓Bool.cond_eq_ite, -Prod.forall, -Prod.exists, -Prod.mk.injEq, jvk, tX2_doPlans, jtb, jol, jst, jlk, jcmp, jbin, jfl, fX2, jc2, lX2, jcat, jel, lv_args, Value.category, jins, jsrt, jins2, jble, jblt, jf3, List.filter_cons, List.filter_nil, G_flat, oX7_hasPlan, oX2_isPerson, joRI, -Int32.not_le, -Int32.not_lt, -Int64.not_le, -Int64.not_lt, i3lt, i6lt, h6, jk, eck, e34, e35, e36, e375, d2, ePf, d3, j3, jup_1, nI_1, G_roster]
            try simp (disch := omega) [-Prod.forall, -Prod.exists, -Prod.mk.injEq, -Int32.not_le, -Int32.not_lt, -Int64.not_le, -Int64.not_lt, i3lt, i6lt, h6, jk, eck, e34, e35, e36, e375, d2, ePf, d3, j3, jup_1, nI_1, G_roster]
            exact jW.mono k1 (by simp)
          · have k1 := ih (k + 1) (jup τ 37 6 (nI (k + 1))) (by omega) (by omega) he (fr.up _ rfl) (by
              rw [show k + 1 - k0 = (k - k0) + 1 by omega]
              simp only [dnR]
              rw [show k0 + (k - k0) = k by omega, if_neg d3]
              funext p
              rw [jup_1, if_neg (by omega), h40]) (jup_s _ _ _ _)
            refine jvk_ok TX2_doPlans (V := [(106, 2, 7, oX7_hasPlan), (78, 2, 2, oX2_isPerson)]) (S := []) (List.forall_mem_cons.mpr ⟨⟨mX7_hasPlan, n + 0, 1, TX7, 6, rfl, by omega, kX2_106, WX7_hasPlan, rfl, CX7_hasPlan g (n)⟩, (List.forall_mem_cons.mpr ⟨⟨mX2_isPerson, n + 0, 1, TX2, 16, rfl, by omega, kX2_78, WX2_isPerson, rfl, CX2_isPerson g (n)⟩, (fun _ h => absurd h List.not_mem_nil)⟩)⟩) (fun _ h => absurd h List.not_mem_nil) [22, 87] 20 _ _ _ _ ?_
            simp (maxSteps := 1000000) [↓Bool.cond_eq_ite, -Prod.forall, -Prod.exists, -Prod.mk.injEq, jvk, tX2_doPlans, jtb, jol, jst, jlk, jcmp, jbin, jfl, fX2, jc2, lX2, jcat, jel, lv_args, Value.category, jins, jsrt, jins2, jble, jblt, jf3, List.filter_cons, List.filter_nil, G_flat, oX7_hasPlan, oX2_isPerson, joRI, -Int32.not_le, -Int32.not_lt, -Int64.not_le, -Int64.not_lt, i3lt, i6lt, h6, c1, hr, pre, G_roster]
            try simp (disch := omega) [-Prod.forall, -Prod.exists, -Prod.mk.injEq, -Int32.not_le, -Int32.not_lt, -Int64.not_le, -Int64.not_lt, i3lt, i6lt, h6, c1, hr, pre, G_roster]
            rw [e31, if_neg (Int32.not_le.mpr d1)]
            refine jvk_ok TX2_doPlans (V := [(106, 2, 7, oX7_hasPlan), (78, 2, 2, oX2_isPerson)]) (S := []) (List.forall_mem_cons.mpr ⟨⟨mX7_hasPlan, n + 0, 1, TX7, 6, rfl, by omega, kX2_106, WX7_hasPlan, rfl, CX7_hasPlan g (n)⟩, (List.forall_mem_cons.mpr ⟨⟨mX2_isPerson, n + 0, 1, TX2, 16, rfl, by omega, kX2_78, WX2_isPerson, rfl, CX2_isPerson g (n)⟩, (fun _ h => absurd h List.not_mem_nil)⟩)⟩) (fun _ h => absurd h List.not_mem_nil) [5, 87] 60 _ _ _ _ ?_
            simp (maxSteps := 1000000) [↓Bool.cond_eq_ite, -Prod.forall, -Prod.exists, -Prod.mk.injEq, jvk, tX2_doPlans, jtb, jol, jst, jlk, jcmp, jbin, jfl, fX2, jc2, lX2, jcat, jel, lv_args, Value.category, jins, jsrt, jins2, jble, jblt, jf3, List.filter_cons, List.filter_nil, G_flat, oX7_hasPlan, oX2_isPerson, joRI, -Int32.not_le, -Int32.not_lt, -Int64.not_le, -Int64.not_lt, i3lt, i6lt, h6, jk, eck, e34, e35, e36, e375, d2, ePf, d3, jup_1, nI_1, G_roster]
            try simp (disch := omega) [-Prod.forall, -Prod.exists, -Prod.mk.injEq, -Int32.not_le, -Int32.not_lt, -Int64.not_le, -Int64.not_lt, i3lt, i6lt, h6, jk, eck, e34, e35, e36, e375, d2, ePf, d3, jup_1, nI_1, G_roster]
            exact jW.mono k1 (by simp)
        · rw [if_neg (fun z => d2 z.2)] at he
          have k1 := last τ fr (by rw [← he]; exact h40) (by rw [← he]; exact h6)
          refine jvk_ok TX2_doPlans (V := [(106, 2, 7, oX7_hasPlan), (78, 2, 2, oX2_isPerson)]) (S := []) (List.forall_mem_cons.mpr ⟨⟨mX7_hasPlan, n + 0, 1, TX7, 6, rfl, by omega, kX2_106, WX7_hasPlan, rfl, CX7_hasPlan g (n)⟩, (List.forall_mem_cons.mpr ⟨⟨mX2_isPerson, n + 0, 1, TX2, 16, rfl, by omega, kX2_78, WX2_isPerson, rfl, CX2_isPerson g (n)⟩, (fun _ h => absurd h List.not_mem_nil)⟩)⟩) (fun _ h => absurd h List.not_mem_nil) [22, 87] 20 _ _ _ _ ?_
          simp (maxSteps := 1000000) [↓Bool.cond_eq_ite, -Prod.forall, -Prod.exists, -Prod.mk.injEq, jvk, tX2_doPlans, jtb, jol, jst, jlk, jcmp, jbin, jfl, fX2, jc2, lX2, jcat, jel, lv_args, Value.category, jins, jsrt, jins2, jble, jblt, jf3, List.filter_cons, List.filter_nil, G_flat, oX7_hasPlan, oX2_isPerson, joRI, -Int32.not_le, -Int32.not_lt, -Int64.not_le, -Int64.not_lt, i3lt, i6lt, h6, c1, hr, pre, G_roster]
          try simp (disch := omega) [-Prod.forall, -Prod.exists, -Prod.mk.injEq, -Int32.not_le, -Int32.not_lt, -Int64.not_le, -Int64.not_lt, i3lt, i6lt, h6, c1, hr, pre, G_roster]
          rw [e31, if_neg (Int32.not_le.mpr d1)]
          refine jvk_ok TX2_doPlans (V := [(106, 2, 7, oX7_hasPlan), (78, 2, 2, oX2_isPerson)]) (S := []) (List.forall_mem_cons.mpr ⟨⟨mX7_hasPlan, n + 0, 1, TX7, 6, rfl, by omega, kX2_106, WX7_hasPlan, rfl, CX7_hasPlan g (n)⟩, (List.forall_mem_cons.mpr ⟨⟨mX2_isPerson, n + 0, 1, TX2, 16, rfl, by omega, kX2_78, WX2_isPerson, rfl, CX2_isPerson g (n)⟩, (fun _ h => absurd h List.not_mem_nil)⟩)⟩) (fun _ h => absurd h List.not_mem_nil) [5, 87] 60 _ _ _ _ ?_
          simp (maxSteps := 1000000) [↓Bool.cond_eq_ite, -Prod.forall, -Prod.exists, -Prod.mk.injEq, jvk, tX2_doPlans, jtb, jol, jst, jlk, jcmp, jbin, jfl, fX2, jc2, lX2, jcat, jel, lv_args, Value.category, jins, jsrt, jins2, jble, jblt, jf3, List.filter_cons, List.filter_nil, G_flat, oX7_hasPlan, oX2_isPerson, joRI, -Int32.not_le, -Int32.not_lt, -Int64.not_le, -Int64.not_lt, i3lt, i6lt, h6, jk, eck, e35, e375, d2, G_roster]
          try simp (disch := omega) [-Prod.forall, -Prod.exists, -Prod.mk.injEq, -Int32.not_le, -Int32.not_lt, -Int64.not_le, -Int64.not_lt, i3lt, i6lt, h6, jk, eck, e35, e375, d2, G_roster]
          exact k1
      · rw [if_neg (fun z => d1 z.1)] at he
        have d1' : (if nI k < σ.1 31 5 ∧ nI k < 20 then (1 : Int32) else 0) = 0 := if_neg (fun z => d1 z.1)
        have k1 := last τ fr (by rw [← he]; exact h40) (by rw [← he]; exact h6)
        refine jvk_ok TX2_doPlans (V := [(106, 2, 7, oX7_hasPlan), (78, 2, 2, oX2_isPerson)]) (S := []) (List.forall_mem_cons.mpr ⟨⟨mX7_hasPlan, n + 0, 1, TX7, 6, rfl, by omega, kX2_106, WX7_hasPlan, rfl, CX7_hasPlan g (n)⟩, (List.forall_mem_cons.mpr ⟨⟨mX2_isPerson, n + 0, 1, TX2, 16, rfl, by omega, kX2_78, WX2_isPerson, rfl, CX2_isPerson g (n)⟩, (fun _ h => absurd h List.not_mem_nil)⟩)⟩) (fun _ h => absurd h List.not_mem_nil) [22, 87] 20 _ _ _ _ ?_
        simp (maxSteps := 1000000) [↓Bool.cond_eq_ite, -Prod.forall, -Prod.exists, -Prod.mk.injEq, jvk, tX2_doPlans, jtb, jol, jst, jlk, jcmp, jbin, jfl, fX2, jc2, lX2, jcat, jel, lv_args, Value.category, jins, jsrt, jins2, jble, jblt, jf3, List.filter_cons, List.filter_nil, G_flat, oX7_hasPlan, oX2_isPerson, joRI, -Int32.not_le, -Int32.not_lt, -Int64.not_le, -Int64.not_lt, i3lt, i6lt, h6, c1, hr, pre, G_roster]
        try simp (disch := omega) [-Prod.forall, -Prod.exists, -Prod.mk.injEq, -Int32.not_le, -Int32.not_lt, -Int64.not_le, -Int64.not_lt, i3lt, i6lt, h6, c1, hr, pre, G_roster]
        rw [e31, if_pos (Int32.not_lt.mp d1)]
        refine jvk_ok TX2_doPlans (V := [(106, 2, 7, oX7_hasPlan), (78, 2, 2, oX2_isPerson)]) (S := []) (List.forall_mem_cons.mpr ⟨⟨mX7_hasPlan, n + 0, 1, TX7, 6, rfl, by omega, kX2_106, WX7_hasPlan, rfl, CX7_hasPlan g (n)⟩, (List.forall_mem_cons.mpr ⟨⟨mX2_isPerson, n + 0, 1, TX2, 16, rfl, by omega, kX2_78, WX2_isPerson, rfl, CX2_isPerson g (n)⟩, (fun _ h => absurd h List.not_mem_nil)⟩)⟩) (fun _ h => absurd h List.not_mem_nil) [5, 87] 60 _ _ _ _ ?_
        simp (maxSteps := 1000000) [↓Bool.cond_eq_ite, -Prod.forall, -Prod.exists, -Prod.mk.injEq, jvk, tX2_doPlans, jtb, jol, jst, jlk, jcmp, jbin, jfl, fX2, jc2, lX2, jcat, jel, lv_args, Value.category, jins, jsrt, jins2, jble, jblt, jf3, List.filter_cons, List.filter_nil, G_flat, oX7_hasPlan, oX2_isPerson, joRI, -Int32.not_le, -Int32.not_lt, -Int64.not_le, -Int64.not_lt, i3lt, i6lt, G_roster]
        try simp (disch := omega) [-Prod.forall, -Prod.exists, -Prod.mk.injEq, -Int32.not_le, -Int32.not_lt, -Int64.not_le, -Int64.not_lt, i3lt, i6lt, G_roster]
        exact k1
  have k0' := key (20 - k0) k0 σ (by omega) (Nat.le_refl _) eE.symm jfr.rfl (by rw [Nat.sub_self]; rfl) h6
  exact k0'
/-! Flat.empty, of the loader's flat -/
def emV (k j : Nat) : Int32 := if k = 1 then (if j = 0 then 2 else 0) else if k = 15 then -1 else 0
def emI (σ τ : jM) (K : Nat → Prop) : Prop := jfr (aFl 4) b0 σ τ ∧ (∀ j, j < 7 → τ.1 4 j = 0) ∧ ∀ k, K k → 1 ≤ k → k ≤ 19 → k ≠ 4 → ∀ j, j < fLn k → τ.1 (4 + k) j = emV k j
theorem emI_s {σ τ : jM} {k0 : Nat} {K : Nat → Prop} {x : Int32} (h : emI σ τ K) (h1 : 2 ≤ k0) (h19 : k0 ≤ 19) (hx : ∀ j, emV k0 j = x) (n : Nat) (hn : fLn k0 ≤ n) : emI σ (jfil τ (4 + k0) n x) (fun k => K k ∨ k = k0) := by
  obtain ⟨f, hf, hr⟩ := h
  refine ⟨⟨f.1, f.2.1, fun a j q => ?_⟩, fun j hj => ?_, fun k hk k1 k19 k4 j hj => ?_⟩
  · rw [jfil_1, if_neg (fun z => by rw [z.1, aFl_i (by omega) (by omega)] at q; cases q)]
    exact f.2.2 a j q
  · rw [jfil_1, if_neg (fun z => by omega)]
    exact hf j hj
  · rw [jfil_1]
    by_cases e : k = k0
    · subst e
      rw [if_pos ⟨rfl, by omega⟩, hx]
    · rw [if_neg (fun z => e (by omega))]
      exact hr k (hk.resolve_right e) k1 k19 k4 j hj
def emP (σ τ : jM) : Prop := emI σ τ (fun _ => True)
def oX2_empty : jO := joR fun a σ => (a = 4, fun v τ => v = none ∧ emP σ τ)
set_option maxRecDepth 100000 in
set_option maxHeartbeats 4000000 in
theorem CX2_empty (g : jG) (n : Nat) : jOk g (n + 1) mX2_empty oX2_empty := by
  refine joR_ok ?_
  rintro _ σ rfl
  have j3 : jin 0 3 ∧ jin 1 3 ∧ jin 2 3 := ⟨⟨by decide, by decide⟩, ⟨by decide, by decide⟩, ⟨by decide, by decide⟩⟩
  refine jCon.ofP (by decide +kernel) (by simp [lg_sl, Value.category]) (fun post hp => ?_)
  refine jvk_ok TX2_empty (V := []) (S := [(66, 2, 0, oJ7_fill_53178)]) (fun _ h => absurd h List.not_mem_nil) (List.forall_mem_cons.mpr ⟨⟨mJ7_fill_53178, n + 0, by omega, Or.inl kX2_66, WJ7_fill_53178, CJ7_fill_53178 g (n)⟩, (fun _ h => absurd h List.not_mem_nil)⟩) [56] 60 _ _ _ _ ?_
  simp (maxSteps := 1000000) [↓Bool.cond_eq_ite, -Prod.forall, -Prod.exists, -Prod.mk.injEq, jvk, tX2_empty, jtb, jol, jst, jlk, jcmp, jbin, jfl, fX2, jc2, lX2, jcat, jel, lv_args, Value.category, jins, jsrt, jins2, jble, jblt, jf3, List.filter_cons, List.filter_nil, G_flat, oJ7_fill_53178, joRI, -Int32.not_le, -Int32.not_lt, -Int64.not_le, -Int64.not_lt, i3lt, i6lt, G_lflat, j3, tn_c]
  try simp (disch := omega) [-Prod.forall, -Prod.exists, -Prod.mk.injEq, -Int32.not_le, -Int32.not_lt, -Int64.not_le, -Int64.not_lt, i3lt, i6lt, G_lflat, j3, tn_c]
  obtain ⟨τ0, e0⟩ : ∃ τ0, τ0 = jup (jup (jup (jup (jup (jup (jup (jup (jup (jup σ 4 0 0) 4 1 0) 4 2 0) 4 3 0) 4 4 0) 4 5 0) 4 6 0) 5 0 2) 5 1 0) 5 2 0 := ⟨_, rfl⟩
  rw [← e0]
  have C0 : emI σ τ0 (fun k => k = 1) := by
    refine ⟨?_, fun j hj => ?_, fun k hk k1 k19 k4 j hj => ?_⟩
    · rw [e0]
      exact (((((((((jfr.rfl.up _ rfl).up _ rfl).up _ rfl).up _ rfl).up _ rfl).up _ rfl).up _ rfl).up _ rfl).up _ rfl).up _ rfl
    · rw [e0]
      simp only [jup_1]
      have hc : j = 0 ∨ j = 1 ∨ j = 2 ∨ j = 3 ∨ j = 4 ∨ j = 5 ∨ j = 6 := by omega
      rcases hc with e | e | e | e | e | e | e <;> subst e <;> simp
    · subst hk
      rw [show fLn 1 = 3 from rfl] at hj
      rw [e0]
      simp only [jup_1]
      have hc : j = 0 ∨ j = 1 ∨ j = 2 := by omega
      rcases hc with e | e | e <;> subst e <;> simp [emV]
  refine jvk_ok TX2_empty (V := []) (S := [(66, 2, 0, oJ7_fill_53178)]) (fun _ h => absurd h List.not_mem_nil) (List.forall_mem_cons.mpr ⟨⟨mJ7_fill_53178, n + 0, by omega, Or.inl kX2_66, WJ7_fill_53178, CJ7_fill_53178 g (n)⟩, (fun _ h => absurd h List.not_mem_nil)⟩) [64] 60 _ _ _ _ ?_
  simp (maxSteps := 1000000) [↓Bool.cond_eq_ite, -Prod.forall, -Prod.exists, -Prod.mk.injEq, jvk, tX2_empty, jtb, jol, jst, jlk, jcmp, jbin, jfl, fX2, jc2, lX2, jcat, jel, lv_args, Value.category, jins, jsrt, jins2, jble, jblt, jf3, List.filter_cons, List.filter_nil, G_flat, oJ7_fill_53178, joRI, -Int32.not_le, -Int32.not_lt, -Int64.not_le, -Int64.not_lt, i3lt, i6lt, G_lflat]
  try simp (disch := omega) [-Prod.forall, -Prod.exists, -Prod.mk.injEq, -Int32.not_le, -Int32.not_lt, -Int64.not_le, -Int64.not_lt, i3lt, i6lt, G_lflat]
  have C1 : emI σ (jfil τ0 6 10 0) _ := emI_s (k0 := 2) (x := 0) C0 (by omega) (by omega) (fun j => by simp [emV]) 10 (by decide)
  generalize jfil τ0 6 10 0 = τ1 at C1 ⊢
  refine jvk_ok TX2_empty (V := []) (S := [(66, 2, 0, oJ7_fill_53178)]) (fun _ h => absurd h List.not_mem_nil) (List.forall_mem_cons.mpr ⟨⟨mJ7_fill_53178, n + 0, by omega, Or.inl kX2_66, WJ7_fill_53178, CJ7_fill_53178 g (n)⟩, (fun _ h => absurd h List.not_mem_nil)⟩) [72] 60 _ _ _ _ ?_
  simp (maxSteps := 1000000) [↓Bool.cond_eq_ite, -Prod.forall, -Prod.exists, -Prod.mk.injEq, jvk, tX2_empty, jtb, jol, jst, jlk, jcmp, jbin, jfl, fX2, jc2, lX2, jcat, jel, lv_args, Value.category, jins, jsrt, jins2, jble, jblt, jf3, List.filter_cons, List.filter_nil, G_flat, oJ7_fill_53178, joRI, -Int32.not_le, -Int32.not_lt, -Int64.not_le, -Int64.not_lt, i3lt, i6lt, G_lflat]
  try simp (disch := omega) [-Prod.forall, -Prod.exists, -Prod.mk.injEq, -Int32.not_le, -Int32.not_lt, -Int64.not_le, -Int64.not_lt, i3lt, i6lt, G_lflat]
  have C2 : emI σ (jfil τ1 7 10 0) _ := emI_s (k0 := 3) (x := 0) C1 (by omega) (by omega) (fun j => by simp [emV]) 10 (by decide)
  generalize jfil τ1 7 10 0 = τ2 at C2 ⊢
  have key := jloop (P := fun p => ∀ τ : jM, emI σ τ (fun k => k ≤ 3 ∨ 5 ≤ k ∧ k < 5 + p) → jW g mX2_empty (n + 1) post 74 [(0, .ref 4), (1, .int (nI p))] [] τ) (N := 10) (fun τ C => by
    have c1 : (10 : Int32) ≤ nI 10 := by decide
    refine jvk_ok TX2_empty (V := []) (S := [(66, 2, 0, oJ7_fill_53178)]) (fun _ h => absurd h List.not_mem_nil) (List.forall_mem_cons.mpr ⟨⟨mJ7_fill_53178, n + 0, by omega, Or.inl kX2_66, WJ7_fill_53178, CJ7_fill_53178 g (n)⟩, (fun _ h => absurd h List.not_mem_nil)⟩) [104] 60 _ _ _ _ ?_
    simp (maxSteps := 1000000) [↓Bool.cond_eq_ite, -Prod.forall, -Prod.exists, -Prod.mk.injEq, jvk, tX2_empty, jtb, jol, jst, jlk, jcmp, jbin, jfl, fX2, jc2, lX2, jcat, jel, lv_args, Value.category, jins, jsrt, jins2, jble, jblt, jf3, List.filter_cons, List.filter_nil, G_flat, oJ7_fill_53178, joRI, -Int32.not_le, -Int32.not_lt, -Int64.not_le, -Int64.not_lt, i3lt, i6lt, c1, G_lflat]
    try simp (disch := omega) [-Prod.forall, -Prod.exists, -Prod.mk.injEq, -Int32.not_le, -Int32.not_lt, -Int64.not_le, -Int64.not_lt, i3lt, i6lt, c1, G_lflat]
    have C3 : emI σ (jfil τ 19 10 (-1)) _ := emI_s (k0 := 15) (x := -1) C (by omega) (by omega) (fun j => by simp [emV]) 10 (by decide)
    generalize jfil τ 19 10 (-1) = τ3 at C3 ⊢
    refine jvk_ok TX2_empty (V := []) (S := [(66, 2, 0, oJ7_fill_53178)]) (fun _ h => absurd h List.not_mem_nil) (List.forall_mem_cons.mpr ⟨⟨mJ7_fill_53178, n + 0, by omega, Or.inl kX2_66, WJ7_fill_53178, CJ7_fill_53178 g (n)⟩, (fun _ h => absurd h List.not_mem_nil)⟩) [112] 60 _ _ _ _ ?_
    simp (maxSteps := 1000000) [↓Bool.cond_eq_ite, -Prod.forall, -Prod.exists, -Prod.mk.injEq, jvk, tX2_empty, jtb, jol, jst, jlk, jcmp, jbin, jfl, fX2, jc2, lX2, jcat, jel, lv_args, Value.category, jins, jsrt, jins2, jble, jblt, jf3, List.filter_cons, List.filter_nil, G_flat, oJ7_fill_53178, joRI, -Int32.not_le, -Int32.not_lt, -Int64.not_le, -Int64.not_lt, i3lt, i6lt, G_lflat]
    try simp (disch := omega) [-Prod.forall, -Prod.exists, -Prod.mk.injEq, -Int32.not_le, -Int32.not_lt, -Int64.not_le, -Int64.not_lt, i3lt, i6lt, G_lflat]
    have C4 : emI σ (jfil τ3 20 10 0) _ := emI_s (k0 := 16) (x := 0) C3 (by omega) (by omega) (fun j => by simp [emV]) 10 (by decide)
    generalize jfil τ3 20 10 0 = τ4 at C4 ⊢
    refine jvk_ok TX2_empty (V := []) (S := [(66, 2, 0, oJ7_fill_53178)]) (fun _ h => absurd h List.not_mem_nil) (List.forall_mem_cons.mpr ⟨⟨mJ7_fill_53178, n + 0, by omega, Or.inl kX2_66, WJ7_fill_53178, CJ7_fill_53178 g (n)⟩, (fun _ h => absurd h List.not_mem_nil)⟩) [120] 60 _ _ _ _ ?_
    simp (maxSteps := 1000000) [↓Bool.cond_eq_ite, -Prod.forall, -Prod.exists, -Prod.mk.injEq, jvk, tX2_empty, jtb, jol, jst, jlk, jcmp, jbin, jfl, fX2, jc2, lX2, jcat, jel, lv_args, Value.category, jins, jsrt, jins2, jble, jblt, jf3, List.filter_cons, List.filter_nil, G_flat, oJ7_fill_53178, joRI, -Int32.not_le, -Int32.not_lt, -Int64.not_le, -Int64.not_lt, i3lt, i6lt, G_lflat]
    try simp (disch := omega) [-Prod.forall, -Prod.exists, -Prod.mk.injEq, -Int32.not_le, -Int32.not_lt, -Int64.not_le, -Int64.not_lt, i3lt, i6lt, G_lflat]
    have C5 : emI σ (jfil τ4 21 10 0) _ := emI_s (k0 := 17) (x := 0) C4 (by omega) (by omega) (fun j => by simp [emV]) 10 (by decide)
    generalize jfil τ4 21 10 0 = τ5 at C5 ⊢
    refine jvk_ok TX2_empty (V := []) (S := [(66, 2, 0, oJ7_fill_53178)]) (fun _ h => absurd h List.not_mem_nil) (List.forall_mem_cons.mpr ⟨⟨mJ7_fill_53178, n + 0, by omega, Or.inl kX2_66, WJ7_fill_53178, CJ7_fill_53178 g (n)⟩, (fun _ h => absurd h List.not_mem_nil)⟩) [128] 60 _ _ _ _ ?_
    simp (maxSteps := 1000000) [↓Bool.cond_eq_ite, -Prod.forall, -Prod.exists, -Prod.mk.injEq, jvk, tX2_empty, jtb, jol, jst, jlk, jcmp, jbin, jfl, fX2, jc2, lX2, jcat, jel, lv_args, Value.category, jins, jsrt, jins2, jble, jblt, jf3, List.filter_cons, List.filter_nil, G_flat, oJ7_fill_53178, joRI, -Int32.not_le, -Int32.not_lt, -Int64.not_le, -Int64.not_lt, i3lt, i6lt, G_lflat]
    try simp (disch := omega) [-Prod.forall, -Prod.exists, -Prod.mk.injEq, -Int32.not_le, -Int32.not_lt, -Int64.not_le, -Int64.not_lt, i3lt, i6lt, G_lflat]
    have C6 : emI σ (jfil τ5 22 10 0) _ := emI_s (k0 := 18) (x := 0) C5 (by omega) (by omega) (fun j => by simp [emV]) 10 (by decide)
    generalize jfil τ5 22 10 0 = τ6 at C6 ⊢
    refine jvk_ok TX2_empty (V := []) (S := [(66, 2, 0, oJ7_fill_53178)]) (fun _ h => absurd h List.not_mem_nil) (List.forall_mem_cons.mpr ⟨⟨mJ7_fill_53178, n + 0, by omega, Or.inl kX2_66, WJ7_fill_53178, CJ7_fill_53178 g (n)⟩, (fun _ h => absurd h List.not_mem_nil)⟩) [136] 60 _ _ _ _ ?_
    simp (maxSteps := 1000000) [↓Bool.cond_eq_ite, -Prod.forall, -Prod.exists, -Prod.mk.injEq, jvk, tX2_empty, jtb, jol, jst, jlk, jcmp, jbin, jfl, fX2, jc2, lX2, jcat, jel, lv_args, Value.category, jins, jsrt, jins2, jble, jblt, jf3, List.filter_cons, List.filter_nil, G_flat, oJ7_fill_53178, joRI, -Int32.not_le, -Int32.not_lt, -Int64.not_le, -Int64.not_lt, i3lt, i6lt, G_lflat]
    try simp (disch := omega) [-Prod.forall, -Prod.exists, -Prod.mk.injEq, -Int32.not_le, -Int32.not_lt, -Int64.not_le, -Int64.not_lt, i3lt, i6lt, G_lflat]
    have C7 : emI σ (jfil τ6 23 10 0) _ := emI_s (k0 := 19) (x := 0) C6 (by omega) (by omega) (fun j => by simp [emV]) 10 (by decide)
    generalize jfil τ6 23 10 0 = τ7 at C7 ⊢
    refine jvk_ok TX2_empty (V := []) (S := [(66, 2, 0, oJ7_fill_53178)]) (fun _ h => absurd h List.not_mem_nil) (List.forall_mem_cons.mpr ⟨⟨mJ7_fill_53178, n + 0, by omega, Or.inl kX2_66, WJ7_fill_53178, CJ7_fill_53178 g (n)⟩, (fun _ h => absurd h List.not_mem_nil)⟩) [] 10 _ _ _ _ ?_
    simp (maxSteps := 1000000) [↓Bool.cond_eq_ite, -Prod.forall, -Prod.exists, -Prod.mk.injEq, jvk, tX2_empty, jtb, jol, jst, jlk, jcmp, jbin, jfl, fX2, jc2, lX2, jcat, jel, lv_args, Value.category, jins, jsrt, jins2, jble, jblt, jf3, List.filter_cons, List.filter_nil, G_flat, oJ7_fill_53178, joRI, -Int32.not_le, -Int32.not_lt, -Int64.not_le, -Int64.not_lt, i3lt, i6lt]
    try simp (disch := omega) [-Prod.forall, -Prod.exists, -Prod.mk.injEq, -Int32.not_le, -Int32.not_lt, -Int64.not_le, -Int64.not_lt, i3lt, i6lt]
    exact hp _ _ ⟨rfl, C7.1, C7.2.1, fun k _ k1 k19 k4 j hj => C7.2.2 k (by omega) k1 k19 k4 j hj⟩) (fun p hpN ih τ C => by
    have c1 : ¬ (10 : Int32) ≤ nI p := nI_ge (b := 10) hpN (by decide)
    have jp : jin (nI p) 10 := jin_nI hpN (by decide)
    have ecp : (nI p).toNatClampNeg = p := nI_clamp (by omega)
    obtain ⟨ap, lp⟩ := wL_row p hpN
    have l6 : fLn (5 + p) = 6 := by unfold fLn; rw [if_neg (by omega), if_pos (by omega)]
    have C3 := emI_s (k0 := 5 + p) (x := 0) C (by omega) (by omega) (fun j => by unfold emV; rw [if_neg (by omega), if_neg (by omega)]) 6 (by omega)
    rw [show 4 + (5 + p) = 9 + p by omega] at C3
    have k1 := ih _ ⟨C3.1, C3.2.1, fun k hk k1 k19 k4 j hj => C3.2.2 k (by omega) k1 k19 k4 j hj⟩
    refine jvk_ok TX2_empty (V := []) (S := [(66, 2, 0, oJ7_fill_53178)]) (fun _ h => absurd h List.not_mem_nil) (List.forall_mem_cons.mpr ⟨⟨mJ7_fill_53178, n + 0, by omega, Or.inl kX2_66, WJ7_fill_53178, CJ7_fill_53178 g (n)⟩, (fun _ h => absurd h List.not_mem_nil)⟩) [74] 60 _ _ _ _ ?_
    simp (maxSteps := 1000000) [↓Bool.cond_eq_ite, -Prod.forall, -Prod.exists, -Prod.mk.injEq, jvk, tX2_empty, jtb, jol, jst, jlk, jcmp, jbin, jfl, fX2, jc2, lX2, jcat, jel, lv_args, Value.category, jins, jsrt, jins2, jble, jblt, jf3, List.filter_cons, List.filter_nil, G_flat, oJ7_fill_53178, joRI, -Int32.not_le, -Int32.not_lt, -Int64.not_le, -Int64.not_lt, i3lt, i6lt, c1, jp, ecp, G_lflat, ap, lp, nI_1]
    try simp (disch := omega) [-Prod.forall, -Prod.exists, -Prod.mk.injEq, -Int32.not_le, -Int32.not_lt, -Int64.not_le, -Int64.not_lt, i3lt, i6lt, c1, jp, ecp, G_lflat, ap, lp, nI_1]
    exact k1)
  have k0 := key τ2 ⟨C2.1, C2.2.1, fun k hk k1 k19 k4 j hj => C2.2.2 k (by omega) k1 k19 k4 j hj⟩
  rw [nI_0] at k0
  refine jvk_ok TX2_empty (V := []) (S := [(66, 2, 0, oJ7_fill_53178)]) (fun _ h => absurd h List.not_mem_nil) (List.forall_mem_cons.mpr ⟨⟨mJ7_fill_53178, n + 0, by omega, Or.inl kX2_66, WJ7_fill_53178, CJ7_fill_53178 g (n)⟩, (fun _ h => absurd h List.not_mem_nil)⟩) [74] 10 _ _ _ _ ?_
  simp (maxSteps := 1000000) [↓Bool.cond_eq_ite, -Prod.forall, -Prod.exists, -Prod.mk.injEq, jvk, tX2_empty, jtb, jol, jst, jlk, jcmp, jbin, jfl, fX2, jc2, lX2, jcat, jel, lv_args, Value.category, jins, jsrt, jins2, jble, jblt, jf3, List.filter_cons, List.filter_nil, G_flat, oJ7_fill_53178, joRI, -Int32.not_le, -Int32.not_lt, -Int64.not_le, -Int64.not_lt, i3lt, i6lt]
  try simp (disch := omega) [-Prod.forall, -Prod.exists, -Prod.mk.injEq, -Int32.not_le, -Int32.not_lt, -Int64.not_le, -Int64.not_lt, i3lt, i6lt]
  exact k0
