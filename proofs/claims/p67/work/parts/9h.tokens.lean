/-! Tokens: name, number, append -/
theorem en_900 {σ : jM} {s : Nat} (hT : kT σ) (ht : toP σ s) : s ≤ en (σ.1 3) (kLn σ) s ∧ en (σ.1 3) (kLn σ) s ≤ kLn σ ∧ kLn σ ≤ 900 := by
  have h := en_le (b := σ.1 3) ht.1
  exact ⟨h.1, h.2.1, (kT_n hT).1⟩
def oX10_name : jO := joR fun a σ => (a = 2 ∧ kT σ ∧ ∃ s, toP σ s, fun v τ => τ = σ ∧ ∀ s, toP σ s → v = some (.int (if isN (σ.1 3) (kLn σ) s = true then nI (nm (σ.1 3) (kLn σ) s) else 0)))
theorem toP_inj {σ : jM} {s t : Nat} (hT : kT σ) (h : toP σ s) (h2 : toP σ t) : s = t := by
  have hl := (kT_n hT).1
  have e := h.2.1.symm.trans h2.2.1
  exact (nI_eq (by have := h.1; omega) (by have := h2.1; omega)).mp e
set_option maxRecDepth 100000 in
set_option maxHeartbeats 4000000 in
theorem CX10_name (g : jG) (n : Nat) : jOk g (n + 0) mX10_name oX10_name := by
  refine joR_ok ?_
  rintro _ σ ⟨rfl, hT, s, hs⟩
  obtain ⟨n1, n2, n9⟩ := en_900 hT hs
  obtain ⟨hsl, h3, h4, h5⟩ := id hs
  obtain ⟨K, eK⟩ : ∃ K, K = kn (σ.1 3) (kLn σ) s := ⟨_, rfl⟩
  obtain ⟨E, eE⟩ : ∃ E, E = en (σ.1 3) (kLn σ) s := ⟨_, rfl⟩
  have K5 := kn_5 (σ.1 3) (kLn σ) s
  rw [← eK] at K5 h5
  rw [← eE] at h4 n1 n2
  have done : ∀ (post : Option Value → jM → Prop), (∀ v τ, τ = σ ∧ (∀ s, toP σ s → v = some (.int (if isN (σ.1 3) (kLn σ) s = true then nI (nm (σ.1 3) (kLn σ) s) else 0))) → post v τ) → ∀ x, x = (if isN (σ.1 3) (kLn σ) s = true then nI (nm (σ.1 3) (kLn σ) s) else 0) → post (some (.int x)) σ := fun post hp x hx => hp _ _ ⟨rfl, fun t ht => by rw [← toP_inj hT hs ht, hx]⟩
  have es : nI E - nI s = nI (E - s) := pk_sub n1
  have c2 : (nI K = 2) = (K = 2) := propext (nI_eq (b := 2) (by omega) (by decide))
  by_cases k2 : K = 2
  · have z2 : nI K = 2 := by rw [k2]; rfl
    by_cases l6 : E ≤ s + 6
    · have c6 : nI (E - s) ≤ 6 := nI_le (b := 6) (by omega) (by decide)
      have hisN : isN (σ.1 3) (kLn σ) s = true := by unfold isN; rw [← eK, ← eE, decide_eq_true_eq]; exact ⟨k2, l6⟩
      have e6 : nI s + 6 = nI (s + 6) := nI_add s 6
      have hcl : ∀ i, s + i < E → cl (σ.1 3) (s + i) < 32 ∧ 1 ≤ cl (σ.1 3) (s + i) ∧ σ.1 3 (s + i) = nI (96 + cl (σ.1 3) (s + i)) := fun i hi => by
        have := cl_ok (en_cl (b := σ.1 3) (len := kLn σ) (s := s) (i := i) (by rw [← eK]; exact k2) (by rw [← eE]; omega))
        exact ⟨by omega, this.2.1, this.2.2.2⟩
      refine jCon.ofP (by decide +kernel) (by simp [lg_sl, Value.category]) (fun post hp => ?_)
      refine jvk_ok TX10_name (V := []) (S := []) (fun _ h => absurd h List.not_mem_nil) (fun _ h => absurd h List.not_mem_nil) [31] 40 _ _ _ _ ?_
      simp (maxSteps := 1000000) [↓Bool.cond_eq_ite, -Prod.forall, -Prod.exists, -Prod.mk.injEq, jvk, tX10_name, jtb, jol, jst, jlk, jcmp, jbin, jfl, fX10, jc2, lX10, jcat, jel, lv_args, Value.category, jins, jsrt, jins2, jble, jblt, jf3, List.filter_cons, List.filter_nil, G_loader, -Int32.not_le, -Int32.not_lt, -Int64.not_le, -Int64.not_lt, i3lt, i6lt, h3, h4, h5, z2, es, c6]
      try simp (disch := omega) [-Prod.forall, -Prod.exists, -Prod.mk.injEq, -Int32.not_le, -Int32.not_lt, -Int64.not_le, -Int64.not_lt, i3lt, i6lt, h3, h4, h5, z2, es, c6]
      have hk := done post hp (nI (nm (σ.1 3) (kLn σ) s)) (by rw [if_pos hisN])
      have key := jloop (P := fun i => jW g mX10_name n post 31 [(0, .ref 2), (1, .int (nI (nmN (σ.1 3) s E i))), (2, .int (nI (s + i)))] [] σ) (N := 6) (by
        have hle : nI (s + 6) ≤ nI (s + 6) := nI_le (Nat.le_refl _) (by omega)
        have enm : nmN (σ.1 3) s E 6 = nm (σ.1 3) (kLn σ) s := by unfold nm; rw [← eE]
        rw [enm]
        refine jvk_ok TX10_name (V := []) (S := []) (fun _ h => absurd h List.not_mem_nil) (fun _ h => absurd h List.not_mem_nil) [31] 20 _ _ _ _ ?_
        simp (maxSteps := 1000000) [↓Bool.cond_eq_ite, -Prod.forall, -Prod.exists, -Prod.mk.injEq, jvk, tX10_name, jtb, jol, jst, jlk, jcmp, jbin, jfl, fX10, jc2, lX10, jcat, jel, lv_args, Value.category, jins, jsrt, jins2, jble, jblt, jf3, List.filter_cons, List.filter_nil, G_loader, -Int32.not_le, -Int32.not_lt, -Int64.not_le, -Int64.not_lt, i3lt, i6lt, h3, e6, hle]
        try simp (disch := omega) [-Prod.forall, -Prod.exists, -Prod.mk.injEq, -Int32.not_le, -Int32.not_lt, -Int64.not_le, -Int64.not_lt, i3lt, i6lt, h3, e6, hle]
        exact hk) (fun i hi ih => by
        have hlt : ¬ nI (s + 6) ≤ nI (s + i) := nI_ge (by omega) (by omega)
        have hM := nmN_lt (b := σ.1 3) (s := s) (e := E) (fun j hj => (hcl j hj).1) i
        have hM2 : (2 : Nat) ^ (5 * i) ≤ 2 ^ 25 := Nat.pow_le_pow_right (by decide) (by omega)
        have p25 : (2 : Nat) ^ 25 = 33554432 := by decide
        have eS1 : nI (nmN (σ.1 3) s E i) <<< ((5 : Int32) &&& 31) = nI (nmN (σ.1 3) s E i * 32) := pk_shlN ((5 : Int32) &&& 31) 5 (by decide) (by omega)
        have eS2 : nI (nmN (σ.1 3) s E i) <<< (5 : Int32) = nI (nmN (σ.1 3) s E i * 32) := pk_shlN (5 : Int32) 5 (by decide) (by omega)
        have ei1 : nI (s + i) + 1 = nI (s + (i + 1)) := nI_1 _
        simp only [nmN] at ih
        by_cases d : s + i < E
        · obtain ⟨l1, l2, l3⟩ := hcl i d
          obtain ⟨c, ec⟩ : ∃ c, c = cl (σ.1 3) (s + i) := ⟨_, rfl⟩
          rw [if_pos d, ← ec] at ih
          rw [← ec] at l1 l2 l3
          have hltE : ¬ nI E ≤ nI (s + i) := nI_ge d (by omega)
          have jq : jin (nI (s + i)) 900 := jin_nI (by omega) (by decide)
          have ecq : (nI (s + i)).toNatClampNeg = s + i := nI_clamp (by omega)
          have el : nI (96 + c) - 97 + 1 = nI c := by
            have h1 : nI (96 + c) - 97 = nI (96 + c - 97) := pk_sub (b := 97) (by omega)
            rw [h1, nI_1]
            congr 1
            omega
          have eo : nI (nmN (σ.1 3) s E i * 32) ||| nI c = nI (nmN (σ.1 3) s E i * 32 + c) := by
            rw [Nat.mul_comm]
            exact nI_orS (k := 5) _ (by omega)
          refine jvk_ok TX10_name (V := []) (S := []) (fun _ h => absurd h List.not_mem_nil) (fun _ h => absurd h List.not_mem_nil) [31] 60 _ _ _ _ ?_
          simp (maxSteps := 1000000) [↓Bool.cond_eq_ite, -Prod.forall, -Prod.exists, -Prod.mk.injEq, jvk, tX10_name, jtb, jol, jst, jlk, jcmp, jbin, jfl, fX10, jc2, lX10, jcat, jel, lv_args, Value.category, jins, jsrt, jins2, jble, jblt, jf3, List.filter_cons, List.filter_nil, G_loader, -Int32.not_le, -Int32.not_lt, -Int64.not_le, -Int64.not_lt, i3lt, i6lt, h3, h4, e6, hlt, eS1, eS2, hltE, jq, ecq, l3, el, eo, ei1]
          try simp (disch := omega) [-Prod.forall, -Prod.exists, -Prod.mk.injEq, -Int32.not_le, -Int32.not_lt, -Int64.not_le, -Int64.not_lt, i3lt, i6lt, h3, h4, e6, hlt, eS1, eS2, hltE, jq, ecq, l3, el, eo, ei1]
          exact ih
        · rw [if_neg d, Nat.add_zero] at ih
          have hltE : nI E ≤ nI (s + i) := nI_le (by omega) (by omega)
          have eo : nI (nmN (σ.1 3) s E i * 32) ||| 0 = nI (nmN (σ.1 3) s E i * 32) := by
            have := nI_or (nmN (σ.1 3) s E i * 32) 0
            rw [Nat.or_zero] at this
            exact this
          refine jvk_ok TX10_name (V := []) (S := []) (fun _ h => absurd h List.not_mem_nil) (fun _ h => absurd h List.not_mem_nil) [31] 60 _ _ _ _ ?_
          simp (maxSteps := 1000000) [↓Bool.cond_eq_ite, -Prod.forall, -Prod.exists, -Prod.mk.injEq, jvk, tX10_name, jtb, jol, jst, jlk, jcmp, jbin, jfl, fX10, jc2, lX10, jcat, jel, lv_args, Value.category, jins, jsrt, jins2, jble, jblt, jf3, List.filter_cons, List.filter_nil, G_loader, -Int32.not_le, -Int32.not_lt, -Int64.not_le, -Int64.not_lt, i3lt, i6lt, h3, h4, e6, hlt, eS1, eS2, hltE, eo, ei1]
          try simp (disch := omega) [-Prod.forall, -Prod.exists, -Prod.mk.injEq, -Int32.not_le, -Int32.not_lt, -Int64.not_le, -Int64.not_lt, i3lt, i6lt, h3, h4, e6, hlt, eS1, eS2, hltE, eo, ei1]
          exact ih)
      exact key
    · have c6 : ¬ nI (E - s) ≤ 6 := nI_ge (a := 6) (by omega) (by omega)
      have hisN : ¬ isN (σ.1 3) (kLn σ) s = true := by unfold isN; rw [← eK, ← eE, decide_eq_true_eq]; exact fun z => l6 z.2
      refine jCon.ofP (by decide +kernel) (by simp [lg_sl, Value.category]) (fun post hp => ?_)
      refine jvk_ok TX10_name (V := []) (S := []) (fun _ h => absurd h List.not_mem_nil) (fun _ h => absurd h List.not_mem_nil) [] 40 _ _ _ _ ?_
      simp (maxSteps := 1000000) [↓Bool.cond_eq_ite, -Prod.forall, -Prod.exists, -Prod.mk.injEq, jvk, tX10_name, jtb, jol, jst, jlk, jcmp, jbin, jfl, fX10, jc2, lX10, jcat, jel, lv_args, Value.category, jins, jsrt, jins2, jble, jblt, jf3, List.filter_cons, List.filter_nil, G_loader, -Int32.not_le, -Int32.not_lt, -Int64.not_le, -Int64.not_lt, i3lt, i6lt, h3, h4, h5, z2, es, c6]
      try simp (disch := omega) [-Prod.forall, -Prod.exists, -Prod.mk.injEq, -Int32.not_le, -Int32.not_lt, -Int64.not_le, -Int64.not_lt, i3lt, i6lt, h3, h4, h5, z2, es, c6]
      exact done post hp 0 (by rw [if_neg hisN])
  · have z2 : ¬ nI K = 2 := by rw [c2]; exact k2
    have hisN : ¬ isN (σ.1 3) (kLn σ) s = true := by unfold isN; rw [← eK, ← eE, decide_eq_true_eq]; exact fun z => k2 z.1
    refine jCon.ofP (by decide +kernel) (by simp [lg_sl, Value.category]) (fun post hp => ?_)
    refine jvk_ok TX10_name (V := []) (S := []) (fun _ h => absurd h List.not_mem_nil) (fun _ h => absurd h List.not_mem_nil) [] 40 _ _ _ _ ?_
    simp (maxSteps := 1000000) [↓Bool.cond_eq_ite, -Prod.forall, -Prod.exists, -Prod.mk.injEq, jvk, tX10_name, jtb, jol, jst, jlk, jcmp, jbin, jfl, fX10, jc2, lX10, jcat, jel, lv_args, Value.category, jins, jsrt, jins2, jble, jblt, jf3, List.filter_cons, List.filter_nil, G_loader, -Int32.not_le, -Int32.not_lt, -Int64.not_le, -Int64.not_lt, i3lt, i6lt, h5, z2]
    try simp (disch := omega) [-Prod.forall, -Prod.exists, -Prod.mk.injEq, -Int32.not_le, -Int32.not_lt, -Int64.not_le, -Int64.not_lt, i3lt, i6lt, h5, z2]
    exact done post hp 0 (by rw [if_neg hisN])
def oX10_number : jO := joR fun a σ => (a = 2 ∧ kT σ ∧ ∃ s, toP σ s ∧ kn (σ.1 3) (kLn σ) s = 3, fun v τ => τ = σ ∧ ∀ s, toP σ s → v = some (.int (nI (nu (σ.1 3) (kLn σ) s))))
set_option maxRecDepth 100000 in
set_option maxHeartbeats 4000000 in
theorem CX10_number (g : jG) (n : Nat) : jOk g (n + 1) mX10_number oX10_number := by
  refine joR_ok ?_
  rintro _ σ ⟨rfl, hT, s, hs, hk3⟩
  obtain ⟨n1, n2, n9⟩ := en_900 hT hs
  obtain ⟨hsl, h3, h4, h5⟩ := id hs
  obtain ⟨E, eE⟩ : ∃ E, E = en (σ.1 3) (kLn σ) s := ⟨_, rfl⟩
  rw [← eE] at h4 n1 n2
  have hcd : ∀ i, s + i < E → cd (σ.1 3) (s + i) ≤ 9 ∧ σ.1 3 (s + i) = nI (48 + cd (σ.1 3) (s + i)) := fun i hi => by
    have := cd_ok (en_cd (b := σ.1 3) (len := kLn σ) (s := s) (i := i) hk3 (by rw [← eE]; omega))
    exact ⟨this.2.1, this.2.2⟩
  refine jCon.ofP (by decide +kernel) (by simp [lg_sl, Value.category]) (fun post hp => ?_)
  refine jvk_ok TX10_number (V := []) (S := [(31, 2, 0, oJ9_min_7cf53)]) (fun _ h => absurd h List.not_mem_nil) (List.forall_mem_cons.mpr ⟨⟨mJ9_min_7cf53, n + 0, by omega, Or.inl kX10_31, WJ9_min_7cf53, CJ9_min_7cf53 g (n)⟩, (fun _ h => absurd h List.not_mem_nil)⟩) [7] 20 _ _ _ _ ?_
  simp (maxSteps := 1000000) [↓Bool.cond_eq_ite, -Prod.forall, -Prod.exists, -Prod.mk.injEq, jvk, tX10_number, jtb, jol, jst, jlk, jcmp, jbin, jfl, fX10, jc2, lX10, jcat, jel, lv_args, Value.category, jins, jsrt, jins2, jble, jblt, jf3, List.filter_cons, List.filter_nil, G_loader, oJ9_min_7cf53, joII, -Int32.not_le, -Int32.not_lt, -Int64.not_le, -Int64.not_lt, i3lt, i6lt, h3]
  try simp (disch := omega) [-Prod.forall, -Prod.exists, -Prod.mk.injEq, -Int32.not_le, -Int32.not_lt, -Int64.not_le, -Int64.not_lt, i3lt, i6lt, h3]
  have hk : post (some (.int (nI (nu (σ.1 3) (kLn σ) s)))) σ := hp _ _ ⟨rfl, fun t ht => by rw [← toP_inj hT hs ht]⟩
  have key := jloop (P := fun i => jW g mX10_number (n + 1) post 7 [(0, .ref 2), (1, .int (nI (nuN (σ.1 3) s i))), (2, .int (nI (s + i)))] [] σ) (N := E - s) (by
    have hle : nI E ≤ nI (s + (E - s)) := nI_le (by omega) (by omega)
    have enu : nuN (σ.1 3) s (E - s) = nu (σ.1 3) (kLn σ) s := by unfold nu; rw [← eE]
    rw [enu]
    refine jvk_ok TX10_number (V := []) (S := [(31, 2, 0, oJ9_min_7cf53)]) (fun _ h => absurd h List.not_mem_nil) (List.forall_mem_cons.mpr ⟨⟨mJ9_min_7cf53, n + 0, by omega, Or.inl kX10_31, WJ9_min_7cf53, CJ9_min_7cf53 g (n)⟩, (fun _ h => absurd h List.not_mem_nil)⟩) [7] 20 _ _ _ _ ?_
    simp (maxSteps := 1000000) [↓Bool.cond_eq_ite, -Prod.forall, -Prod.exists, -Prod.mk.injEq, jvk, tX10_number, jtb, jol, jst, jlk, jcmp, jbin, jfl, fX10, jc2, lX10, jcat, jel, lv_args, Value.category, jins, jsrt, jins2, jble, jblt, jf3, List.filter_cons, List.filter_nil, G_loader, oJ9_min_7cf53, joII, -Int32.not_le, -Int32.not_lt, -Int64.not_le, -Int64.not_lt, i3lt, i6lt, h4, hle]
    try simp (disch := omega) [-Prod.forall, -Prod.exists, -Prod.mk.injEq, -Int32.not_le, -Int32.not_lt, -Int64.not_le, -Int64.not_lt, i3lt, i6lt, h4, hle]
    exact hk) (fun i hi ih => by
    have hlt : ¬ nI E ≤ nI (s + i) := nI_ge (by omega) (by omega)
    obtain ⟨l1, l3⟩ := hcd i (by omega)
    obtain ⟨c, ec⟩ : ∃ c, c = cd (σ.1 3) (s + i) := ⟨_, rfl⟩
    have hv := nuN_le (σ.1 3) s i
    obtain ⟨V, eV⟩ : ∃ V, V = nuN (σ.1 3) s i := ⟨_, rfl⟩
    simp only [nuN] at ih
    rw [← ec] at l1 l3 ih
    rw [← eV] at hv ih ⊢
    have jq : jin (nI (s + i)) 900 := jin_nI (by omega) (by decide)
    have ecq : (nI (s + i)).toNatClampNeg = s + i := nI_clamp (by omega)
    have e1 : nI V * 10 = nI (V * 10) := pk_mul V 10
    have e2 : nI (V * 10) + nI (48 + c) = nI (V * 10 + (48 + c)) := nI_add _ _
    have e3 : nI (V * 10 + (48 + c)) - 48 = nI (10 * V + c) := by
      have h1 : nI (V * 10 + (48 + c)) - 48 = nI (V * 10 + (48 + c) - 48) := pk_sub (b := 48) (by omega)
      rw [h1]
      congr 1
      omega
    have em : (if nI (10 * V + c) ≤ 1000000 then nI (10 * V + c) else 1000000) = nI (min (10 * V + c) 1000000) := by
      by_cases z : 10 * V + c ≤ 1000000
      · rw [if_pos (show nI (10 * V + c) ≤ (1000000 : Int32) from nI_le (b := 1000000) z (by decide)), Nat.min_eq_left z]
      · rw [if_neg (show ¬ nI (10 * V + c) ≤ (1000000 : Int32) from nI_ge (a := 1000000) (by omega) (by omega)), Nat.min_eq_right (by omega)]; rfl
    have ei1 : nI (s + i) + 1 = nI (s + (i + 1)) := nI_1 _
    refine jvk_ok TX10_number (V := []) (S := [(31, 2, 0, oJ9_min_7cf53)]) (fun _ h => absurd h List.not_mem_nil) (List.forall_mem_cons.mpr ⟨⟨mJ9_min_7cf53, n + 0, by omega, Or.inl kX10_31, WJ9_min_7cf53, CJ9_min_7cf53 g (n)⟩, (fun _ h => absurd h List.not_mem_nil)⟩) [7] 60 _ _ _ _ ?_
    simp (maxSteps := 1000000) [↓Bool.cond_eq_ite, -Prod.forall, -Prod.exists, -Prod.mk.injEq, jvk, tX10_number, jtb, jol, jst, jlk, jcmp, jbin, jfl, fX10, jc2, lX10, jcat, jel, lv_args, Value.category, jins, jsrt, jins2, jble, jblt, jf3, List.filter_cons, List.filter_nil, G_loader, oJ9_min_7cf53, joII, -Int32.not_le, -Int32.not_lt, -Int64.not_le, -Int64.not_lt, i3lt, i6lt, h4, hlt, jq, ecq, l3, e1, e2, e3, em, ei1]
    try simp (disch := omega) [-Prod.forall, -Prod.exists, -Prod.mk.injEq, -Int32.not_le, -Int32.not_lt, -Int64.not_le, -Int64.not_lt, i3lt, i6lt, h4, hlt, jq, ecq, l3, e1, e2, e3, em, ei1]
    exact ih)
  exact key
theorem nx_amt : ∀ k, k < 32 → ((nI k).toUInt32 &&& Int32.toUInt32 31).toBitVec = BitVec.ofNat 32 k ∧ (nI k &&& 31).toBitVec.smod 32 = BitVec.ofNat 32 k := by decide +kernel
/-- a byte by the shift without sign -/
theorem by_us (x : Int32) (k : Nat) (hk : k ≤ 24) : (x.toUInt32 >>> ((nI k).toUInt32 &&& Int32.toUInt32 31)).toInt32.toInt8 = (x >>> (nI k &&& 31)).toInt8 := by
  have hs := nx_amt k (by omega)
  have h1 : (x.toUInt32 >>> ((nI k).toUInt32 &&& Int32.toUInt32 31)).toInt32.toBitVec = x.toBitVec >>> k := by
    have h2 : ((nI k).toUInt32 &&& Int32.toUInt32 31).toBitVec = BitVec.ofNat 32 k := hs.1
    show x.toBitVec >>> (((nI k).toUInt32 &&& Int32.toUInt32 31).toBitVec % 32) = _
    rw [h2]
    apply BitVec.eq_of_toNat_eq
    simp
    congr 1
    omega
  have h3 : (x >>> (nI k &&& 31)).toBitVec = x.toBitVec.sshiftRight k := by
    show x.toBitVec.sshiftRight' ((nI k &&& 31).toBitVec.smod 32) = _
    have h4 : (nI k &&& 31).toBitVec.smod 32 = BitVec.ofNat 32 k := hs.2
    rw [h4]
    show x.toBitVec.sshiftRight (BitVec.ofNat 32 k).toNat = _
    congr 1
    simp
    omega
  apply Int8.toBitVec_inj.mp
  show (x.toUInt32 >>> ((nI k).toUInt32 &&& Int32.toUInt32 31)).toInt32.toBitVec.signExtend 8 = (x >>> (nI k &&& 31)).toBitVec.signExtend 8
  rw [h1, h3]
  apply BitVec.eq_of_getLsbD_eq
  intro i hi
  rw [BitVec.getLsbD_signExtend, BitVec.getLsbD_signExtend, BitVec.getLsbD_ushiftRight, BitVec.getLsbD_sshiftRight]
  have h5 : k + i < 32 := by omega
  have h6 : i < 32 := by omega
  simp [h5, h6, hi]
def oX10_append : jO := joRI fun a x σ => (a = 2 ∧ ∃ n, σ.1 2 1 = nI n ∧ n + 4 ≤ 900, fun v τ => v = none ∧ τ = apS 3 2 1 σ x (σ.1 2 1).toNatClampNeg)
set_option maxRecDepth 100000 in
set_option maxHeartbeats 4000000 in
theorem CX10_append (g : jG) (n : Nat) : jOk g (n + 0) mX10_append oX10_append := by
  refine joRI_ok ?_
  rintro _ x σ ⟨rfl, m, hm, hm4⟩
  have b0 : ∀ z : Int32, vp_nar .byte z.toInt8.toInt32 = z.toInt8.toInt32 := pk_vb
  have key : ∀ (σ : jM) (m : Nat) (k : Nat) (s t : Int32) (y : Int32), σ.1 2 1 = nI m → m < 900 → ¬ s < 0 → s = nI k → k ≤ 24 → by8 x k = y → s + -8 = t → ∀ post : Option Value → jM → Prop, jW g mX10_append n post 3 [(0, .ref 2), (1, .int x), (2, .int t)] [] (jup (jup σ 3 m y) 2 1 (nI (m + 1))) → jW g mX10_append n post 3 [(0, .ref 2), (1, .int x), (2, .int s)] [] σ := by
    intro σ m k s t y h1 h2 h3 hsk hk4 h4 h5 post kk
    have j1 : jin (nI m) 900 := jin_nI h2 (by decide)
    have j2 : (nI m).toNatClampNeg = m := nI_clamp (by omega)
    have c9 : ¬ (900 : Int32) ≤ nI m := nI_ge (b := 900) h2 (by decide)
    have hb : (x.toUInt32 >>> (s.toUInt32 &&& Int32.toUInt32 31)).toInt32.toInt8.toInt32 = y := by
      rw [hsk, by_us x k hk4, ← h4]
      rfl
    have hy : vp_nar .byte y = y := by rw [← hb]; exact b0 _
    refine jvk_ok TX10_append (V := []) (S := []) (fun _ h => absurd h List.not_mem_nil) (fun _ h => absurd h List.not_mem_nil) [3] 30 _ _ _ _ ?_
    simp (maxSteps := 1000000) [↓Bool.cond_eq_ite, -Prod.forall, -Prod.exists, -Prod.mk.injEq, jvk, tX10_append, jtb, jol, jst, jlk, jcmp, jbin, jfl, fX10, jc2, lX10, jcat, jel, lv_args, Value.category, jins, jsrt, jins2, jble, jblt, jf3, List.filter_cons, List.filter_nil, G_loader, -Int32.not_le, -Int32.not_lt, -Int64.not_le, -Int64.not_lt, i3lt, i6lt, h1, h3, c9, hb, h5, j1, j2, hy, jup_1, nI_1]
    try simp (disch := omega) [-Prod.forall, -Prod.exists, -Prod.mk.injEq, -Int32.not_le, -Int32.not_lt, -Int64.not_le, -Int64.not_lt, i3lt, i6lt, h1, h3, c9, hb, h5, j1, j2, hy, jup_1, nI_1]
    exact kk
  refine jCon.ofP (by decide +kernel) (by simp [lg_sl, Value.category]) (fun post hp => ?_)
  refine jvk_ok TX10_append (V := []) (S := []) (fun _ h => absurd h List.not_mem_nil) (fun _ h => absurd h List.not_mem_nil) [3] 10 _ _ _ _ ?_
  simp (maxSteps := 1000000) [↓Bool.cond_eq_ite, -Prod.forall, -Prod.exists, -Prod.mk.injEq, jvk, tX10_append, jtb, jol, jst, jlk, jcmp, jbin, jfl, fX10, jc2, lX10, jcat, jel, lv_args, Value.category, jins, jsrt, jins2, jble, jblt, jf3, List.filter_cons, List.filter_nil, G_loader, -Int32.not_le, -Int32.not_lt, -Int64.not_le, -Int64.not_lt, i3lt, i6lt]
  try simp (disch := omega) [-Prod.forall, -Prod.exists, -Prod.mk.injEq, -Int32.not_le, -Int32.not_lt, -Int64.not_le, -Int64.not_lt, i3lt, i6lt]
  refine key σ m 24 24 16 (by8 x 24) hm (by omega) (by decide) rfl (by omega) rfl (by decide) _ ?_
  refine key _ (m + 1) 16 16 8 (by8 x 16) (by simp [jup_1]) (by omega) (by decide) rfl (by omega) rfl (by decide) _ ?_
  refine key _ (m + 2) 8 8 0 (by8 x 8) (by simp [jup_1]) (by omega) (by decide) rfl (by omega) rfl (by decide) _ ?_
  refine key _ (m + 3) 0 0 (-8) (by8 x 0) (by simp [jup_1]) (by omega) (by decide) rfl (by omega) rfl (by decide) _ ?_
  have eS := apS_eq (c := 3) (o := 2) (k := 1) (by decide) σ x m (nI (m + 1)) (nI (m + 2)) (nI (m + 3))
  have n8 : (-8 : Int32) < 0 := by decide
  rw [show m + 1 + 1 = m + 2 from rfl, show m + 2 + 1 = m + 3 from rfl, show m + 3 + 1 = m + 4 from rfl, eS]
  refine jvk_ok TX10_append (V := []) (S := []) (fun _ h => absurd h List.not_mem_nil) (fun _ h => absurd h List.not_mem_nil) [] 10 _ _ _ _ ?_
  simp (maxSteps := 1000000) [↓Bool.cond_eq_ite, -Prod.forall, -Prod.exists, -Prod.mk.injEq, jvk, tX10_append, jtb, jol, jst, jlk, jcmp, jbin, jfl, fX10, jc2, lX10, jcat, jel, lv_args, Value.category, jins, jsrt, jins2, jble, jblt, jf3, List.filter_cons, List.filter_nil, G_loader, -Int32.not_le, -Int32.not_lt, -Int64.not_le, -Int64.not_lt, i3lt, i6lt, n8]
  try simp (disch := omega) [-Prod.forall, -Prod.exists, -Prod.mk.injEq, -Int32.not_le, -Int32.not_lt, -Int64.not_le, -Int64.not_lt, i3lt, i6lt, n8]
  exact hp _ _ ⟨rfl, by rw [hm, nI_clamp (by omega)]⟩
