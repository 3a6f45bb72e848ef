/-! Tokens.isWord -/
theorem toP_c {σ : jM} {s : Nat} (hT : kT σ) (h : toP σ s) : (σ.1 2 3).toNatClampNeg = s := by
  have hl := (kT_n hT).1
  rw [h.2.1, nI_clamp (by have := h.1; omega)]
def oX10_isWord : jO := joRR fun a w σ => (a = 2 ∧ kT σ ∧ toP σ (σ.1 2 3).toNatClampNeg ∧ 354 ≤ w ∧ w < 367, fun v τ => v = some (.int (if isW (σ.1 3) (kLn σ) (σ.1 2 3).toNatClampNeg (stW (w - 354)) = true then 1 else 0)) ∧ τ = σ)
set_option maxRecDepth 100000 in
set_option maxHeartbeats 4000000 in
theorem CX10_isWord (g : jG) (n : Nat) (hE : jEs g) : jOk g (n + 5) mX10_isWord oX10_isWord := by
  refine joRR_ok ?_
  rintro _ w σ ⟨rfl, hT, hto, hw1, hw2⟩
  obtain ⟨i, rfl⟩ : ∃ i, w = 354 + i := ⟨w - 354, by omega⟩
  have hi : i < 13 := by omega
  have hi7 : i < 25 := by omega
  obtain ⟨l9, eL⟩ := kT_n hT
  obtain ⟨s, es⟩ : ∃ s, s = (σ.1 2 3).toNatClampNeg := ⟨_, rfl⟩
  rw [← es] at hto
  obtain ⟨hs, h3, h4, h5⟩ := hto
  obtain ⟨hle, hC⟩ := stW_ok i hi
  have hlen := (stC_ok i hi7).1
  obtain ⟨E, eE⟩ : ∃ E, E = en (σ.1 3) (kLn σ) s := ⟨_, rfl⟩
  have en1 := en_le (b := σ.1 3) hs
  rw [← eE] at en1 h4
  have K5 := kn_5 (σ.1 3) (kLn σ) s
  have hcl : kn (σ.1 3) (kLn σ) s = 2 → ∀ k, k < E - s → cl (σ.1 3) (s + k) < 32 ∧ s + k < kLn σ ∧ σ.1 3 (s + k) = nI (96 + cl (σ.1 3) (s + k)) := fun k2 k hk => by
    have := cl_ok (en_cl (b := σ.1 3) (len := kLn σ) (s := s) (i := k) k2 (by rw [← eE]; omega))
    exact ⟨by omega, this.1, this.2.2.2⟩
  have fin : ∀ (post : Option Value → jM → Prop), (∀ v τ, v = some (.int (if isW (σ.1 3) (kLn σ) s (stW i) = true then 1 else 0)) ∧ τ = σ → post v τ) → (isW (σ.1 3) (kLn σ) s (stW i) = true → post (some (.int 1)) σ) ∧ (¬ isW (σ.1 3) (kLn σ) s (stW i) = true → post (some (.int 0)) σ) := fun post hp => ⟨fun h => hp _ _ ⟨by rw [if_pos h], rfl⟩, fun h => hp _ _ ⟨by rw [if_neg h], rfl⟩⟩
  have hW : isW (σ.1 3) (kLn σ) s (stW i) = true ↔ ((kn (σ.1 3) (kLn σ) s = 2 ∧ E - s = sLn i) ∧ ∀ q, q < sLn i → cl (σ.1 3) (s + q) = wLt i q) := by
    unfold isW
    simp only [Bool.and_eq_true, decide_eq_true_eq, al_iff]
    rw [hle, eE]
    exact Iff.rfl
  refine jCon.ofP (by decide +kernel) (by simp [lg_sl, Value.category]) (fun post hp => ?_)
  obtain ⟨f1, f0⟩ := fin post (fun v τ h => hp v τ (by
    rw [← es, show 354 + i - 354 = i by omega]
    exact h))
  by_cases k2 : kn (σ.1 3) (kLn σ) s = 2
  · have z2 : σ.1 2 5 = 2 := by rw [h5, k2]; rfl
    have esub : nI E - nI s = nI (E - s) := pk_sub en1.1
    refine jvk_ok TX10_isWord (V := []) (S := []) (fun _ h => absurd h List.not_mem_nil) (fun _ h => absurd h List.not_mem_nil) [18] 20 _ _ _ _ ?_
    simp (maxSteps := 1000000) [↓Bool.cond_eq_ite, -Prod.forall, -Prod.exists, -Prod.mk.injEq, jvk, tX10_isWord, jtb, jol, jst, jlk, jcmp, jbin, jfl, fX10, jc2, lX10, jcat, jel, lv_args, Value.category, jins, jsrt, jins2, jble, jblt, jf3, List.filter_cons, List.filter_nil, G_loader, -Int32.not_le, -Int32.not_lt, -Int64.not_le, -Int64.not_lt, i3lt, i6lt, z2, h3, h4, esub]
    try simp (disch := omega) [-Prod.forall, -Prod.exists, -Prod.mk.injEq, -Int32.not_le, -Int32.not_lt, -Int64.not_le, -Int64.not_lt, i3lt, i6lt, z2, h3, h4, esub]
    refine jr_callStr (idx := 47) (mt' := mJ0_length_8abf5) (as := []) (r := [.int (nI (E - s))]) hE hi7 (by decide +kernel) kX10_47 WJ0_length_8abf5 rfl rfl (by omega : n + 1 < n + 5) rfl (by simp [Value.category]) (CS_length hE n hi7 σ) ?_
    rintro _ τ9 ⟨rfl, hτ9⟩
    rw [hτ9]
    have cl9 := nI_eq (a := E - s) (b := sLn i) (by omega) (by omega)
    by_cases ee : E - s = sLn i
    · have main : jW g mX10_isWord (n + 5) post 28 [(0, .ref 2), (1, .ref (354 + i)), (2, .int (nI 0))] [] σ := by
        refine jloop (P := fun k => (∀ q, q < k → cl (σ.1 3) (s + q) = wLt i q) → jW g mX10_isWord (n + 5) post 28 [(0, .ref 2), (1, .ref (354 + i)), (2, .int (nI k))] [] σ) (N := sLn i) ?_ ?_ (fun q h => by omega)
        · intro ha
          have k1 := f1 (hW.mpr ⟨⟨k2, ee⟩, ha⟩)
          have hge : nI (sLn i) ≤ nI (sLn i) := nI_le (Nat.le_refl _) (by omega)
          refine jvk_ok TX10_isWord (V := []) (S := []) (fun _ h => absurd h List.not_mem_nil) (fun _ h => absurd h List.not_mem_nil) [30] 10 _ _ _ _ ?_
          simp (maxSteps := 1000000) [↓Bool.cond_eq_ite, -Prod.forall, -Prod.exists, -Prod.mk.injEq, jvk, tX10_isWord, jtb, jol, jst, jlk, jcmp, jbin, jfl, fX10, jc2, lX10, jcat, jel, lv_args, Value.category, jins, jsrt, jins2, jble, jblt, jf3, List.filter_cons, List.filter_nil, G_loader, -Int32.not_le, -Int32.not_lt, -Int64.not_le, -Int64.not_lt, i3lt, i6lt]
          try simp (disch := omega) [-Prod.forall, -Prod.exists, -Prod.mk.injEq, -Int32.not_le, -Int32.not_lt, -Int64.not_le, -Int64.not_lt, i3lt, i6lt]
          refine jr_callStr (idx := 47) (mt' := mJ0_length_8abf5) (as := []) (r := [.int (nI (sLn i))]) hE hi7 (by decide +kernel) kX10_47 WJ0_length_8abf5 rfl rfl (by omega : n + 1 < n + 5) rfl (by simp [Value.category]) (CS_length hE n hi7 σ) ?_
          rintro _ τ9 ⟨rfl, hτ9⟩
          rw [hτ9]
          refine jvk_ok TX10_isWord (V := []) (S := []) (fun _ h => absurd h List.not_mem_nil) (fun _ h => absurd h List.not_mem_nil) [] 10 _ _ _ _ ?_
          simp (maxSteps := 1000000) [↓Bool.cond_eq_ite, -Prod.forall, -Prod.exists, -Prod.mk.injEq, jvk, tX10_isWord, jtb, jol, jst, jlk, jcmp, jbin, jfl, fX10, jc2, lX10, jcat, jel, lv_args, Value.category, jins, jsrt, jins2, jble, jblt, jf3, List.filter_cons, List.filter_nil, G_loader, -Int32.not_le, -Int32.not_lt, -Int64.not_le, -Int64.not_lt, i3lt, i6lt, hge]
          try simp (disch := omega) [-Prod.forall, -Prod.exists, -Prod.mk.injEq, -Int32.not_le, -Int32.not_lt, -Int64.not_le, -Int64.not_lt, i3lt, i6lt, hge]
          exact k1
        · intro k hk ih ha
          obtain ⟨c32, hpl, ex⟩ := hcl k2 k (by omega)
          obtain ⟨c, ec⟩ : ∃ c, c = cl (σ.1 3) (s + k) := ⟨_, rfl⟩
          rw [← ec] at c32 ex
          obtain ⟨eC, d32⟩ := hC k hk
          have eadd : nI s + nI k = nI (s + k) := nI_add s k
          have jp : jin (nI (s + k)) 900 := jin_nI (by omega) (by decide)
          have ecp : (nI (s + k)).toNatClampNeg = s + k := nI_clamp (by omega)
          have nge : ¬ nI (sLn i) ≤ nI k := nI_ge hk (by omega)
          refine jvk_ok TX10_isWord (V := []) (S := []) (fun _ h => absurd h List.not_mem_nil) (fun _ h => absurd h List.not_mem_nil) [30] 10 _ _ _ _ ?_
          simp (maxSteps := 1000000) [↓Bool.cond_eq_ite, -Prod.forall, -Prod.exists, -Prod.mk.injEq, jvk, tX10_isWord, jtb, jol, jst, jlk, jcmp, jbin, jfl, fX10, jc2, lX10, jcat, jel, lv_args, Value.category, jins, jsrt, jins2, jble, jblt, jf3, List.filter_cons, List.filter_nil, G_loader, -Int32.not_le, -Int32.not_lt, -Int64.not_le, -Int64.not_lt, i3lt, i6lt]
          try simp (disch := omega) [-Prod.forall, -Prod.exists, -Prod.mk.injEq, -Int32.not_le, -Int32.not_lt, -Int64.not_le, -Int64.not_lt, i3lt, i6lt]
          refine jr_callStr (idx := 47) (mt' := mJ0_length_8abf5) (as := []) (r := [.int (nI k)]) hE hi7 (by decide +kernel) kX10_47 WJ0_length_8abf5 rfl rfl (by omega : n + 1 < n + 5) rfl (by simp [Value.category]) (CS_length hE n hi7 σ) ?_
          rintro _ τ9 ⟨rfl, hτ9⟩
          rw [hτ9]
          refine jvk_ok TX10_isWord (V := []) (S := []) (fun _ h => absurd h List.not_mem_nil) (fun _ h => absurd h List.not_mem_nil) [49] 20 _ _ _ _ ?_
          simp (maxSteps := 1000000) [↓Bool.cond_eq_ite, -Prod.forall, -Prod.exists, -Prod.mk.injEq, jvk, tX10_isWord, jtb, jol, jst, jlk, jcmp, jbin, jfl, fX10, jc2, lX10, jcat, jel, lv_args, Value.category, jins, jsrt, jins2, jble, jblt, jf3, List.filter_cons, List.filter_nil, G_loader, -Int32.not_le, -Int32.not_lt, -Int64.not_le, -Int64.not_lt, i3lt, i6lt, nge, h3, eadd, jp, ecp, ex]
          try simp (disch := omega) [-Prod.forall, -Prod.exists, -Prod.mk.injEq, -Int32.not_le, -Int32.not_lt, -Int64.not_le, -Int64.not_lt, i3lt, i6lt, nge, h3, eadd, jp, ecp, ex]
          refine jr_callStr (idx := 52) (mt' := mJ0_charAt_5068e) (as := [.int (nI k)]) (r := [.int (nI (96 + c))]) hE hi7 (by decide +kernel) kX10_52 WJ0_charAt_5068e rfl rfl (by omega : n + 3 < n + 5) rfl (by simp [Value.category]) (CS_charAt hE n hi7 hk σ) ?_
          rintro _ τ9 ⟨rfl, hτ9⟩
          rw [hτ9]
          rw [eC]
          have cq := nI_eq (a := 96 + c) (b := 96 + wLt i k) (by omega) (by omega)
          by_cases q : c = wLt i k
          · have q' : nI (96 + c) = nI (96 + wLt i k) := by rw [q]
            have k1 := ih (fun r hr => by
              by_cases hrk : r = k
              · subst hrk
                rw [← ec]
                exact q
              · exact ha r (by omega))
            refine jvk_ok TX10_isWord (V := []) (S := []) (fun _ h => absurd h List.not_mem_nil) (fun _ h => absurd h List.not_mem_nil) [28] 10 _ _ _ _ ?_
            simp (maxSteps := 1000000) [↓Bool.cond_eq_ite, -Prod.forall, -Prod.exists, -Prod.mk.injEq, jvk, tX10_isWord, jtb, jol, jst, jlk, jcmp, jbin, jfl, fX10, jc2, lX10, jcat, jel, lv_args, Value.category, jins, jsrt, jins2, jble, jblt, jf3, List.filter_cons, List.filter_nil, G_loader, -Int32.not_le, -Int32.not_lt, -Int64.not_le, -Int64.not_lt, i3lt, i6lt, q', nI_1]
            try simp (disch := omega) [-Prod.forall, -Prod.exists, -Prod.mk.injEq, -Int32.not_le, -Int32.not_lt, -Int64.not_le, -Int64.not_lt, i3lt, i6lt, q', nI_1]
            exact k1
          · have q' : ¬ nI (96 + c) = nI (96 + wLt i k) := fun z => q (by have := cq.mp z; omega)
            have k1 := f0 (fun z => q (by rw [ec]; exact (hW.mp z).2 k hk))
            refine jvk_ok TX10_isWord (V := []) (S := []) (fun _ h => absurd h List.not_mem_nil) (fun _ h => absurd h List.not_mem_nil) [] 10 _ _ _ _ ?_
            simp (maxSteps := 1000000) [↓Bool.cond_eq_ite, -Prod.forall, -Prod.exists, -Prod.mk.injEq, jvk, tX10_isWord, jtb, jol, jst, jlk, jcmp, jbin, jfl, fX10, jc2, lX10, jcat, jel, lv_args, Value.category, jins, jsrt, jins2, jble, jblt, jf3, List.filter_cons, List.filter_nil, G_loader, -Int32.not_le, -Int32.not_lt, -Int64.not_le, -Int64.not_lt, i3lt, i6lt, q']
            try simp (disch := omega) [-Prod.forall, -Prod.exists, -Prod.mk.injEq, -Int32.not_le, -Int32.not_lt, -Int64.not_le, -Int64.not_lt, i3lt, i6lt, q']
            exact k1
      have ce : nI (E - s) = nI (sLn i) := cl9.mpr ee
      have e0 : nI 0 = 0 := rfl
      rw [e0] at main
      refine jvk_ok TX10_isWord (V := []) (S := []) (fun _ h => absurd h List.not_mem_nil) (fun _ h => absurd h List.not_mem_nil) [28] 10 _ _ _ _ ?_
      simp (maxSteps := 1000000) [↓Bool.cond_eq_ite, -Prod.forall, -Prod.exists, -Prod.mk.injEq, jvk, tX10_isWord, jtb, jol, jst, jlk, jcmp, jbin, jfl, fX10, jc2, lX10, jcat, jel, lv_args, Value.category, jins, jsrt, jins2, jble, jblt, jf3, List.filter_cons, List.filter_nil, G_loader, -Int32.not_le, -Int32.not_lt, -Int64.not_le, -Int64.not_lt, i3lt, i6lt, ce]
      try simp (disch := omega) [-Prod.forall, -Prod.exists, -Prod.mk.injEq, -Int32.not_le, -Int32.not_lt, -Int64.not_le, -Int64.not_lt, i3lt, i6lt, ce]
      exact main
    · have ce : ¬ nI (E - s) = nI (sLn i) := fun z => ee (cl9.mp z)
      have k1 := f0 (fun z => ee (hW.mp z).1.2)
      refine jvk_ok TX10_isWord (V := []) (S := []) (fun _ h => absurd h List.not_mem_nil) (fun _ h => absurd h List.not_mem_nil) [] 10 _ _ _ _ ?_
      simp (maxSteps := 1000000) [↓Bool.cond_eq_ite, -Prod.forall, -Prod.exists, -Prod.mk.injEq, jvk, tX10_isWord, jtb, jol, jst, jlk, jcmp, jbin, jfl, fX10, jc2, lX10, jcat, jel, lv_args, Value.category, jins, jsrt, jins2, jble, jblt, jf3, List.filter_cons, List.filter_nil, G_loader, -Int32.not_le, -Int32.not_lt, -Int64.not_le, -Int64.not_lt, i3lt, i6lt, ce]
      try simp (disch := omega) [-Prod.forall, -Prod.exists, -Prod.mk.injEq, -Int32.not_le, -Int32.not_lt, -Int64.not_le, -Int64.not_lt, i3lt, i6lt, ce]
      exact k1
  · have z2 : ¬ nI (kn (σ.1 3) (kLn σ) s) = 2 := fun z => k2 ((nI_eq (b := 2) (by omega) (by decide)).mp z)
    have k1 := f0 (fun z => k2 (hW.mp z).1.1)
    refine jvk_ok TX10_isWord (V := []) (S := []) (fun _ h => absurd h List.not_mem_nil) (fun _ h => absurd h List.not_mem_nil) [] 10 _ _ _ _ ?_
    simp (maxSteps := 1000000) [↓Bool.cond_eq_ite, -Prod.forall, -Prod.exists, -Prod.mk.injEq, jvk, tX10_isWord, jtb, jol, jst, jlk, jcmp, jbin, jfl, fX10, jc2, lX10, jcat, jel, lv_args, Value.category, jins, jsrt, jins2, jble, jblt, jf3, List.filter_cons, List.filter_nil, G_loader, -Int32.not_le, -Int32.not_lt, -Int64.not_le, -Int64.not_lt, i3lt, i6lt, h5, z2]
    try simp (disch := omega) [-Prod.forall, -Prod.exists, -Prod.mk.injEq, -Int32.not_le, -Int32.not_lt, -Int64.not_le, -Int64.not_lt, i3lt, i6lt, h5, z2]
    exact k1
