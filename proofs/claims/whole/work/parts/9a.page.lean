/-! Page: a name, a number, a line -/
theorem ltr_n (x : Int32) (i : Nat) : ∃ j, j < 32 ∧ ltr x i = nI j := by
  obtain ⟨j, h1, h2⟩ := pk_andE (x >>> (iI (25 - 5 * (i : Int)) &&& 31)) (m := 31) 5 (by decide)
  exact ⟨j, h1, h2⟩
def oX5_addName : jO := joRI fun a x σ => (a = 320 ∧ ∃ s, σ.1 320 1 = nI s ∧ s ≤ 156, fun v τ => v = none ∧ τ = uP σ (σ.1 320 1).toNatClampNeg (nmL x 6))
set_option maxRecDepth 100000 in
set_option maxHeartbeats 4000000 in
theorem CX5_addName (g : jG) (n : Nat) : jOk g (n + 1) mX5_addName oX5_addName := by
  refine joRI_ok ?_
  rintro _ x σ ⟨rfl, s, hs, hs4⟩
  have a2 : (nI s).toNatClampNeg = s := nI_clamp (by omega)
  refine jCon.ofP (by decide +kernel) (by simp [lg_sl, Value.category]) (fun post hp => ?_)
  refine jvk_ok TX5_addName (V := [(19, 2, 5, oX5_add)]) (S := []) (List.forall_mem_cons.mpr ⟨⟨mX5_add, n + 0, 1, TX5, 2, rfl, by omega, kX5_19, WX5_add, rfl, CX5_add g (n)⟩, (fun _ h => absurd h List.not_mem_nil)⟩) (fun _ h => absurd h List.not_mem_nil) [3] 20 _ _ _ _ ?_
  simp (maxSteps := 1000000) [↓Bool.cond_eq_ite, -Prod.forall, -Prod.exists, -Prod.mk.injEq, jvk, tX5_addName, jtb, jol, jst, jlk, jcmp, jbin, jfl, fX5, jc2, lX5, jcat, jel, lv_args, Value.category, jins, jsrt, jins2, jble, jblt, jf3, List.filter_cons, List.filter_nil, G_page, oX5_add, joRI, -Int32.not_le, -Int32.not_lt, -Int64.not_le, -Int64.not_lt, i3lt, i6lt]
  try simp (disch := omega) [-Prod.forall, -Prod.exists, -Prod.mk.injEq, -Int32.not_le, -Int32.not_lt, -Int64.not_le, -Int64.not_lt, i3lt, i6lt]
  have key := jloop (P := fun i => jW g mX5_addName (n + 1) post 3 [(0, .ref 320), (1, .int x), (2, .int (iI (25 - 5 * (i : Int))))] [] (uP σ s (nmL x i))) (N := 6) (by
    have n5 : ¬ 0 ≤ iI (-5) := by decide
    refine jvk_ok TX5_addName (V := [(19, 2, 5, oX5_add)]) (S := []) (List.forall_mem_cons.mpr ⟨⟨mX5_add, n + 0, 1, TX5, 2, rfl, by omega, kX5_19, WX5_add, rfl, CX5_add g (n)⟩, (fun _ h => absurd h List.not_mem_nil)⟩) (fun _ h => absurd h List.not_mem_nil) [3] 20 _ _ _ _ ?_
    simp (maxSteps := 1000000) [↓Bool.cond_eq_ite, -Prod.forall, -Prod.exists, -Prod.mk.injEq, jvk, tX5_addName, jtb, jol, jst, jlk, jcmp, jbin, jfl, fX5, jc2, lX5, jcat, jel, lv_args, Value.category, jins, jsrt, jins2, jble, jblt, jf3, List.filter_cons, List.filter_nil, G_page, oX5_add, joRI, -Int32.not_le, -Int32.not_lt, -Int64.not_le, -Int64.not_lt, i3lt, i6lt, n5]
    try simp (disch := omega) [-Prod.forall, -Prod.exists, -Prod.mk.injEq, -Int32.not_le, -Int32.not_lt, -Int64.not_le, -Int64.not_lt, i3lt, i6lt, n5]
    exact hp _ _ ⟨rfl, by rw [hs, a2]⟩) (fun i hi ih => by
    have hl := nmL_len x i
    have n5 : ¬ iI (25 - 5 * (i : Int)) < 0 := fun z => by
      have := (iI_lt (y := 0) ⟨by omega, by omega⟩ (by decide)).mp z
      omega
    have e5 : iI (25 - 5 * (i : Int)) + -5 = iI (25 - 5 * ((i + 1 : Nat) : Int)) := by
      have := iI_add (25 - 5 * (i : Int)) (-5)
      rw [show (25 - 5 * (i : Int)) + -5 = 25 - 5 * ((i + 1 : Nat) : Int) by omega] at this
      exact this
    have eL : (x >>> (iI (25 - 5 * (i : Int)) &&& 31)) &&& 31 = ltr x i := rfl
    have e97 : 97 + ltr x i - 1 = 96 + ltr x i := by
      obtain ⟨j, -, e⟩ := ltr_n x i
      rw [e]
      have h1 : (97 : Int32) + nI j = nI (97 + j) := nI_add 97 j
      have h2 : nI (97 + j) - 1 = nI (97 + j - 1) := pk_sub (b := 1) (by omega)
      have h3 : (96 : Int32) + nI j = nI (96 + j) := nI_add 96 j
      rw [h1, h2, h3]
      congr 1
      omega
    have e52 := uP_n σ s (nmL x i)
    have hpre : preA (uP σ s (nmL x i)) (96 + ltr x i) := by
      obtain ⟨j, hj, e⟩ := ltr_n x i
      exact ⟨s + (nmL x i).length, 96 + j, e52, by omega, by rw [e]; exact nI_add 96 j, by omega⟩
    have ecl : (nI (s + (nmL x i).length)).toNatClampNeg = s + (nmL x i).length := nI_clamp (by omega)
    simp only [nmL] at ih
    by_cases c : ltr x i ≤ 0
    · rw [if_pos c, List.append_nil] at ih
      refine jvk_ok TX5_addName (V := [(19, 2, 5, oX5_add)]) (S := []) (List.forall_mem_cons.mpr ⟨⟨mX5_add, n + 0, 1, TX5, 2, rfl, by omega, kX5_19, WX5_add, rfl, CX5_add g (n)⟩, (fun _ h => absurd h List.not_mem_nil)⟩) (fun _ h => absurd h List.not_mem_nil) [3] 20 _ _ _ _ ?_
      simp (maxSteps := 1000000) [↓Bool.cond_eq_ite, -Prod.forall, -Prod.exists, -Prod.mk.injEq, jvk, tX5_addName, jtb, jol, jst, jlk, jcmp, jbin, jfl, fX5, jc2, lX5, jcat, jel, lv_args, Value.category, jins, jsrt, jins2, jble, jblt, jf3, List.filter_cons, List.filter_nil, G_page, oX5_add, joRI, -Int32.not_le, -Int32.not_lt, -Int64.not_le, -Int64.not_lt, i3lt, i6lt, n5, e5, eL, c]
      try simp (disch := omega) [-Prod.forall, -Prod.exists, -Prod.mk.injEq, -Int32.not_le, -Int32.not_lt, -Int64.not_le, -Int64.not_lt, i3lt, i6lt, n5, e5, eL, c]
      exact jW.mono ih (by simp)
    · rw [if_neg c, ← uP_app] at ih
      refine jvk_ok TX5_addName (V := [(19, 2, 5, oX5_add)]) (S := []) (List.forall_mem_cons.mpr ⟨⟨mX5_add, n + 0, 1, TX5, 2, rfl, by omega, kX5_19, WX5_add, rfl, CX5_add g (n)⟩, (fun _ h => absurd h List.not_mem_nil)⟩) (fun _ h => absurd h List.not_mem_nil) [3] 30 _ _ _ _ ?_
      simp (maxSteps := 1000000) [↓Bool.cond_eq_ite, -Prod.forall, -Prod.exists, -Prod.mk.injEq, jvk, tX5_addName, jtb, jol, jst, jlk, jcmp, jbin, jfl, fX5, jc2, lX5, jcat, jel, lv_args, Value.category, jins, jsrt, jins2, jble, jblt, jf3, List.filter_cons, List.filter_nil, G_page, oX5_add, joRI, -Int32.not_le, -Int32.not_lt, -Int64.not_le, -Int64.not_lt, i3lt, i6lt, n5, e5, eL, c, e97, e52, hpre, ecl]
      try simp (disch := omega) [-Prod.forall, -Prod.exists, -Prod.mk.injEq, -Int32.not_le, -Int32.not_lt, -Int64.not_le, -Int64.not_lt, i3lt, i6lt, n5, e5, eL, c, e97, e52, hpre, ecl]
      exact jW.mono ih (by simp))
  have e0 : iI (25 - 5 * ((0 : Nat) : Int)) = 25 := by decide
  have e1 : uP σ s (nmL x 0) = σ := ouS_nil _ _ _ _ _ hs
  rw [e0, e1] at key
  exact key
def oX5_addNumber : jO := joRI fun a x σ => (a = 320 ∧ (∃ s, σ.1 320 1 = nI s ∧ s ≤ 151) ∧ ∃ z, x = iI z ∧ -1000000000 < z ∧ z < 1000000000, fun v τ => v = none ∧ τ = uP σ (σ.1 320 1).toNatClampNeg (nbL x.toInt))
set_option maxRecDepth 100000 in
set_option maxHeartbeats 4000000 in
theorem CX5_addNumber (g : jG) (n : Nat) : jOk g (n + 1) mX5_addNumber oX5_addNumber := by
  refine joRI_ok ?_
  rintro _ _ σ ⟨rfl, ⟨s, hs, hs4⟩, z, rfl, hz1, hz2⟩
  have a2 : (nI s).toNatClampNeg = s := nI_clamp (by omega)
  have ez : (iI z).toInt = z := iI_toInt ⟨by omega, by omega⟩
  obtain ⟨m, em⟩ : ∃ m, m = z.natAbs := ⟨_, rfl⟩
  have hm : m < 1000000000 := by omega
  have digits : ∀ (post : Option Value → jM → Prop) (j : Nat) (ρ : jM) (t : Nat), j ≤ 10 → ρ.1 320 1 = nI t → t + j ≤ 162 → post none (uP ρ t (dgL m j)) → jW g mX5_addNumber (n + 1) post 18 [(0, .ref 320), (1, .int (iI z)), (2, .int (nI m)), (3, .int (nI (10 ^ j / 10)))] [] ρ := by
    intro post j
    induction j with
    | zero =>
      intro ρ t _ ht _ k
      have c1 : ¬ (1 : Int32) ≤ nI 0 := by decide
      have e1 : uP ρ t (dgL m 0) = ρ := ouS_nil _ _ _ _ _ ht
      rw [e1] at k
      rw [show 10 ^ 0 / 10 = 0 from rfl]
      refine jvk_ok TX5_addNumber (V := [(19, 2, 5, oX5_add)]) (S := [(29, 1, 0, oJ9_abs_0f7a4)]) (List.forall_mem_cons.mpr ⟨⟨mX5_add, n + 0, 1, TX5, 2, rfl, by omega, kX5_19, WX5_add, rfl, CX5_add g (n)⟩, (fun _ h => absurd h List.not_mem_nil)⟩) (List.forall_mem_cons.mpr ⟨⟨mJ9_abs_0f7a4, n + 0, by omega, Or.inl kX5_29, WJ9_abs_0f7a4, CJ9_abs_0f7a4 g (n)⟩, (fun _ h => absurd h List.not_mem_nil)⟩) [18] 10 _ _ _ _ ?_
      simp (maxSteps := 1000000) [↓Bool.cond_eq_ite, -Prod.forall, -Prod.exists, -Prod.mk.injEq, jvk, tX5_addNumber, jtb, jol, jst, jlk, jcmp, jbin, jfl, fX5, jc2, lX5, jcat, jel, lv_args, Value.category, jins, jsrt, jins2, jble, jblt, jf3, List.filter_cons, List.filter_nil, G_page, oX5_add, oJ9_abs_0f7a4, joI, joRI, -Int32.not_le, -Int32.not_lt, -Int64.not_le, -Int64.not_lt, i3lt, i6lt, c1]
      try simp (disch := omega) [-Prod.forall, -Prod.exists, -Prod.mk.injEq, -Int32.not_le, -Int32.not_lt, -Int64.not_le, -Int64.not_lt, i3lt, i6lt, c1]
      exact k
    | succ j ih =>
      intro ρ t hj ht htb k
      have hp9 : 10 ^ j ≤ 10 ^ 9 := Nat.pow_le_pow_right (by decide) (by omega)
      have hp0 : 0 < 10 ^ j := Nat.pos_of_ne_zero (by simp)
      have hp8 : (10 : Nat) ^ 9 = 1000000000 := by decide
      have e10 : 10 ^ (j + 1) / 10 = 10 ^ j := by rw [Nat.pow_succ, Nat.mul_div_cancel _ (by decide)]
      rw [e10]
      obtain ⟨P, eP⟩ : ∃ P, P = 10 ^ j := ⟨_, rfl⟩
      rw [← eP] at hp9 hp0 ih
      have c1 : (1 : Int32) ≤ nI P := nI_le (a := 1) hp0 (by omega)
      have c4 : ¬ nI P = 0 := nI_ne0 hp0 (by omega)
      have ed : nI m / nI P = nI (m / P) := pk_div (by omega) hp0 (by omega)
      have hdl : m / P ≤ m := Nat.div_le_self _ _
      have er : nI (m / P) - nI (m / P) / 10 * 10 = nI (m / P % 10) := pk_rem (d := 10) (by omega) (by decide) (by decide)
      have ea : 48 + nI (m / P % 10) = nI (48 + m / P % 10) := nI_add 48 _
      have e2 : nI P / 10 = nI (P / 10) := pk_div (d := 10) (by omega) (by decide) (by decide)
      have hpre : preA ρ (nI (48 + m / P % 10)) := ⟨t, 48 + m / P % 10, ht, by omega, rfl, by omega⟩
      have ecl : (nI t).toNatClampNeg = t := nI_clamp (by omega)
      have eD : dgL m (j + 1) = (if P ≤ m ∨ j = 0 then [nI (48 + m / P % 10)] else []) ++ dgL m j := by rw [eP]; rfl
      rw [eD] at k
      rw [← eP]
      by_cases d1 : P ≤ m
      · have c2 : nI P ≤ nI m := nI_le d1 (by omega)
        rw [if_pos (Or.inl d1), ← uP_app] at k
        have k1 := ih (uP ρ t [nI (48 + m / P % 10)]) (t + 1) (by omega) (uP_n _ _ _) (by omega) k
        refine jvk_ok TX5_addNumber (V := [(19, 2, 5, oX5_add)]) (S := [(29, 1, 0, oJ9_abs_0f7a4)]) (List.forall_mem_cons.mpr ⟨⟨mX5_add, n + 0, 1, TX5, 2, rfl, by omega, kX5_19, WX5_add, rfl, CX5_add g (n)⟩, (fun _ h => absurd h List.not_mem_nil)⟩) (List.forall_mem_cons.mpr ⟨⟨mJ9_abs_0f7a4, n + 0, by omega, Or.inl kX5_29, WJ9_abs_0f7a4, CJ9_abs_0f7a4 g (n)⟩, (fun _ h => absurd h List.not_mem_nil)⟩) [18] 40 _ _ _ _ ?_
        simp (maxSteps := 1000000) [↓Bool.cond_eq_ite, -Prod.forall, -Prod.exists, -Prod.mk.injEq, jvk, tX5_addNumber, jtb, jol, jst, jlk, jcmp, jbin, jfl, fX5, jc2, lX5, jcat, jel, lv_args, Value.category, jins, jsrt, jins2, jble, jblt, jf3, List.filter_cons, List.filter_nil, G_page, oX5_add, oJ9_abs_0f7a4, joI, joRI, -Int32.not_le, -Int32.not_lt, -Int64.not_le, -Int64.not_lt, i3lt, i6lt, c1, c2, c4, ed, er, ea, e2, ht, hpre, ecl]
        try simp (disch := omega) [-Prod.forall, -Prod.exists, -Prod.mk.injEq, -Int32.not_le, -Int32.not_lt, -Int64.not_le, -Int64.not_lt, i3lt, i6lt, c1, c2, c4, ed, er, ea, e2, ht, hpre, ecl]
        exact k1
      · have c2 : ¬ nI P ≤ nI m := nI_ge (by omega) (by omega)
        by_cases d2 : j = 0
        · have c3 : (nI P = 1) = True := eq_true (by rw [eP, d2]; rfl)
          rw [if_pos (Or.inr d2), ← uP_app] at k
          have k1 := ih (uP ρ t [nI (48 + m / P % 10)]) (t + 1) (by omega) (uP_n _ _ _) (by omega) k
          refine jvk_ok TX5_addNumber (V := [(19, 2, 5, oX5_add)]) (S := [(29, 1, 0, oJ9_abs_0f7a4)]) (List.forall_mem_cons.mpr ⟨⟨mX5_add, n + 0, 1, TX5, 2, rfl, by omega, kX5_19, WX5_add, rfl, CX5_add g (n)⟩, (fun _ h => absurd h List.not_mem_nil)⟩) (List.forall_mem_cons.mpr ⟨⟨mJ9_abs_0f7a4, n + 0, by omega, Or.inl kX5_29, WJ9_abs_0f7a4, CJ9_abs_0f7a4 g (n)⟩, (fun _ h => absurd h List.not_mem_nil)⟩) [18] 40 _ _ _ _ ?_
          simp (maxSteps := 1000000) [↓Bool.cond_eq_ite, -Prod.forall, -Prod.exists, -Prod.mk.injEq, jvk, tX5_addNumber, jtb, jol, jst, jlk, jcmp, jbin, jfl, fX5, jc2, lX5, jcat, jel, lv_args, Value.category, jins, jsrt, jins2, jble, jblt, jf3, List.filter_cons, List.filter_nil, G_page, oX5_add, oJ9_abs_0f7a4, joI, joRI, -Int32.not_le, -Int32.not_lt, -Int64.not_le, -Int64.not_lt, i3lt, i6lt, c1, c2, c3, c4, ed, er, ea, e2, ht, hpre, ecl]
          try simp (disch := omega) [-Prod.forall, -Prod.exists, -Prod.mk.injEq, -Int32.not_le, -Int32.not_lt, -Int64.not_le, -Int64.not_lt, i3lt, i6lt, c1, c2, c3, c4, ed, er, ea, e2, ht, hpre, ecl]
          exact k1
        · have hP10 : 10 ≤ P := by
            rw [eP]
            exact Nat.pow_le_pow_right (n := 10) (by decide) (show 1 ≤ j by omega)
          have c3 : ¬ nI P = 1 := fun z => by
            have := (nI_eq (b := 1) (by omega) (by decide)).mp z
            omega
          rw [if_neg (by omega), List.nil_append] at k
          have k1 := ih ρ t (by omega) ht (by omega) k
          refine jvk_ok TX5_addNumber (V := [(19, 2, 5, oX5_add)]) (S := [(29, 1, 0, oJ9_abs_0f7a4)]) (List.forall_mem_cons.mpr ⟨⟨mX5_add, n + 0, 1, TX5, 2, rfl, by omega, kX5_19, WX5_add, rfl, CX5_add g (n)⟩, (fun _ h => absurd h List.not_mem_nil)⟩) (List.forall_mem_cons.mpr ⟨⟨mJ9_abs_0f7a4, n + 0, by omega, Or.inl kX5_29, WJ9_abs_0f7a4, CJ9_abs_0f7a4 g (n)⟩, (fun _ h => absurd h List.not_mem_nil)⟩) [18] 40 _ _ _ _ ?_
          simp (maxSteps := 1000000) [↓Bool.cond_eq_ite, -Prod.forall, -Prod.exists, -Prod.mk.injEq, jvk, tX5_addNumber, jtb, jol, jst, jlk, jcmp, jbin, jfl, fX5, jc2, lX5, jcat, jel, lv_args, Value.category, jins, jsrt, jins2, jble, jblt, jf3, List.filter_cons, List.filter_nil, G_page, oX5_add, oJ9_abs_0f7a4, joI, joRI, -Int32.not_le, -Int32.not_lt, -Int64.not_le, -Int64.not_lt, i3lt, i6lt, c1, c2, c3, e2]
          try simp (disch := omega) [-Prod.forall, -Prod.exists, -Prod.mk.injEq, -Int32.not_le, -Int32.not_lt, -Int64.not_le, -Int64.not_lt, i3lt, i6lt, c1, c2, c3, e2]
          exact k1
  have e9 : nI (10 ^ 10 / 10) = 1000000000 := by decide
  refine jCon.ofP (by decide +kernel) (by simp [lg_sl, Value.category]) (fun post hp => ?_)
  rw [ez, hs, a2] at hp
  by_cases c : z < 0
  · have c1 : iI z < 0 := (iI_lt (y := 0) ⟨by omega, by omega⟩ (by decide)).mpr c
    have c1' : ¬ 0 ≤ iI z := by grind
    have eneg : - iI z = nI m := by
      rw [← Int32.zero_sub]
      have := iI_sub 0 z
      rw [show (0 : Int) - z = (m : Int) by omega] at this
      exact this
    have hpre : preA σ 45 := ⟨s, 45, hs, by omega, rfl, by omega⟩
    have eL : nbL z = [45] ++ dgL m 10 := by unfold nbL; rw [if_pos c, ← em]
    rw [eL, ← uP_app] at hp
    have k1 := digits post 10 (uP σ s [45]) (s + 1) (by omega) (uP_n _ _ _) (by omega) (hp _ _ ⟨rfl, rfl⟩)
    rw [e9] at k1
    refine jvk_ok TX5_addNumber (V := [(19, 2, 5, oX5_add)]) (S := [(29, 1, 0, oJ9_abs_0f7a4)]) (List.forall_mem_cons.mpr ⟨⟨mX5_add, n + 0, 1, TX5, 2, rfl, by omega, kX5_19, WX5_add, rfl, CX5_add g (n)⟩, (fun _ h => absurd h List.not_mem_nil)⟩) (List.forall_mem_cons.mpr ⟨⟨mJ9_abs_0f7a4, n + 0, by omega, Or.inl kX5_29, WJ9_abs_0f7a4, CJ9_abs_0f7a4 g (n)⟩, (fun _ h => absurd h List.not_mem_nil)⟩) [10, 18] 40 _ _ _ _ ?_
    simp (maxSteps := 1000000) [↓Bool.cond_eq_ite, -Prod.forall, -Prod.exists, -Prod.mk.injEq, jvk, tX5_addNumber, jtb, jol, jst, jlk, jcmp, jbin, jfl, fX5, jc2, lX5, jcat, jel, lv_args, Value.category, jins, jsrt, jins2, jble, jblt, jf3, List.filter_cons, List.filter_nil, G_page, oX5_add, oJ9_abs_0f7a4, joI, joRI, -Int32.not_le, -Int32.not_lt, -Int64.not_le, -Int64.not_lt, i3lt, i6lt, c1, c1', hs, hpre, a2]
    try simp (disch := omega) [-Prod.forall, -Prod.exists, -Prod.mk.injEq, -Int32.not_le, -Int32.not_lt, -Int64.not_le, -Int64.not_lt, i3lt, i6lt, c1, c1', hs, hpre, a2]
    refine jvk_ok TX5_addNumber (V := [(19, 2, 5, oX5_add)]) (S := [(29, 1, 0, oJ9_abs_0f7a4)]) (List.forall_mem_cons.mpr ⟨⟨mX5_add, n + 0, 1, TX5, 2, rfl, by omega, kX5_19, WX5_add, rfl, CX5_add g (n)⟩, (fun _ h => absurd h List.not_mem_nil)⟩) (List.forall_mem_cons.mpr ⟨⟨mJ9_abs_0f7a4, n + 0, by omega, Or.inl kX5_29, WJ9_abs_0f7a4, CJ9_abs_0f7a4 g (n)⟩, (fun _ h => absurd h List.not_mem_nil)⟩) [18] 40 _ _ _ _ ?_
    simp (maxSteps := 1000000) [↓Bool.cond_eq_ite, -Prod.forall, -Prod.exists, -Prod.mk.injEq, jvk, tX5_addNumber, jtb, jol, jst, jlk, jcmp, jbin, jfl, fX5, jc2, lX5, jcat, jel, lv_args, Value.category, jins, jsrt, jins2, jble, jblt, jf3, List.filter_cons, List.filter_nil, G_page, oX5_add, oJ9_abs_0f7a4, joI, joRI, -Int32.not_le, -Int32.not_lt, -Int64.not_le, -Int64.not_lt, i3lt, i6lt, c1, c1', eneg]
    try simp (disch := omega) [-Prod.forall, -Prod.exists, -Prod.mk.injEq, -Int32.not_le, -Int32.not_lt, -Int64.not_le, -Int64.not_lt, i3lt, i6lt, c1, c1', eneg]
    exact k1
  · have c1 : ¬ iI z < 0 := fun w => c ((iI_lt (y := 0) ⟨by omega, by omega⟩ (by decide)).mp w)
    have c1' : 0 ≤ iI z := by grind
    have ezm : iI z = nI m := by rw [show z = (m : Int) by omega]; rfl
    have eL : nbL z = dgL m 10 := by unfold nbL; rw [if_neg c, ← em]; rfl
    rw [eL] at hp
    have k1 := digits post 10 σ s (by omega) hs (by omega) (hp _ _ ⟨rfl, rfl⟩)
    rw [e9, ← ezm] at k1
    refine jvk_ok TX5_addNumber (V := [(19, 2, 5, oX5_add)]) (S := [(29, 1, 0, oJ9_abs_0f7a4)]) (List.forall_mem_cons.mpr ⟨⟨mX5_add, n + 0, 1, TX5, 2, rfl, by omega, kX5_19, WX5_add, rfl, CX5_add g (n)⟩, (fun _ h => absurd h List.not_mem_nil)⟩) (List.forall_mem_cons.mpr ⟨⟨mJ9_abs_0f7a4, n + 0, by omega, Or.inl kX5_29, WJ9_abs_0f7a4, CJ9_abs_0f7a4 g (n)⟩, (fun _ h => absurd h List.not_mem_nil)⟩) [10, 18] 40 _ _ _ _ ?_
    simp (maxSteps := 1000000) [↓Bool.cond_eq_ite, -Prod.forall, -Prod.exists, -Prod.mk.injEq, jvk, tX5_addNumber, jtb, jol, jst, jlk, jcmp, jbin, jfl, fX5, jc2, lX5, jcat, jel, lv_args, Value.category, jins, jsrt, jins2, jble, jblt, jf3, List.filter_cons, List.filter_nil, G_page, oX5_add, oJ9_abs_0f7a4, joI, joRI, -Int32.not_le, -Int32.not_lt, -Int64.not_le, -Int64.not_lt, i3lt, i6lt, c1, c1']
    try simp (disch := omega) [-Prod.forall, -Prod.exists, -Prod.mk.injEq, -Int32.not_le, -Int32.not_lt, -Int64.not_le, -Int64.not_lt, i3lt, i6lt, c1, c1']
    refine jvk_ok TX5_addNumber (V := [(19, 2, 5, oX5_add)]) (S := [(29, 1, 0, oJ9_abs_0f7a4)]) (List.forall_mem_cons.mpr ⟨⟨mX5_add, n + 0, 1, TX5, 2, rfl, by omega, kX5_19, WX5_add, rfl, CX5_add g (n)⟩, (fun _ h => absurd h List.not_mem_nil)⟩) (List.forall_mem_cons.mpr ⟨⟨mJ9_abs_0f7a4, n + 0, by omega, Or.inl kX5_29, WJ9_abs_0f7a4, CJ9_abs_0f7a4 g (n)⟩, (fun _ h => absurd h List.not_mem_nil)⟩) [18] 40 _ _ _ _ ?_
    simp (maxSteps := 1000000) [↓Bool.cond_eq_ite, -Prod.forall, -Prod.exists, -Prod.mk.injEq, jvk, tX5_addNumber, jtb, jol, jst, jlk, jcmp, jbin, jfl, fX5, jc2, lX5, jcat, jel, lv_args, Value.category, jins, jsrt, jins2, jble, jblt, jf3, List.filter_cons, List.filter_nil, G_page, oX5_add, oJ9_abs_0f7a4, joI, joRI, -Int32.not_le, -Int32.not_lt, -Int64.not_le, -Int64.not_lt, i3lt, i6lt, c1, c1']
    try simp (disch := omega) [-Prod.forall, -Prod.exists, -Prod.mk.injEq, -Int32.not_le, -Int32.not_lt, -Int64.not_le, -Int64.not_lt, i3lt, i6lt, c1, c1']
    exact k1
/-- a line as it is written -/
def lnP (p r : Int32) (z : Int) : List Int32 := nmL p 6 ++ ([58] ++ (nmL r 6 ++ ([32] ++ nbL z)))
theorem lnP_len (p r : Int32) (z : Int) : (lnP p r z).length ≤ 25 := by
  have := nmL_len p 6
  have := nmL_len r 6
  have := nbL_len z
  unfold lnP
  simp only [List.length_append, List.length_cons, List.length_nil]
  omega
def oX5_addLine : jO := joRIII fun a p r y σ => (a = 320 ∧ (∃ s, σ.1 320 1 = nI s ∧ s ≤ 136) ∧ ∃ z, y = iI z ∧ -1000000000 < z ∧ z < 1000000000, fun v τ => v = none ∧ τ = uP σ (σ.1 320 1).toNatClampNeg ((if (σ.1 320 1).toNatClampNeg = 0 then [] else [59]) ++ lnP p r y.toInt))
set_option maxRecDepth 100000 in
set_option maxHeartbeats 4000000 in
theorem CAl_line (g : jG) (n : Nat) {post : Option Value → jM → Prop} {τ : jM} {p r y : Int32} {s : Nat} (hs : s ≤ 137) (e52 : τ.1 320 1 = nI s) (hz : ∃ z, y = iI z ∧ -1000000000 < z ∧ z < 1000000000)
    (k : post none (uP τ s (lnP p r y.toInt))) : jW g mX5_addLine (n + 2) post 13 [(0, .ref 320), (1, .int p), (2, .int r), (3, .int y)] [] τ := by
  have l1 := nmL_len p 6
  have l2 := nmL_len r 6
  unfold lnP at k
  rw [← uP_app, ← uP_app, ← uP_app, ← uP_app] at k
  obtain ⟨τ1, e1⟩ : ∃ τ1, τ1 = uP τ s (nmL p 6) := ⟨_, rfl⟩
  rw [← e1] at k
  obtain ⟨s1, es1⟩ : ∃ s1, s1 = s + (nmL p 6).length := ⟨_, rfl⟩
  rw [← es1] at k
  obtain ⟨τ2, e2⟩ : ∃ τ2, τ2 = uP τ1 s1 [58] := ⟨_, rfl⟩
  rw [← e2] at k
  obtain ⟨s2, es2⟩ : ∃ s2, s2 = s1 + ([58] : List Int32).length := ⟨_, rfl⟩
  rw [← es2] at k
  obtain ⟨τ3, e3⟩ : ∃ τ3, τ3 = uP τ2 s2 (nmL r 6) := ⟨_, rfl⟩
  rw [← e3] at k
  obtain ⟨s3, es3⟩ : ∃ s3, s3 = s2 + (nmL r 6).length := ⟨_, rfl⟩
  rw [← es3] at k
  obtain ⟨τ4, e4⟩ : ∃ τ4, τ4 = uP τ3 s3 [32] := ⟨_, rfl⟩
  rw [← e4] at k
  obtain ⟨s4, es4⟩ : ∃ s4, s4 = s3 + ([32] : List Int32).length := ⟨_, rfl⟩
  rw [← es4] at k
  simp only [List.length_cons, List.length_nil] at es2 es4
  have f1 : τ1.1 320 1 = nI s1 := by rw [e1, uP_n, es1]
  have f2 : τ2.1 320 1 = nI s2 := by rw [e2, uP_n, es2]; rfl
  have f3 : τ3.1 320 1 = nI s3 := by rw [e3, uP_n, es3]
  have f4 : τ4.1 320 1 = nI s4 := by rw [e4, uP_n, es4]; rfl
  have p0 : ∃ q, nI s = nI q ∧ q ≤ 156 := ⟨s, rfl, by omega⟩
  have p1 : preA τ1 58 := ⟨s1, 58, f1, by omega, rfl, by omega⟩
  have p2 : ∃ q, nI s2 = nI q ∧ q ≤ 156 := ⟨s2, rfl, by omega⟩
  have p3 : preA τ3 32 := ⟨s3, 32, f3, by omega, rfl, by omega⟩
  have p4 : ∃ q, nI s4 = nI q ∧ q ≤ 151 := ⟨s4, rfl, by omega⟩
  have c0 : (nI s).toNatClampNeg = s := nI_clamp (by omega)
  have c1 : (nI s1).toNatClampNeg = s1 := nI_clamp (by omega)
  have c2 : (nI s2).toNatClampNeg = s2 := nI_clamp (by omega)
  have c3 : (nI s3).toNatClampNeg = s3 := nI_clamp (by omega)
  have c4 : (nI s4).toNatClampNeg = s4 := nI_clamp (by omega)
  refine jvk_ok TX5_addLine (V := [(19, 2, 5, oX5_add), (23, 2, 5, oX5_addName), (26, 2, 5, oX5_addNumber)]) (S := []) (List.forall_mem_cons.mpr ⟨⟨mX5_add, n + 0, 1, TX5, 2, rfl, by omega, kX5_19, WX5_add, rfl, CX5_add g (n)⟩, (List.forall_mem_cons.mpr ⟨⟨mX5_addName, n + 1, 1, TX5, 2, rfl, by omega, kX5_23, WX5_addName, rfl, CX5_addName g (n)⟩, (List.forall_mem_cons.mpr ⟨⟨mX5_addNumber, n + 1, 1, TX5, 2, rfl, by omega, kX5_26, WX5_addNumber, rfl, CX5_addNumber g (n)⟩, (fun _ h => absurd h List.not_mem_nil)⟩)⟩)⟩) (fun _ h => absurd h List.not_mem_nil) [18] 30 _ _ _ _ ?_
  simp (maxSteps := 1000000) [↓Bool.cond_eq_ite, -Prod.forall, -Prod.exists, -Prod.mk.injEq, jvk, tX5_addLine, jtb, jol, jst, jlk, jcmp, jbin, jfl, fX5, jc2, lX5, jcat, jel, lv_args, Value.category, jins, jsrt, jins2, jble, jblt, jf3, List.filter_cons, List.filter_nil, G_page, oX5_add, oX5_addName, oX5_addNumber, joRI, -Int32.not_le, -Int32.not_lt, -Int64.not_le, -Int64.not_lt, i3lt, i6lt, e52, p0, c0]
  try simp (disch := omega) [-Prod.forall, -Prod.exists, -Prod.mk.injEq, -Int32.not_le, -Int32.not_lt, -Int64.not_le, -Int64.not_lt, i3lt, i6lt, e52, p0, c0]
  rw [← e1]
  refine jvk_ok TX5_addLine (V := [(19, 2, 5, oX5_add), (23, 2, 5, oX5_addName), (26, 2, 5, oX5_addNumber)]) (S := []) (List.forall_mem_cons.mpr ⟨⟨mX5_add, n + 0, 1, TX5, 2, rfl, by omega, kX5_19, WX5_add, rfl, CX5_add g (n)⟩, (List.forall_mem_cons.mpr ⟨⟨mX5_addName, n + 1, 1, TX5, 2, rfl, by omega, kX5_23, WX5_addName, rfl, CX5_addName g (n)⟩, (List.forall_mem_cons.mpr ⟨⟨mX5_addNumber, n + 1, 1, TX5, 2, rfl, by omega, kX5_26, WX5_addNumber, rfl, CX5_addNumber g (n)⟩, (fun _ h => absurd h List.not_mem_nil)⟩)⟩)⟩) (fun _ h => absurd h List.not_mem_nil) [24] 30 _ _ _ _ ?_
  simp (maxSteps := 1000000) [↓Bool.cond_eq_ite, -Prod.forall, -Prod.exists, -Prod.mk.injEq, jvk, tX5_addLine, jtb, jol, jst, jlk, jcmp, jbin, jfl, fX5, jc2, lX5, jcat, jel, lv_args, Value.category, jins, jsrt, jins2, jble, jblt, jf3, List.filter_cons, List.filter_nil, G_page, oX5_add, oX5_addName, oX5_addNumber, joRI, -Int32.not_le, -Int32.not_lt, -Int64.not_le, -Int64.not_lt, i3lt, i6lt, f1, p1, c1]
  try simp (disch := omega) [-Prod.forall, -Prod.exists, -Prod.mk.injEq, -Int32.not_le, -Int32.not_lt, -Int64.not_le, -Int64.not_lt, i3lt, i6lt, f1, p1, c1]
  rw [← e2]
  refine jvk_ok TX5_addLine (V := [(19, 2, 5, oX5_add), (23, 2, 5, oX5_addName), (26, 2, 5, oX5_addNumber)]) (S := []) (List.forall_mem_cons.mpr ⟨⟨mX5_add, n + 0, 1, TX5, 2, rfl, by omega, kX5_19, WX5_add, rfl, CX5_add g (n)⟩, (List.forall_mem_cons.mpr ⟨⟨mX5_addName, n + 1, 1, TX5, 2, rfl, by omega, kX5_23, WX5_addName, rfl, CX5_addName g (n)⟩, (List.forall_mem_cons.mpr ⟨⟨mX5_addNumber, n + 1, 1, TX5, 2, rfl, by omega, kX5_26, WX5_addNumber, rfl, CX5_addNumber g (n)⟩, (fun _ h => absurd h List.not_mem_nil)⟩)⟩)⟩) (fun _ h => absurd h List.not_mem_nil) [29] 30 _ _ _ _ ?_
  simp (maxSteps := 1000000) [↓Bool.cond_eq_ite, -Prod.forall, -Prod.exists, -Prod.mk.injEq, jvk, tX5_addLine, jtb, jol, jst, jlk, jcmp, jbin, jfl, fX5, jc2, lX5, jcat, jel, lv_args, Value.category, jins, jsrt, jins2, jble, jblt, jf3, List.filter_cons, List.filter_nil, G_page, oX5_add, oX5_addName, oX5_addNumber, joRI, -Int32.not_le, -Int32.not_lt, -Int64.not_le, -Int64.not_lt, i3lt, i6lt, f2, p2, c2]
  try simp (disch := omega) [-Prod.forall, -Prod.exists, -Prod.mk.injEq, -Int32.not_le, -Int32.not_lt, -Int64.not_le, -Int64.not_lt, i3lt, i6lt, f2, p2, c2]
  rw [← e3]
  refine jvk_ok TX5_addLine (V := [(19, 2, 5, oX5_add), (23, 2, 5, oX5_addName), (26, 2, 5, oX5_addNumber)]) (S := []) (List.forall_mem_cons.mpr ⟨⟨mX5_add, n + 0, 1, TX5, 2, rfl, by omega, kX5_19, WX5_add, rfl, CX5_add g (n)⟩, (List.forall_mem_cons.mpr ⟨⟨mX5_addName, n + 1, 1, TX5, 2, rfl, by omega, kX5_23, WX5_addName, rfl, CX5_addName g (n)⟩, (List.forall_mem_cons.mpr ⟨⟨mX5_addNumber, n + 1, 1, TX5, 2, rfl, by omega, kX5_26, WX5_addNumber, rfl, CX5_addNumber g (n)⟩, (fun _ h => absurd h List.not_mem_nil)⟩)⟩)⟩) (fun _ h => absurd h List.not_mem_nil) [35] 30 _ _ _ _ ?_
  simp (maxSteps := 1000000) [↓Bool.cond_eq_ite, -Prod.forall, -Prod.exists, -Prod.mk.injEq, jvk, tX5_addLine, jtb, jol, jst, jlk, jcmp, jbin, jfl, fX5, jc2, lX5, jcat, jel, lv_args, Value.category, jins, jsrt, jins2, jble, jblt, jf3, List.filter_cons, List.filter_nil, G_page, oX5_add, oX5_addName, oX5_addNumber, joRI, -Int32.not_le, -Int32.not_lt, -Int64.not_le, -Int64.not_lt, i3lt, i6lt, f3, p3, c3]
  try simp (disch := omega) [-Prod.forall, -Prod.exists, -Prod.mk.injEq, -Int32.not_le, -Int32.not_lt, -Int64.not_le, -Int64.not_lt, i3lt, i6lt, f3, p3, c3]
  rw [← e4]
  refine jvk_ok TX5_addLine (V := [(19, 2, 5, oX5_add), (23, 2, 5, oX5_addName), (26, 2, 5, oX5_addNumber)]) (S := []) (List.forall_mem_cons.mpr ⟨⟨mX5_add, n + 0, 1, TX5, 2, rfl, by omega, kX5_19, WX5_add, rfl, CX5_add g (n)⟩, (List.forall_mem_cons.mpr ⟨⟨mX5_addName, n + 1, 1, TX5, 2, rfl, by omega, kX5_23, WX5_addName, rfl, CX5_addName g (n)⟩, (List.forall_mem_cons.mpr ⟨⟨mX5_addNumber, n + 1, 1, TX5, 2, rfl, by omega, kX5_26, WX5_addNumber, rfl, CX5_addNumber g (n)⟩, (fun _ h => absurd h List.not_mem_nil)⟩)⟩)⟩) (fun _ h => absurd h List.not_mem_nil) [] 30 _ _ _ _ ?_
  simp (maxSteps := 1000000) [↓Bool.cond_eq_ite, -Prod.forall, -Prod.exists, -Prod.mk.injEq, jvk, tX5_addLine, jtb, jol, jst, jlk, jcmp, jbin, jfl, fX5, jc2, lX5, jcat, jel, lv_args, Value.category, jins, jsrt, jins2, jble, jblt, jf3, List.filter_cons, List.filter_nil, G_page, oX5_add, oX5_addName, oX5_addNumber, joRI, -Int32.not_le, -Int32.not_lt, -Int64.not_le, -Int64.not_lt, i3lt, i6lt, hz, f4, p4, c4]
  try simp (disch := omega) [-Prod.forall, -Prod.exists, -Prod.mk.injEq, -Int32.not_le, -Int32.not_lt, -Int64.not_le, -Int64.not_lt, i3lt, i6lt, hz, f4, p4, c4]
  exact k
set_option maxRecDepth 100000 in
set_option maxHeartbeats 4000000 in
theorem CX5_addLine (g : jG) (n : Nat) : jOk g (n + 2) mX5_addLine oX5_addLine := by
  refine joRIII_ok ?_
  rintro _ p r y σ ⟨rfl, ⟨s, hs, hs4⟩, hz⟩
  have a2 : (nI s).toNatClampNeg = s := nI_clamp (by omega)
  refine jCon.ofP (by decide +kernel) (by simp [lg_sl, Value.category]) (fun post hp => ?_)
  rw [hs, a2] at hp
  by_cases c : s = 0
  · have c1 : nI s ≤ 0 := by rw [c]; decide
    rw [if_pos c, List.nil_append] at hp
    have k1 := CAl_line g n (post := post) (τ := σ) (p := p) (r := r) (s := s) (by omega) hs hz (hp _ _ ⟨rfl, rfl⟩)
    refine jvk_ok TX5_addLine (V := [(19, 2, 5, oX5_add), (23, 2, 5, oX5_addName), (26, 2, 5, oX5_addNumber)]) (S := []) (List.forall_mem_cons.mpr ⟨⟨mX5_add, n + 0, 1, TX5, 2, rfl, by omega, kX5_19, WX5_add, rfl, CX5_add g (n)⟩, (List.forall_mem_cons.mpr ⟨⟨mX5_addName, n + 1, 1, TX5, 2, rfl, by omega, kX5_23, WX5_addName, rfl, CX5_addName g (n)⟩, (List.forall_mem_cons.mpr ⟨⟨mX5_addNumber, n + 1, 1, TX5, 2, rfl, by omega, kX5_26, WX5_addNumber, rfl, CX5_addNumber g (n)⟩, (fun _ h => absurd h List.not_mem_nil)⟩)⟩)⟩) (fun _ h => absurd h List.not_mem_nil) [13] 20 _ _ _ _ ?_
    simp (maxSteps := 1000000) [↓Bool.cond_eq_ite, -Prod.forall, -Prod.exists, -Prod.mk.injEq, jvk, tX5_addLine, jtb, jol, jst, jlk, jcmp, jbin, jfl, fX5, jc2, lX5, jcat, jel, lv_args, Value.category, jins, jsrt, jins2, jble, jblt, jf3, List.filter_cons, List.filter_nil, G_page, oX5_add, oX5_addName, oX5_addNumber, joRI, -Int32.not_le, -Int32.not_lt, -Int64.not_le, -Int64.not_lt, i3lt, i6lt, hs, c1]
    try simp (disch := omega) [-Prod.forall, -Prod.exists, -Prod.mk.injEq, -Int32.not_le, -Int32.not_lt, -Int64.not_le, -Int64.not_lt, i3lt, i6lt, hs, c1]
    exact k1
  · have c1 : ¬ nI s ≤ 0 := nI_nle (by omega) (by omega)
    rw [if_neg c, ← uP_app] at hp
    have hpre : preA σ 59 := ⟨s, 59, hs, by omega, rfl, by omega⟩
    have k1 := CAl_line g n (post := post) (τ := uP σ s [59]) (p := p) (r := r) (s := s + ([59] : List Int32).length) (by simp; omega) (uP_n _ _ _) hz (hp _ _ ⟨rfl, rfl⟩)
    refine jvk_ok TX5_addLine (V := [(19, 2, 5, oX5_add), (23, 2, 5, oX5_addName), (26, 2, 5, oX5_addNumber)]) (S := []) (List.forall_mem_cons.mpr ⟨⟨mX5_add, n + 0, 1, TX5, 2, rfl, by omega, kX5_19, WX5_add, rfl, CX5_add g (n)⟩, (List.forall_mem_cons.mpr ⟨⟨mX5_addName, n + 1, 1, TX5, 2, rfl, by omega, kX5_23, WX5_addName, rfl, CX5_addName g (n)⟩, (List.forall_mem_cons.mpr ⟨⟨mX5_addNumber, n + 1, 1, TX5, 2, rfl, by omega, kX5_26, WX5_addNumber, rfl, CX5_addNumber g (n)⟩, (fun _ h => absurd h List.not_mem_nil)⟩)⟩)⟩) (fun _ h => absurd h List.not_mem_nil) [13] 20 _ _ _ _ ?_
    simp (maxSteps := 1000000) [↓Bool.cond_eq_ite, -Prod.forall, -Prod.exists, -Prod.mk.injEq, jvk, tX5_addLine, jtb, jol, jst, jlk, jcmp, jbin, jfl, fX5, jc2, lX5, jcat, jel, lv_args, Value.category, jins, jsrt, jins2, jble, jblt, jf3, List.filter_cons, List.filter_nil, G_page, oX5_add, oX5_addName, oX5_addNumber, joRI, -Int32.not_le, -Int32.not_lt, -Int64.not_le, -Int64.not_lt, i3lt, i6lt, hs, c1, hpre, a2]
    try simp (disch := omega) [-Prod.forall, -Prod.exists, -Prod.mk.injEq, -Int32.not_le, -Int32.not_lt, -Int64.not_le, -Int64.not_lt, i3lt, i6lt, hs, c1, hpre, a2]
    exact k1
