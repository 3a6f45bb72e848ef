/-! the reference: settings of a text -/
theorem tk_w {σ : jM} {s : Nat} (hs : tk σ s) {l : List Nat} (hl : wdOK l) {w : Int64} (hw : w = lN (hL l)) : (σ.1 322 41 = 0 ∧ σ.1 322 37 = 1 ∧ σ.2.1 322 39 = w) = (isW (tB σ) (tL σ) s l = true) := by
  subst hw
  refine propext ⟨fun z => ?_, fun z => ?_⟩
  · have k2 := tkc_1.mp (hs.2.2.2.2.1.symm.trans z.2.1)
    exact (isW_wh k2 hl).mp (by rw [← (hs.2.2.2.2.2.2.2 k2).2, z.2.2])
  · have k2 := isW_kn z
    exact ⟨hs.2.1, hs.2.2.2.2.1.trans (tkc_1.mpr k2), by rw [(hs.2.2.2.2.2.2.2 k2).2, (isW_wh k2 hl).mpr z]⟩
theorem wN_all : (605677 : Int64) = lN (hL wRoom) ∧ (542723566 : Int64) = lN (hL wPerson) ∧ (463 : Int64) = lN (hL wNo) ∧ (12748389 : Int64) = lN (hL wLease) ∧ (4480027956 : Int64) = lN (hL wDeposit) ∧ (536622 : Int64) = lN (hL wPlan) ∧ (19636 : Int64) = lN (hL wSet) ∧ (442114532 : Int64) = lN (hL wMethod) ∧ (12791 : Int64) = lN (hL wLow) ∧ (271592 : Int64) = lN (hL wHigh) ∧ (445780357 : Int64) = lN (hL wMiddle) ∧ (20186693 : Int64) = lN (hL wShare) ∧ (54927 : Int64) = lN (hL wAuto) := by
  obtain ⟨a1, a2, a3, a4, a5, a6, a7, a8, a9, a10, a11, a12, a13⟩ := hL_all
  rw [a1, a2, a3, a4, a5, a6, a7, a8, a9, a10, a11, a12, a13]
  exact ⟨rfl, rfl, rfl, rfl, rfl, rfl, rfl, rfl, rfl, rfl, rfl, rfl, rfl⟩
def oX12_readSet : jO := joR fun a σ => (a = 322 ∧ rT σ ∧ rSz σ ∧ ∃ s, tk σ s, fun v τ => v = none ∧ jfr aRd bTk σ τ ∧ rT τ ∧ rSz τ ∧ ∀ s μ, tk σ s → rdA σ μ → rRes τ (pSet (tB σ) (tL σ) s μ))
/-! behind the setting's name -/
set_option maxRecDepth 100000 in
set_option maxHeartbeats 4000000 in
theorem CSe_b (g : jG) (n : Nat) {post : Option Value → jM → Prop} {σ : jM} (h : rT σ) (hz : rSz σ) {s1 : Nat} (hs : tk σ s1) {k : Nat} (hk : k ≤ 2)
    (kk : ∀ τ, jfr aRd bTk σ τ → rT τ → rSz τ → (∀ μ, rdA σ μ → rRes τ (if gv μ k = true then .inl (-14, s1)
      else if k = 0 then (if pMeth (tB σ) (tL σ) (nx (tB σ) (tL σ) s1) = 3 then .inl (-11, nx (tB σ) (tL σ) s1) else .inr (nx (tB σ) (tL σ) (nx (tB σ) (tL σ) s1), u1 (gvS μ 0) 347 0 (nI (pMeth (tB σ) (tL σ) (nx (tB σ) (tL σ) s1)))))
      else match pInt (tB σ) (tL σ) (if k = 1 then 100 else 1) (nx (tB σ) (tL σ) s1) with
        | .inl e => .inl e
        | .inr v => .inr (nx (tB σ) (tL σ) (nx (tB σ) (tL σ) s1), u1 (gvS μ k) 347 k (nI v)))) → post none τ) :
    jW g mX12_readSet (n + 3) post 47 [(0, .ref 322)] [.int (nI k)] σ := by
  have f0 := hs.2.1
  have e36 := hs.2.2.1
  have n1 : ¬ nI k < 0 := nI_pos (by omega)
  have n2 : 0 ≤ nI k := nI_pos' (by omega)
  have eck : (nI k).toNatClampNeg = k := nI_clamp (by omega)
  have jk : jin (nI k) 208 := jin_nI (by omega) (by decide)
  obtain ⟨s2, es2⟩ : ∃ s2, s2 = nx (tB σ) (tL σ) s1 := ⟨_, rfl⟩
  rw [← es2] at kk
  have hmo : mMost (nI k) = if k = 1 then 100 else if k = 0 then 2 else 1 := by
    rcases k with _ | _ | _ | k
    · rfl
    · rfl
    · rfl
    · omega
  by_cases c : (σ.1 322 49 >>> (nI k &&& 31)) &&& 1 = 0
  · obtain ⟨ρ, eρ⟩ : ∃ ρ, ρ = jup σ 322 49 (σ.1 322 49 ||| (1 <<< (nI k &&& 31))) := ⟨_, rfl⟩
    have tρ : tk ρ s1 := by rw [eρ]; exact hs
    have rρ : rT ρ := by rw [eρ]; exact h
    have fρ : ρ.1 322 41 = 0 := tρ.2.1
    have gρ : tB ρ = tB σ ∧ tL ρ = tL σ := by rw [eρ]; exact ⟨rfl, rfl⟩
    have hμρ : ∀ μ, rdA σ μ → rdA ρ (gvS μ k) := fun μ hμ => by
      rw [eρ]
      unfold gvS
      rw [(rdA_n hμ).2.2.2]
      exact rdA_up hμ _ _ _
    refine jvk_ok TX12_readSet (V := [(313, 1, 12, oX12_advance), (329, 2, 12, oX12_isWord), (309, 3, 12, oX12_check), (325, 2, 12, oX12_integer)]) (S := [(263, 1, 0, oX12_mostOf)]) (List.forall_mem_cons.mpr ⟨⟨mX12_advance, n + 1, 0, TX12, 53, rfl, by omega, kX12_313, WX12_advance, rfl, CX12_advance g (n)⟩, (List.forall_mem_cons.mpr ⟨⟨mX12_isWord, n + 0, 1, TX12, 53, rfl, by omega, kX12_329, WX12_isWord, rfl, CX12_isWord g (n)⟩, (List.forall_mem_cons.mpr ⟨⟨mX12_check, n + 0, 2, TX12, 53, rfl, by omega, kX12_309, WX12_check, rfl, CX12_check g (n)⟩, (List.forall_mem_cons.mpr ⟨⟨mX12_integer, n + 2, 1, TX12, 53, rfl, by omega, kX12_325, WX12_integer, rfl, CX12_integer g (n)⟩, (fun _ h => absurd h List.not_mem_nil)⟩)⟩)⟩)⟩) (List.forall_mem_cons.mpr ⟨⟨mX12_mostOf, n + 0, by omega, Or.inl kX12_263, WX12_mostOf, CX12_mostOf g (n)⟩, (fun _ h => absurd h List.not_mem_nil)⟩) [104] 60 _ _ _ _ ?_
    simp (maxSteps := 1000000) [-Prod.forall, -Prod.exists, -Prod.mk.injEq, jvk, tX12_readSet, jtb, jol, jst, jlk, jcmp, jbin, jfl, fX12, jc2, lX12, jcat, jel, lv_args, Value.category, jins, jsrt, jins2, jble, jblt, jf3, List.filter_cons, List.filter_nil, G_m, oX12_advance, oX12_isWord, oX12_check, oX12_mostOf, oX12_integer, joI, joR, joRI, joRII, joRJ, -Int32.not_le, -Int32.not_lt, -Int64.not_le, -Int64.not_lt, i3lt, i6lt, n1, n2, c, f0, jup_1]
    try simp (disch := omega) [-Prod.forall, -Prod.exists, -Prod.mk.injEq, -Int32.not_le, -Int32.not_lt, -Int64.not_le, -Int64.not_lt, i3lt, i6lt, n1, n2, c, f0, jup_1]
    rw [← eρ]
    refine jvk_ok TX12_readSet (V := [(313, 1, 12, oX12_advance), (329, 2, 12, oX12_isWord), (309, 3, 12, oX12_check), (325, 2, 12, oX12_integer)]) (S := [(263, 1, 0, oX12_mostOf)]) (List.forall_mem_cons.mpr ⟨⟨mX12_advance, n + 1, 0, TX12, 53, rfl, by omega, kX12_313, WX12_advance, rfl, CX12_advance g (n)⟩, (List.forall_mem_cons.mpr ⟨⟨mX12_isWord, n + 0, 1, TX12, 53, rfl, by omega, kX12_329, WX12_isWord, rfl, CX12_isWord g (n)⟩, (List.forall_mem_cons.mpr ⟨⟨mX12_check, n + 0, 2, TX12, 53, rfl, by omega, kX12_309, WX12_check, rfl, CX12_check g (n)⟩, (List.forall_mem_cons.mpr ⟨⟨mX12_integer, n + 2, 1, TX12, 53, rfl, by omega, kX12_325, WX12_integer, rfl, CX12_integer g (n)⟩, (fun _ h => absurd h List.not_mem_nil)⟩)⟩)⟩)⟩) (List.forall_mem_cons.mpr ⟨⟨mX12_mostOf, n + 0, by omega, Or.inl kX12_263, WX12_mostOf, CX12_mostOf g (n)⟩, (fun _ h => absurd h List.not_mem_nil)⟩) [109] 60 _ _ _ _ ?_
    simp (maxSteps := 1000000) [-Prod.forall, -Prod.exists, -Prod.mk.injEq, jvk, tX12_readSet, jtb, jol, jst, jlk, jcmp, jbin, jfl, fX12, jc2, lX12, jcat, jel, lv_args, Value.category, jins, jsrt, jins2, jble, jblt, jf3, List.filter_cons, List.filter_nil, G_m, oX12_advance, oX12_isWord, oX12_check, oX12_mostOf, oX12_integer, joI, joR, joRI, joRII, joRJ, -Int32.not_le, -Int32.not_lt, -Int64.not_le, -Int64.not_lt, i3lt, i6lt, rρ]
    try simp (disch := omega) [-Prod.forall, -Prod.exists, -Prod.mk.injEq, -Int32.not_le, -Int32.not_lt, -Int64.not_le, -Int64.not_lt, i3lt, i6lt, rρ]
    intro v1 τ1 hv1 a1 a2
    subst hv1
    obtain ⟨b1, b2, b3⟩ := a2 fρ
    rw [tk_nx rρ tρ, gρ.1, gρ.2, ← es2] at b3
    have w1 : jfr aIn bTk ρ τ1 := b1.weak (fun a j q => in_Tk a j q) (fun _ q => q)
    obtain ⟨c1, c2⟩ := in_fr w1
    rw [gρ.1] at c1
    rw [gρ.2] at c2
    have fr1 : jfr aRd bTk σ τ1 := ((by rw [eρ]; exact jfr.rfl.up _ rfl : jfr aRd bTk σ ρ)).tr (w1.weak (fun a j q => rd_In a j q) (fun _ q => q))
    have sz1 : rSz τ1 := rSz_fr (by rw [eρ]; exact hz : rSz ρ) w1 rfl rfl rfl
    have hx1 : ∃ s, tk τ1 s := ⟨_, b3⟩
    by_cases k0 : k = 0
    · subst k0
      have z0 : nI 0 = 0 := nI_0
      have t1 := tk_w b3 wd_all.2.2.2.2.2.2.2.2.1 wN_all.2.2.2.2.2.2.2.2.1
      have t2 := tk_w b3 wd_all.2.2.2.2.2.2.2.2.2.1 wN_all.2.2.2.2.2.2.2.2.2.1
      have t3 := tk_w b3 wd_all.2.2.2.2.2.2.2.2.2.2.1 wN_all.2.2.2.2.2.2.2.2.2.2.1
      rw [c1, c2] at t1 t2 t3
      have fin : ∀ m : Nat, m ≤ 2 → pMeth (tB σ) (tL σ) s2 = m → jW g mX12_readSet (n + 3) post 171 [(0, .ref 322), (1, .int 0)] [.int (nI m)] τ1 := fun m hm hpm => by
        have m1 : ¬ nI m < 0 := nI_pos (by omega)
        have m2 : 0 ≤ nI m := nI_pos' (by omega)
        have f1 := b3.2.1
        obtain ⟨ν, eν⟩ : ∃ ν, ν = jup τ1 347 0 (nI m) := ⟨_, rfl⟩
        have tν : tk ν s2 := by rw [eν]; exact b3
        have rν : rT ν := by rw [eν]; exact b2
        have fν : ν.1 322 41 = 0 := tν.2.1
        have gν : tB ν = tB σ ∧ tL ν = tL σ := by rw [eν]; exact ⟨c1, c2⟩
        refine jvk_ok TX12_readSet (V := [(313, 1, 12, oX12_advance), (329, 2, 12, oX12_isWord), (309, 3, 12, oX12_check), (325, 2, 12, oX12_integer)]) (S := [(263, 1, 0, oX12_mostOf)]) (List.forall_mem_cons.mpr ⟨⟨mX12_advance, n + 1, 0, TX12, 53, rfl, by omega, kX12_313, WX12_advance, rfl, CX12_advance g (n)⟩, (List.forall_mem_cons.mpr ⟨⟨mX12_isWord, n + 0, 1, TX12, 53, rfl, by omega, kX12_329, WX12_isWord, rfl, CX12_isWord g (n)⟩, (List.forall_mem_cons.mpr ⟨⟨mX12_check, n + 0, 2, TX12, 53, rfl, by omega, kX12_309, WX12_check, rfl, CX12_check g (n)⟩, (List.forall_mem_cons.mpr ⟨⟨mX12_integer, n + 2, 1, TX12, 53, rfl, by omega, kX12_325, WX12_integer, rfl, CX12_integer g (n)⟩, (fun _ h => absurd h List.not_mem_nil)⟩)⟩)⟩)⟩) (List.forall_mem_cons.mpr ⟨⟨mX12_mostOf, n + 0, by omega, Or.inl kX12_263, WX12_mostOf, CX12_mostOf g (n)⟩, (fun _ h => absurd h List.not_mem_nil)⟩) [194] 60 _ _ _ _ ?_
        simp (maxSteps := 1000000) [-Prod.forall, -Prod.exists, -Prod.mk.injEq, jvk, tX12_readSet, jtb, jol, jst, jlk, jcmp, jbin, jfl, fX12, jc2, lX12, jcat, jel, lv_args, Value.category, jins, jsrt, jins2, jble, jblt, jf3, List.filter_cons, List.filter_nil, G_m, oX12_advance, oX12_isWord, oX12_check, oX12_mostOf, oX12_integer, joI, joR, joRI, joRII, joRJ, -Int32.not_le, -Int32.not_lt, -Int64.not_le, -Int64.not_lt, i3lt, i6lt, m1, m2, f1, jin_d, tn_c]
        try simp (disch := omega) [-Prod.forall, -Prod.exists, -Prod.mk.injEq, -Int32.not_le, -Int32.not_lt, -Int64.not_le, -Int64.not_lt, i3lt, i6lt, m1, m2, f1, jin_d, tn_c]
        rw [← eν]
        refine jvk_ok TX12_readSet (V := [(313, 1, 12, oX12_advance), (329, 2, 12, oX12_isWord), (309, 3, 12, oX12_check), (325, 2, 12, oX12_integer)]) (S := [(263, 1, 0, oX12_mostOf)]) (List.forall_mem_cons.mpr ⟨⟨mX12_advance, n + 1, 0, TX12, 53, rfl, by omega, kX12_313, WX12_advance, rfl, CX12_advance g (n)⟩, (List.forall_mem_cons.mpr ⟨⟨mX12_isWord, n + 0, 1, TX12, 53, rfl, by omega, kX12_329, WX12_isWord, rfl, CX12_isWord g (n)⟩, (List.forall_mem_cons.mpr ⟨⟨mX12_check, n + 0, 2, TX12, 53, rfl, by omega, kX12_309, WX12_check, rfl, CX12_check g (n)⟩, (List.forall_mem_cons.mpr ⟨⟨mX12_integer, n + 2, 1, TX12, 53, rfl, by omega, kX12_325, WX12_integer, rfl, CX12_integer g (n)⟩, (fun _ h => absurd h List.not_mem_nil)⟩)⟩)⟩)⟩) (List.forall_mem_cons.mpr ⟨⟨mX12_mostOf, n + 0, by omega, Or.inl kX12_263, WX12_mostOf, CX12_mostOf g (n)⟩, (fun _ h => absurd h List.not_mem_nil)⟩) [198] 60 _ _ _ _ ?_
        simp (maxSteps := 1000000) [-Prod.forall, -Prod.exists, -Prod.mk.injEq, jvk, tX12_readSet, jtb, jol, jst, jlk, jcmp, jbin, jfl, fX12, jc2, lX12, jcat, jel, lv_args, Value.category, jins, jsrt, jins2, jble, jblt, jf3, List.filter_cons, List.filter_nil, G_m, oX12_advance, oX12_isWord, oX12_check, oX12_mostOf, oX12_integer, joI, joR, joRI, joRII, joRJ, -Int32.not_le, -Int32.not_lt, -Int64.not_le, -Int64.not_lt, i3lt, i6lt, rν]
        try simp (disch := omega) [-Prod.forall, -Prod.exists, -Prod.mk.injEq, -Int32.not_le, -Int32.not_lt, -Int64.not_le, -Int64.not_lt, i3lt, i6lt, rν]
        intro v2 τ2 hv2 d1 d2
        subst hv2
        obtain ⟨d3, d4, d5⟩ := d2 fν
        rw [tk_nx rν tν, gν.1, gν.2] at d5
        have w2 : jfr aIn bTk ν τ2 := d3.weak (fun a j q => in_Tk a j q) (fun _ q => q)
        refine jvk_ok TX12_readSet (V := [(313, 1, 12, oX12_advance), (329, 2, 12, oX12_isWord), (309, 3, 12, oX12_check), (325, 2, 12, oX12_integer)]) (S := [(263, 1, 0, oX12_mostOf)]) (List.forall_mem_cons.mpr ⟨⟨mX12_advance, n + 1, 0, TX12, 53, rfl, by omega, kX12_313, WX12_advance, rfl, CX12_advance g (n)⟩, (List.forall_mem_cons.mpr ⟨⟨mX12_isWord, n + 0, 1, TX12, 53, rfl, by omega, kX12_329, WX12_isWord, rfl, CX12_isWord g (n)⟩, (List.forall_mem_cons.mpr ⟨⟨mX12_check, n + 0, 2, TX12, 53, rfl, by omega, kX12_309, WX12_check, rfl, CX12_check g (n)⟩, (List.forall_mem_cons.mpr ⟨⟨mX12_integer, n + 2, 1, TX12, 53, rfl, by omega, kX12_325, WX12_integer, rfl, CX12_integer g (n)⟩, (fun _ h => absurd h List.not_mem_nil)⟩)⟩)⟩)⟩) (List.forall_mem_cons.mpr ⟨⟨mX12_mostOf, n + 0, by omega, Or.inl kX12_263, WX12_mostOf, CX12_mostOf g (n)⟩, (fun _ h => absurd h List.not_mem_nil)⟩) [] 10 _ _ _ _ ?_
        simp (maxSteps := 1000000) [-Prod.forall, -Prod.exists, -Prod.mk.injEq, jvk, tX12_readSet, jtb, jol, jst, jlk, jcmp, jbin, jfl, fX12, jc2, lX12, jcat, jel, lv_args, Value.category, jins, jsrt, jins2, jble, jblt, jf3, List.filter_cons, List.filter_nil, G_m, oX12_advance, oX12_isWord, oX12_check, oX12_mostOf, oX12_integer, joI, joR, joRI, joRII, joRJ, -Int32.not_le, -Int32.not_lt, -Int64.not_le, -Int64.not_lt, i3lt, i6lt]
        try simp (disch := omega) [-Prod.forall, -Prod.exists, -Prod.mk.injEq, -Int32.not_le, -Int32.not_lt, -Int64.not_le, -Int64.not_lt, i3lt, i6lt]
        refine kk _ ((by rw [eν]; exact fr1.up _ rfl : jfr aRd bTk σ ν).tr (w2.weak (fun a j q => rd_In a j q) (fun _ q => q))) d4 (rSz_fr (by rw [eν]; exact sz1 : rSz ν) w2 rfl rfl rfl) (fun μ hμ => ?_)
        rw [gv_eq hμ, if_neg (by simpa using c), if_pos rfl, if_neg (by rw [hpm]; omega), hpm]
        refine ⟨d5, rdA_fr ?_ w2⟩
        rw [eν]
        exact rdA_up (rdA_fr (hμρ μ hμ) w1) _ _ _
      have fin3 : pMeth (tB σ) (tL σ) s2 = 3 → jW g mX12_readSet (n + 3) post 171 [(0, .ref 322), (1, .int 0)] [.int (-1)] τ1 := fun hpm => by
        have m1 : (-1 : Int32) < 0 := by decide
        have m2 : ¬ (0 : Int32) ≤ -1 := not_m1
        have f1 := b3.2.1
        obtain ⟨ν, eν⟩ : ∃ ν, ν = jup (jup τ1 322 41 (-11)) 347 0 (-1) := ⟨_, rfl⟩
        have rν : rT ν := by rw [eν]; exact b2
        have fν : ¬ ν.1 322 41 = 0 := by rw [eν]; simp only [jup_1]; decide
        refine jvk_ok TX12_readSet (V := [(313, 1, 12, oX12_advance), (329, 2, 12, oX12_isWord), (309, 3, 12, oX12_check), (325, 2, 12, oX12_integer)]) (S := [(263, 1, 0, oX12_mostOf)]) (List.forall_mem_cons.mpr ⟨⟨mX12_advance, n + 1, 0, TX12, 53, rfl, by omega, kX12_313, WX12_advance, rfl, CX12_advance g (n)⟩, (List.forall_mem_cons.mpr ⟨⟨mX12_isWord, n + 0, 1, TX12, 53, rfl, by omega, kX12_329, WX12_isWord, rfl, CX12_isWord g (n)⟩, (List.forall_mem_cons.mpr ⟨⟨mX12_check, n + 0, 2, TX12, 53, rfl, by omega, kX12_309, WX12_check, rfl, CX12_check g (n)⟩, (List.forall_mem_cons.mpr ⟨⟨mX12_integer, n + 2, 1, TX12, 53, rfl, by omega, kX12_325, WX12_integer, rfl, CX12_integer g (n)⟩, (fun _ h => absurd h List.not_mem_nil)⟩)⟩)⟩)⟩) (List.forall_mem_cons.mpr ⟨⟨mX12_mostOf, n + 0, by omega, Or.inl kX12_263, WX12_mostOf, CX12_mostOf g (n)⟩, (fun _ h => absurd h List.not_mem_nil)⟩) [194] 60 _ _ _ _ ?_
        simp (maxSteps := 1000000) [-Prod.forall, -Prod.exists, -Prod.mk.injEq, jvk, tX12_readSet, jtb, jol, jst, jlk, jcmp, jbin, jfl, fX12, jc2, lX12, jcat, jel, lv_args, Value.category, jins, jsrt, jins2, jble, jblt, jf3, List.filter_cons, List.filter_nil, G_m, oX12_advance, oX12_isWord, oX12_check, oX12_mostOf, oX12_integer, joI, joR, joRI, joRII, joRJ, -Int32.not_le, -Int32.not_lt, -Int64.not_le, -Int64.not_lt, i3lt, i6lt, m1, m2, f1, i11, jin_d, tn_c]
        try simp (disch := omega) [-Prod.forall, -Prod.exists, -Prod.mk.injEq, -Int32.not_le, -Int32.not_lt, -Int64.not_le, -Int64.not_lt, i3lt, i6lt, m1, m2, f1, i11, jin_d, tn_c]
        rw [← eν]
        refine jvk_ok TX12_readSet (V := [(313, 1, 12, oX12_advance), (329, 2, 12, oX12_isWord), (309, 3, 12, oX12_check), (325, 2, 12, oX12_integer)]) (S := [(263, 1, 0, oX12_mostOf)]) (List.forall_mem_cons.mpr ⟨⟨mX12_advance, n + 1, 0, TX12, 53, rfl, by omega, kX12_313, WX12_advance, rfl, CX12_advance g (n)⟩, (List.forall_mem_cons.mpr ⟨⟨mX12_isWord, n + 0, 1, TX12, 53, rfl, by omega, kX12_329, WX12_isWord, rfl, CX12_isWord g (n)⟩, (List.forall_mem_cons.mpr ⟨⟨mX12_check, n + 0, 2, TX12, 53, rfl, by omega, kX12_309, WX12_check, rfl, CX12_check g (n)⟩, (List.forall_mem_cons.mpr ⟨⟨mX12_integer, n + 2, 1, TX12, 53, rfl, by omega, kX12_325, WX12_integer, rfl, CX12_integer g (n)⟩, (fun _ h => absurd h List.not_mem_nil)⟩)⟩)⟩)⟩) (List.forall_mem_cons.mpr ⟨⟨mX12_mostOf, n + 0, by omega, Or.inl kX12_263, WX12_mostOf, CX12_mostOf g (n)⟩, (fun _ h => absurd h List.not_mem_nil)⟩) [198] 60 _ _ _ _ ?_
        simp (maxSteps := 1000000) [-Prod.forall, -Prod.exists, -Prod.mk.injEq, jvk, tX12_readSet, jtb, jol, jst, jlk, jcmp, jbin, jfl, fX12, jc2, lX12, jcat, jel, lv_args, Value.category, jins, jsrt, jins2, jble, jblt, jf3, List.filter_cons, List.filter_nil, G_m, oX12_advance, oX12_isWord, oX12_check, oX12_mostOf, oX12_integer, joI, joR, joRI, joRII, joRJ, -Int32.not_le, -Int32.not_lt, -Int64.not_le, -Int64.not_lt, i3lt, i6lt, rν, fν]
        try simp (disch := omega) [-Prod.forall, -Prod.exists, -Prod.mk.injEq, -Int32.not_le, -Int32.not_lt, -Int64.not_le, -Int64.not_lt, i3lt, i6lt, rν, fν]
        refine jvk_ok TX12_readSet (V := [(313, 1, 12, oX12_advance), (329, 2, 12, oX12_isWord), (309, 3, 12, oX12_check), (325, 2, 12, oX12_integer)]) (S := [(263, 1, 0, oX12_mostOf)]) (List.forall_mem_cons.mpr ⟨⟨mX12_advance, n + 1, 0, TX12, 53, rfl, by omega, kX12_313, WX12_advance, rfl, CX12_advance g (n)⟩, (List.forall_mem_cons.mpr ⟨⟨mX12_isWord, n + 0, 1, TX12, 53, rfl, by omega, kX12_329, WX12_isWord, rfl, CX12_isWord g (n)⟩, (List.forall_mem_cons.mpr ⟨⟨mX12_check, n + 0, 2, TX12, 53, rfl, by omega, kX12_309, WX12_check, rfl, CX12_check g (n)⟩, (List.forall_mem_cons.mpr ⟨⟨mX12_integer, n + 2, 1, TX12, 53, rfl, by omega, kX12_325, WX12_integer, rfl, CX12_integer g (n)⟩, (fun _ h => absurd h List.not_mem_nil)⟩)⟩)⟩)⟩) (List.forall_mem_cons.mpr ⟨⟨mX12_mostOf, n + 0, by omega, Or.inl kX12_263, WX12_mostOf, CX12_mostOf g (n)⟩, (fun _ h => absurd h List.not_mem_nil)⟩) [] 10 _ _ _ _ ?_
        simp (maxSteps := 1000000) [-Prod.forall, -Prod.exists, -Prod.mk.injEq, jvk, tX12_readSet, jtb, jol, jst, jlk, jcmp, jbin, jfl, fX12, jc2, lX12, jcat, jel, lv_args, Value.category, jins, jsrt, jins2, jble, jblt, jf3, List.filter_cons, List.filter_nil, G_m, oX12_advance, oX12_isWord, oX12_check, oX12_mostOf, oX12_integer, joI, joR, joRI, joRII, joRJ, -Int32.not_le, -Int32.not_lt, -Int64.not_le, -Int64.not_lt, i3lt, i6lt]
        try simp (disch := omega) [-Prod.forall, -Prod.exists, -Prod.mk.injEq, -Int32.not_le, -Int32.not_lt, -Int64.not_le, -Int64.not_lt, i3lt, i6lt]
        refine kk _ (by rw [eν]; exact (fr1.up _ rfl).up _ rfl) rν (by rw [eν]; exact sz1) (fun μ hμ => ?_)
        rw [gv_eq hμ, if_neg (by simpa using c), if_pos rfl, if_pos hpm, eν]
        exact ⟨rfl, i11.1, b3.2.2.1⟩
      by_cases q1 : isW (tB σ) (tL σ) s2 wLow = true
      · have k1 := fin 0 (by omega) (by unfold pMeth; rw [if_pos q1])
        rw [z0] at k1
        refine jvk_ok TX12_readSet (V := [(313, 1, 12, oX12_advance), (329, 2, 12, oX12_isWord), (309, 3, 12, oX12_check), (325, 2, 12, oX12_integer)]) (S := [(263, 1, 0, oX12_mostOf)]) (List.forall_mem_cons.mpr ⟨⟨mX12_advance, n + 1, 0, TX12, 53, rfl, by omega, kX12_313, WX12_advance, rfl, CX12_advance g (n)⟩, (List.forall_mem_cons.mpr ⟨⟨mX12_isWord, n + 0, 1, TX12, 53, rfl, by omega, kX12_329, WX12_isWord, rfl, CX12_isWord g (n)⟩, (List.forall_mem_cons.mpr ⟨⟨mX12_check, n + 0, 2, TX12, 53, rfl, by omega, kX12_309, WX12_check, rfl, CX12_check g (n)⟩, (List.forall_mem_cons.mpr ⟨⟨mX12_integer, n + 2, 1, TX12, 53, rfl, by omega, kX12_325, WX12_integer, rfl, CX12_integer g (n)⟩, (fun _ h => absurd h List.not_mem_nil)⟩)⟩)⟩)⟩) (List.forall_mem_cons.mpr ⟨⟨mX12_mostOf, n + 0, by omega, Or.inl kX12_263, WX12_mostOf, CX12_mostOf g (n)⟩, (fun _ h => absurd h List.not_mem_nil)⟩) [171] 60 _ _ _ _ ?_
        simp (maxSteps := 1000000) [-Prod.forall, -Prod.exists, -Prod.mk.injEq, jvk, tX12_readSet, jtb, jol, jst, jlk, jcmp, jbin, jfl, fX12, jc2, lX12, jcat, jel, lv_args, Value.category, jins, jsrt, jins2, jble, jblt, jf3, List.filter_cons, List.filter_nil, G_m, oX12_advance, oX12_isWord, oX12_check, oX12_mostOf, oX12_integer, joI, joR, joRI, joRII, joRJ, -Int32.not_le, -Int32.not_lt, -Int64.not_le, -Int64.not_lt, i3lt, i6lt, z0, t1, q1]
        try simp (disch := omega) [-Prod.forall, -Prod.exists, -Prod.mk.injEq, -Int32.not_le, -Int32.not_lt, -Int64.not_le, -Int64.not_lt, i3lt, i6lt, z0, t1, q1]
        exact k1
      · by_cases q2 : isW (tB σ) (tL σ) s2 wHigh = true
        · have k1 := fin 1 (by omega) (by unfold pMeth; rw [if_neg q1, if_pos q2])
          have z1 : nI 1 = 1 := rfl
          rw [z1] at k1
          refine jvk_ok TX12_readSet (V := [(313, 1, 12, oX12_advance), (329, 2, 12, oX12_isWord), (309, 3, 12, oX12_check), (325, 2, 12, oX12_integer)]) (S := [(263, 1, 0, oX12_mostOf)]) (List.forall_mem_cons.mpr ⟨⟨mX12_advance, n + 1, 0, TX12, 53, rfl, by omega, kX12_313, WX12_advance, rfl, CX12_advance g (n)⟩, (List.forall_mem_cons.mpr ⟨⟨mX12_isWord, n + 0, 1, TX12, 53, rfl, by omega, kX12_329, WX12_isWord, rfl, CX12_isWord g (n)⟩, (List.forall_mem_cons.mpr ⟨⟨mX12_check, n + 0, 2, TX12, 53, rfl, by omega, kX12_309, WX12_check, rfl, CX12_check g (n)⟩, (List.forall_mem_cons.mpr ⟨⟨mX12_integer, n + 2, 1, TX12, 53, rfl, by omega, kX12_325, WX12_integer, rfl, CX12_integer g (n)⟩, (fun _ h => absurd h List.not_mem_nil)⟩)⟩)⟩)⟩) (List.forall_mem_cons.mpr ⟨⟨mX12_mostOf, n + 0, by omega, Or.inl kX12_263, WX12_mostOf, CX12_mostOf g (n)⟩, (fun _ h => absurd h List.not_mem_nil)⟩) [171] 60 _ _ _ _ ?_
          simp (maxSteps := 1000000) [-Prod.forall, -Prod.exists, -Prod.mk.injEq, jvk, tX12_readSet, jtb, jol, jst, jlk, jcmp, jbin, jfl, fX12, jc2, lX12, jcat, jel, lv_args, Value.category, jins, jsrt, jins2, jble, jblt, jf3, List.filter_cons, List.filter_nil, G_m, oX12_advance, oX12_isWord, oX12_check, oX12_mostOf, oX12_integer, joI, joR, joRI, joRII, joRJ, -Int32.not_le, -Int32.not_lt, -Int64.not_le, -Int64.not_lt, i3lt, i6lt, z0, t1, t2, q1, q2]
          try simp (disch := omega) [-Prod.forall, -Prod.exists, -Prod.mk.injEq, -Int32.not_le, -Int32.not_lt, -Int64.not_le, -Int64.not_lt, i3lt, i6lt, z0, t1, t2, q1, q2]
          exact k1
        · by_cases q3 : isW (tB σ) (tL σ) s2 wMiddle = true
          · have k1 := fin 2 (by omega) (by unfold pMeth; rw [if_neg q1, if_neg q2, if_pos q3])
            have z2 : nI 2 = 2 := rfl
            rw [z2] at k1
            refine jvk_ok TX12_readSet (V := [(313, 1, 12, oX12_advance), (329, 2, 12, oX12_isWord), (309, 3, 12, oX12_check), (325, 2, 12, oX12_integer)]) (S := [(263, 1, 0, oX12_mostOf)]) (List.forall_mem_cons.mpr ⟨⟨mX12_advance, n + 1, 0, TX12, 53, rfl, by omega, kX12_313, WX12_advance, rfl, CX12_advance g (n)⟩, (List.forall_mem_cons.mpr ⟨⟨mX12_isWord, n + 0, 1, TX12, 53, rfl, by omega, kX12_329, WX12_isWord, rfl, CX12_isWord g (n)⟩, (List.forall_mem_cons.mpr ⟨⟨mX12_check, n + 0, 2, TX12, 53, rfl, by omega, kX12_309, WX12_check, rfl, CX12_check g (n)⟩, (List.forall_mem_cons.mpr ⟨⟨mX12_integer, n + 2, 1, TX12, 53, rfl, by omega, kX12_325, WX12_integer, rfl, CX12_integer g (n)⟩, (fun _ h => absurd h List.not_mem_nil)⟩)⟩)⟩)⟩) (List.forall_mem_cons.mpr ⟨⟨mX12_mostOf, n + 0, by omega, Or.inl kX12_263, WX12_mostOf, CX12_mostOf g (n)⟩, (fun _ h => absurd h List.not_mem_nil)⟩) [171] 60 _ _ _ _ ?_
            simp (maxSteps := 1000000) [-Prod.forall, -Prod.exists, -Prod.mk.injEq, jvk, tX12_readSet, jtb, jol, jst, jlk, jcmp, jbin, jfl, fX12, jc2, lX12, jcat, jel, lv_args, Value.category, jins, jsrt, jins2, jble, jblt, jf3, List.filter_cons, List.filter_nil, G_m, oX12_advance, oX12_isWord, oX12_check, oX12_mostOf, oX12_integer, joI, joR, joRI, joRII, joRJ, -Int32.not_le, -Int32.not_lt, -Int64.not_le, -Int64.not_lt, i3lt, i6lt, z0, t1, t2, t3, q1, q2, q3]
            try simp (disch := omega) [-Prod.forall, -Prod.exists, -Prod.mk.injEq, -Int32.not_le, -Int32.not_lt, -Int64.not_le, -Int64.not_lt, i3lt, i6lt, z0, t1, t2, t3, q1, q2, q3]
            exact k1
          · have k1 := fin3 (by unfold pMeth; rw [if_neg q1, if_neg q2, if_neg q3])
            refine jvk_ok TX12_readSet (V := [(313, 1, 12, oX12_advance), (329, 2, 12, oX12_isWord), (309, 3, 12, oX12_check), (325, 2, 12, oX12_integer)]) (S := [(263, 1, 0, oX12_mostOf)]) (List.forall_mem_cons.mpr ⟨⟨mX12_advance, n + 1, 0, TX12, 53, rfl, by omega, kX12_313, WX12_advance, rfl, CX12_advance g (n)⟩, (List.forall_mem_cons.mpr ⟨⟨mX12_isWord, n + 0, 1, TX12, 53, rfl, by omega, kX12_329, WX12_isWord, rfl, CX12_isWord g (n)⟩, (List.forall_mem_cons.mpr ⟨⟨mX12_check, n + 0, 2, TX12, 53, rfl, by omega, kX12_309, WX12_check, rfl, CX12_check g (n)⟩, (List.forall_mem_cons.mpr ⟨⟨mX12_integer, n + 2, 1, TX12, 53, rfl, by omega, kX12_325, WX12_integer, rfl, CX12_integer g (n)⟩, (fun _ h => absurd h List.not_mem_nil)⟩)⟩)⟩)⟩) (List.forall_mem_cons.mpr ⟨⟨mX12_mostOf, n + 0, by omega, Or.inl kX12_263, WX12_mostOf, CX12_mostOf g (n)⟩, (fun _ h => absurd h List.not_mem_nil)⟩) [171] 60 _ _ _ _ ?_
            simp (maxSteps := 1000000) [-Prod.forall, -Prod.exists, -Prod.mk.injEq, jvk, tX12_readSet, jtb, jol, jst, jlk, jcmp, jbin, jfl, fX12, jc2, lX12, jcat, jel, lv_args, Value.category, jins, jsrt, jins2, jble, jblt, jf3, List.filter_cons, List.filter_nil, G_m, oX12_advance, oX12_isWord, oX12_check, oX12_mostOf, oX12_integer, joI, joR, joRI, joRII, joRJ, -Int32.not_le, -Int32.not_lt, -Int64.not_le, -Int64.not_lt, i3lt, i6lt, z0, t1, t2, t3, q1, q2, q3]
            try simp (disch := omega) [-Prod.forall, -Prod.exists, -Prod.mk.injEq, -Int32.not_le, -Int32.not_lt, -Int64.not_le, -Int64.not_lt, i3lt, i6lt, z0, t1, t2, t3, q1, q2, q3]
            exact k1
    · have k0' : ¬ nI k = 0 := nI_ne0 (by omega) (by omega)
      obtain ⟨hi, ehi⟩ : ∃ hi : Nat, hi = (if k = 1 then 100 else 1) := ⟨_, rfl⟩
      have hmo2 : mMost (nI k) = nI hi := by
        rw [hmo, ehi]
        by_cases e1 : k = 1
        · rw [if_pos e1, if_pos e1]; rfl
        · rw [if_neg e1, if_neg e1, if_neg k0]; rfl
      have hhi : hi ≤ 99999 := by rw [ehi]; split <;> omega
      have hpre : ∃ q, nI hi = nI q ∧ q ≤ 99999 := ⟨hi, rfl, hhi⟩
      refine jvk_ok TX12_readSet (V := [(313, 1, 12, oX12_advance), (329, 2, 12, oX12_isWord), (309, 3, 12, oX12_check), (325, 2, 12, oX12_integer)]) (S := [(263, 1, 0, oX12_mostOf)]) (List.forall_mem_cons.mpr ⟨⟨mX12_advance, n + 1, 0, TX12, 53, rfl, by omega, kX12_313, WX12_advance, rfl, CX12_advance g (n)⟩, (List.forall_mem_cons.mpr ⟨⟨mX12_isWord, n + 0, 1, TX12, 53, rfl, by omega, kX12_329, WX12_isWord, rfl, CX12_isWord g (n)⟩, (List.forall_mem_cons.mpr ⟨⟨mX12_check, n + 0, 2, TX12, 53, rfl, by omega, kX12_309, WX12_check, rfl, CX12_check g (n)⟩, (List.forall_mem_cons.mpr ⟨⟨mX12_integer, n + 2, 1, TX12, 53, rfl, by omega, kX12_325, WX12_integer, rfl, CX12_integer g (n)⟩, (fun _ h => absurd h List.not_mem_nil)⟩)⟩)⟩)⟩) (List.forall_mem_cons.mpr ⟨⟨mX12_mostOf, n + 0, by omega, Or.inl kX12_263, WX12_mostOf, CX12_mostOf g (n)⟩, (fun _ h => absurd h List.not_mem_nil)⟩) [126] 60 _ _ _ _ ?_
      simp (maxSteps := 1000000) [-Prod.forall, -Prod.exists, -Prod.mk.injEq, jvk, tX12_readSet, jtb, jol, jst, jlk, jcmp, jbin, jfl, fX12, jc2, lX12, jcat, jel, lv_args, Value.category, jins, jsrt, jins2, jble, jblt, jf3, List.filter_cons, List.filter_nil, G_m, oX12_advance, oX12_isWord, oX12_check, oX12_mostOf, oX12_integer, joI, joR, joRI, joRII, joRJ, -Int32.not_le, -Int32.not_lt, -Int64.not_le, -Int64.not_lt, i3lt, i6lt, k0', hmo2, hpre, b2, hx1]
      try simp (disch := omega) [-Prod.forall, -Prod.exists, -Prod.mk.injEq, -Int32.not_le, -Int32.not_lt, -Int64.not_le, -Int64.not_lt, i3lt, i6lt, k0', hmo2, hpre, b2, hx1]
      intro v2 τ2 hv2 d1 d2 d3 d4
      subst hv2
      have d4 := d4 s2 b3
      rw [c1, c2, nI_clamp (by omega)] at d4
      refine jvk_ok TX12_readSet (V := [(313, 1, 12, oX12_advance), (329, 2, 12, oX12_isWord), (309, 3, 12, oX12_check), (325, 2, 12, oX12_integer)]) (S := [(263, 1, 0, oX12_mostOf)]) (List.forall_mem_cons.mpr ⟨⟨mX12_advance, n + 1, 0, TX12, 53, rfl, by omega, kX12_313, WX12_advance, rfl, CX12_advance g (n)⟩, (List.forall_mem_cons.mpr ⟨⟨mX12_isWord, n + 0, 1, TX12, 53, rfl, by omega, kX12_329, WX12_isWord, rfl, CX12_isWord g (n)⟩, (List.forall_mem_cons.mpr ⟨⟨mX12_check, n + 0, 2, TX12, 53, rfl, by omega, kX12_309, WX12_check, rfl, CX12_check g (n)⟩, (List.forall_mem_cons.mpr ⟨⟨mX12_integer, n + 2, 1, TX12, 53, rfl, by omega, kX12_325, WX12_integer, rfl, CX12_integer g (n)⟩, (fun _ h => absurd h List.not_mem_nil)⟩)⟩)⟩)⟩) (List.forall_mem_cons.mpr ⟨⟨mX12_mostOf, n + 0, by omega, Or.inl kX12_263, WX12_mostOf, CX12_mostOf g (n)⟩, (fun _ h => absurd h List.not_mem_nil)⟩) [] 20 _ _ _ _ ?_
      simp (maxSteps := 1000000) [-Prod.forall, -Prod.exists, -Prod.mk.injEq, jvk, tX12_readSet, jtb, jol, jst, jlk, jcmp, jbin, jfl, fX12, jc2, lX12, jcat, jel, lv_args, Value.category, jins, jsrt, jins2, jble, jblt, jf3, List.filter_cons, List.filter_nil, G_m, oX12_advance, oX12_isWord, oX12_check, oX12_mostOf, oX12_integer, joI, joR, joRI, joRII, joRJ, -Int32.not_le, -Int32.not_lt, -Int64.not_le, -Int64.not_lt, i3lt, i6lt, jk, eck]
      try simp (disch := omega) [-Prod.forall, -Prod.exists, -Prod.mk.injEq, -Int32.not_le, -Int32.not_lt, -Int64.not_le, -Int64.not_lt, i3lt, i6lt, jk, eck]
      refine kk _ ((fr1.tr (d1.weak (fun a j q => rd_In a j q) (fun _ q => q))).up _ rfl) d2 (rSz_fr sz1 d1 rfl rfl rfl) (fun μ hμ => ?_)
      rw [gv_eq hμ, if_neg (by simpa using c), if_neg k0, ← ehi]
      rcases eI : pInt (tB σ) (tL σ) hi s2 with e | y
      · rw [eI] at d4
        exact (d4 : flt τ2 e)
      · rw [eI] at d4
        obtain ⟨b4, b5⟩ := (d4 : τ1.1 322 38 = nI y ∧ tk τ2 (nx (tB τ1) (tL τ1) s2))
        rw [c1, c2] at b5
        rw [b4]
        exact ⟨b5, rdA_up (rdA_fr (hμρ μ hμ) (w1.tr d1)) _ _ _⟩
  · obtain ⟨ρ, eρ⟩ : ∃ ρ, ρ = jup (jup σ 322 41 (-14)) 322 49 (σ.1 322 49 ||| (1 <<< (nI k &&& 31))) := ⟨_, rfl⟩
    have rρ : rT ρ := by rw [eρ]; exact h
    have fρ : ¬ ρ.1 322 41 = 0 := by rw [eρ]; simp only [jup_1]; decide
    have frρ : jfr aRd bTk σ ρ := by rw [eρ]; exact (jfr.rfl.up _ rfl).up _ rfl
    have szρ : rSz ρ := by rw [eρ]; exact hz
    have fin : ∀ τ, jfr aRd bTk σ τ → rT τ → rSz τ → τ.1 322 41 = -14 → τ.1 322 36 = σ.1 322 36 → post none τ := fun τ f1 f2 f3 f4 f5 => kk τ f1 f2 f3 (fun μ hμ => by
      rw [gv_eq hμ, if_pos (by simp [c])]
      exact ⟨f4, i11.2.2.2.1, f5.trans e36⟩)
    have z41 : ρ.1 322 41 = -14 := by rw [eρ]; rfl
    have z36 : ρ.1 322 36 = σ.1 322 36 := by rw [eρ]; rfl
    refine jvk_ok TX12_readSet (V := [(313, 1, 12, oX12_advance), (329, 2, 12, oX12_isWord), (309, 3, 12, oX12_check), (325, 2, 12, oX12_integer)]) (S := [(263, 1, 0, oX12_mostOf)]) (List.forall_mem_cons.mpr ⟨⟨mX12_advance, n + 1, 0, TX12, 53, rfl, by omega, kX12_313, WX12_advance, rfl, CX12_advance g (n)⟩, (List.forall_mem_cons.mpr ⟨⟨mX12_isWord, n + 0, 1, TX12, 53, rfl, by omega, kX12_329, WX12_isWord, rfl, CX12_isWord g (n)⟩, (List.forall_mem_cons.mpr ⟨⟨mX12_check, n + 0, 2, TX12, 53, rfl, by omega, kX12_309, WX12_check, rfl, CX12_check g (n)⟩, (List.forall_mem_cons.mpr ⟨⟨mX12_integer, n + 2, 1, TX12, 53, rfl, by omega, kX12_325, WX12_integer, rfl, CX12_integer g (n)⟩, (fun _ h => absurd h List.not_mem_nil)⟩)⟩)⟩)⟩) (List.forall_mem_cons.mpr ⟨⟨mX12_mostOf, n + 0, by omega, Or.inl kX12_263, WX12_mostOf, CX12_mostOf g (n)⟩, (fun _ h => absurd h List.not_mem_nil)⟩) [104] 60 _ _ _ _ ?_
    simp (maxSteps := 1000000) [-Prod.forall, -Prod.exists, -Prod.mk.injEq, jvk, tX12_readSet, jtb, jol, jst, jlk, jcmp, jbin, jfl, fX12, jc2, lX12, jcat, jel, lv_args, Value.category, jins, jsrt, jins2, jble, jblt, jf3, List.filter_cons, List.filter_nil, G_m, oX12_advance, oX12_isWord, oX12_check, oX12_mostOf, oX12_integer, joI, joR, joRI, joRII, joRJ, -Int32.not_le, -Int32.not_lt, -Int64.not_le, -Int64.not_lt, i3lt, i6lt, n1, n2, c, f0, i11, jup_1]
    try simp (disch := omega) [-Prod.forall, -Prod.exists, -Prod.mk.injEq, -Int32.not_le, -Int32.not_lt, -Int64.not_le, -Int64.not_lt, i3lt, i6lt, n1, n2, c, f0, i11, jup_1]
    rw [← eρ]
    refine jvk_ok TX12_readSet (V := [(313, 1, 12, oX12_advance), (329, 2, 12, oX12_isWord), (309, 3, 12, oX12_check), (325, 2, 12, oX12_integer)]) (S := [(263, 1, 0, oX12_mostOf)]) (List.forall_mem_cons.mpr ⟨⟨mX12_advance, n + 1, 0, TX12, 53, rfl, by omega, kX12_313, WX12_advance, rfl, CX12_advance g (n)⟩, (List.forall_mem_cons.mpr ⟨⟨mX12_isWord, n + 0, 1, TX12, 53, rfl, by omega, kX12_329, WX12_isWord, rfl, CX12_isWord g (n)⟩, (List.forall_mem_cons.mpr ⟨⟨mX12_check, n + 0, 2, TX12, 53, rfl, by omega, kX12_309, WX12_check, rfl, CX12_check g (n)⟩, (List.forall_mem_cons.mpr ⟨⟨mX12_integer, n + 2, 1, TX12, 53, rfl, by omega, kX12_325, WX12_integer, rfl, CX12_integer g (n)⟩, (fun _ h => absurd h List.not_mem_nil)⟩)⟩)⟩)⟩) (List.forall_mem_cons.mpr ⟨⟨mX12_mostOf, n + 0, by omega, Or.inl kX12_263, WX12_mostOf, CX12_mostOf g (n)⟩, (fun _ h => absurd h List.not_mem_nil)⟩) [109] 60 _ _ _ _ ?_
    simp (maxSteps := 1000000) [-Prod.forall, -Prod.exists, -Prod.mk.injEq, jvk, tX12_readSet, jtb, jol, jst, jlk, jcmp, jbin, jfl, fX12, jc2, lX12, jcat, jel, lv_args, Value.category, jins, jsrt, jins2, jble, jblt, jf3, List.filter_cons, List.filter_nil, G_m, oX12_advance, oX12_isWord, oX12_check, oX12_mostOf, oX12_integer, joI, joR, joRI, joRII, joRJ, -Int32.not_le, -Int32.not_lt, -Int64.not_le, -Int64.not_lt, i3lt, i6lt, rρ, fρ]
    try simp (disch := omega) [-Prod.forall, -Prod.exists, -Prod.mk.injEq, -Int32.not_le, -Int32.not_lt, -Int64.not_le, -Int64.not_lt, i3lt, i6lt, rρ, fρ]
    by_cases k0 : k = 0
    · subst k0
      have z0 : nI 0 = 0 := nI_0
      have m1 : (-1 : Int32) < 0 := by decide
      have m2 : ¬ (0 : Int32) ≤ -1 := not_m1
      obtain ⟨ν, eν⟩ : ∃ ν, ν = jup τ1 347 0 (-1) := ⟨_, rfl⟩
      have rν : rT ν := by rw [eν]; exact rρ
      have fν : ¬ ν.1 322 41 = 0 := by rw [eν]; exact fρ
      refine jvk_ok TX12_readSet (V := [(313, 1, 12, oX12_advance), (329, 2, 12, oX12_isWord), (309, 3, 12, oX12_check), (325, 2, 12, oX12_integer)]) (S := [(263, 1, 0, oX12_mostOf)]) (List.forall_mem_cons.mpr ⟨⟨mX12_advance, n + 1, 0, TX12, 53, rfl, by omega, kX12_313, WX12_advance, rfl, CX12_advance g (n)⟩, (List.forall_mem_cons.mpr ⟨⟨mX12_isWord, n + 0, 1, TX12, 53, rfl, by omega, kX12_329, WX12_isWord, rfl, CX12_isWord g (n)⟩, (List.forall_mem_cons.mpr ⟨⟨mX12_check, n + 0, 2, TX12, 53, rfl, by omega, kX12_309, WX12_check, rfl, CX12_check g (n)⟩, (List.forall_mem_cons.mpr ⟨⟨mX12_integer, n + 2, 1, TX12, 53, rfl, by omega, kX12_325, WX12_integer, rfl, CX12_integer g (n)⟩, (fun _ h => absurd h List.not_mem_nil)⟩)⟩)⟩)⟩) (List.forall_mem_cons.mpr ⟨⟨mX12_mostOf, n + 0, by omega, Or.inl kX12_263, WX12_mostOf, CX12_mostOf g (n)⟩, (fun _ h => absurd h List.not_mem_nil)⟩) [194] 60 _ _ _ _ ?_
      simp (maxSteps := 1000000) [-Prod.forall, -Prod.exists, -Prod.mk.injEq, jvk, tX12_readSet, jtb, jol, jst, jlk, jcmp, jbin, jfl, fX12, jc2, lX12, jcat, jel, lv_args, Value.category, jins, jsrt, jins2, jble, jblt, jf3, List.filter_cons, List.filter_nil, G_m, oX12_advance, oX12_isWord, oX12_check, oX12_mostOf, oX12_integer, joI, joR, joRI, joRII, joRJ, -Int32.not_le, -Int32.not_lt, -Int64.not_le, -Int64.not_lt, i3lt, i6lt, z0, m1, m2, fρ, jin_d, tn_c]
      try simp (disch := omega) [-Prod.forall, -Prod.exists, -Prod.mk.injEq, -Int32.not_le, -Int32.not_lt, -Int64.not_le, -Int64.not_lt, i3lt, i6lt, z0, m1, m2, fρ, jin_d, tn_c]
      rw [← eν]
      refine jvk_ok TX12_readSet (V := [(313, 1, 12, oX12_advance), (329, 2, 12, oX12_isWord), (309, 3, 12, oX12_check), (325, 2, 12, oX12_integer)]) (S := [(263, 1, 0, oX12_mostOf)]) (List.forall_mem_cons.mpr ⟨⟨mX12_advance, n + 1, 0, TX12, 53, rfl, by omega, kX12_313, WX12_advance, rfl, CX12_advance g (n)⟩, (List.forall_mem_cons.mpr ⟨⟨mX12_isWord, n + 0, 1, TX12, 53, rfl, by omega, kX12_329, WX12_isWord, rfl, CX12_isWord g (n)⟩, (List.forall_mem_cons.mpr ⟨⟨mX12_check, n + 0, 2, TX12, 53, rfl, by omega, kX12_309, WX12_check, rfl, CX12_check g (n)⟩, (List.forall_mem_cons.mpr ⟨⟨mX12_integer, n + 2, 1, TX12, 53, rfl, by omega, kX12_325, WX12_integer, rfl, CX12_integer g (n)⟩, (fun _ h => absurd h List.not_mem_nil)⟩)⟩)⟩)⟩) (List.forall_mem_cons.mpr ⟨⟨mX12_mostOf, n + 0, by omega, Or.inl kX12_263, WX12_mostOf, CX12_mostOf g (n)⟩, (fun _ h => absurd h List.not_mem_nil)⟩) [198] 60 _ _ _ _ ?_
      simp (maxSteps := 1000000) [-Prod.forall, -Prod.exists, -Prod.mk.injEq, jvk, tX12_readSet, jtb, jol, jst, jlk, jcmp, jbin, jfl, fX12, jc2, lX12, jcat, jel, lv_args, Value.category, jins, jsrt, jins2, jble, jblt, jf3, List.filter_cons, List.filter_nil, G_m, oX12_advance, oX12_isWord, oX12_check, oX12_mostOf, oX12_integer, joI, joR, joRI, joRII, joRJ, -Int32.not_le, -Int32.not_lt, -Int64.not_le, -Int64.not_lt, i3lt, i6lt, rν, fν]
      try simp (disch := omega) [-Prod.forall, -Prod.exists, -Prod.mk.injEq, -Int32.not_le, -Int32.not_lt, -Int64.not_le, -Int64.not_lt, i3lt, i6lt, rν, fν]
      refine jvk_ok TX12_readSet (V := [(313, 1, 12, oX12_advance), (329, 2, 12, oX12_isWord), (309, 3, 12, oX12_check), (325, 2, 12, oX12_integer)]) (S := [(263, 1, 0, oX12_mostOf)]) (List.forall_mem_cons.mpr ⟨⟨mX12_advance, n + 1, 0, TX12, 53, rfl, by omega, kX12_313, WX12_advance, rfl, CX12_advance g (n)⟩, (List.forall_mem_cons.mpr ⟨⟨mX12_isWord, n + 0, 1, TX12, 53, rfl, by omega, kX12_329, WX12_isWord, rfl, CX12_isWord g (n)⟩, (List.forall_mem_cons.mpr ⟨⟨mX12_check, n + 0, 2, TX12, 53, rfl, by omega, kX12_309, WX12_check, rfl, CX12_check g (n)⟩, (List.forall_mem_cons.mpr ⟨⟨mX12_integer, n + 2, 1, TX12, 53, rfl, by omega, kX12_325, WX12_integer, rfl, CX12_integer g (n)⟩, (fun _ h => absurd h List.not_mem_nil)⟩)⟩)⟩)⟩) (List.forall_mem_cons.mpr ⟨⟨mX12_mostOf, n + 0, by omega, Or.inl kX12_263, WX12_mostOf, CX12_mostOf g (n)⟩, (fun _ h => absurd h List.not_mem_nil)⟩) [] 10 _ _ _ _ ?_
      simp (maxSteps := 1000000) [-Prod.forall, -Prod.exists, -Prod.mk.injEq, jvk, tX12_readSet, jtb, jol, jst, jlk, jcmp, jbin, jfl, fX12, jc2, lX12, jcat, jel, lv_args, Value.category, jins, jsrt, jins2, jble, jblt, jf3, List.filter_cons, List.filter_nil, G_m, oX12_advance, oX12_isWord, oX12_check, oX12_mostOf, oX12_integer, joI, joR, joRI, joRII, joRJ, -Int32.not_le, -Int32.not_lt, -Int64.not_le, -Int64.not_lt, i3lt, i6lt]
      try simp (disch := omega) [-Prod.forall, -Prod.exists, -Prod.mk.injEq, -Int32.not_le, -Int32.not_lt, -Int64.not_le, -Int64.not_lt, i3lt, i6lt]
      exact fin _ (by rw [eν]; exact frρ.up _ rfl) rν (by rw [eν]; exact szρ) (by rw [eν]; exact z41) (by rw [eν]; exact z36)
    · have k0' : ¬ nI k = 0 := nI_ne0 (by omega) (by omega)
      obtain ⟨hi, ehi⟩ : ∃ hi : Nat, hi = (if k = 1 then 100 else 1) := ⟨_, rfl⟩
      have hmo2 : mMost (nI k) = nI hi := by
        rw [hmo, ehi]
        by_cases e1 : k = 1
        · rw [if_pos e1, if_pos e1]; rfl
        · rw [if_neg e1, if_neg e1, if_neg k0]; rfl
      have hhi : hi ≤ 99999 := by rw [ehi]; split <;> omega
      have hpre : ∃ q, nI hi = nI q ∧ q ≤ 99999 := ⟨hi, rfl, hhi⟩
      refine jvk_ok TX12_readSet (V := [(313, 1, 12, oX12_advance), (329, 2, 12, oX12_isWord), (309, 3, 12, oX12_check), (325, 2, 12, oX12_integer)]) (S := [(263, 1, 0, oX12_mostOf)]) (List.forall_mem_cons.mpr ⟨⟨mX12_advance, n + 1, 0, TX12, 53, rfl, by omega, kX12_313, WX12_advance, rfl, CX12_advance g (n)⟩, (List.forall_mem_cons.mpr ⟨⟨mX12_isWord, n + 0, 1, TX12, 53, rfl, by omega, kX12_329, WX12_isWord, rfl, CX12_isWord g (n)⟩, (List.forall_mem_cons.mpr ⟨⟨mX12_check, n + 0, 2, TX12, 53, rfl, by omega, kX12_309, WX12_check, rfl, CX12_check g (n)⟩, (List.forall_mem_cons.mpr ⟨⟨mX12_integer, n + 2, 1, TX12, 53, rfl, by omega, kX12_325, WX12_integer, rfl, CX12_integer g (n)⟩, (fun _ h => absurd h List.not_mem_nil)⟩)⟩)⟩)⟩) (List.forall_mem_cons.mpr ⟨⟨mX12_mostOf, n + 0, by omega, Or.inl kX12_263, WX12_mostOf, CX12_mostOf g (n)⟩, (fun _ h => absurd h List.not_mem_nil)⟩) [126] 60 _ _ _ _ ?_
      simp (maxSteps := 1000000) [-Prod.forall, -Prod.exists, -Prod.mk.injEq, jvk, tX12_readSet, jtb, jol, jst, jlk, jcmp, jbin, jfl, fX12, jc2, lX12, jcat, jel, lv_args, Value.category, jins, jsrt, jins2, jble, jblt, jf3, List.filter_cons, List.filter_nil, G_m, oX12_advance, oX12_isWord, oX12_check, oX12_mostOf, oX12_integer, joI, joR, joRI, joRII, joRJ, -Int32.not_le, -Int32.not_lt, -Int64.not_le, -Int64.not_lt, i3lt, i6lt, k0', hmo2, hpre, rρ, fρ]
      try simp (disch := omega) [-Prod.forall, -Prod.exists, -Prod.mk.injEq, -Int32.not_le, -Int32.not_lt, -Int64.not_le, -Int64.not_lt, i3lt, i6lt, k0', hmo2, hpre, rρ, fρ]
      intro v2 τ2 hv2 d1 d2 d3 d4
      subst hv2 d3
      refine jvk_ok TX12_readSet (V := [(313, 1, 12, oX12_advance), (329, 2, 12, oX12_isWord), (309, 3, 12, oX12_check), (325, 2, 12, oX12_integer)]) (S := [(263, 1, 0, oX12_mostOf)]) (List.forall_mem_cons.mpr ⟨⟨mX12_advance, n + 1, 0, TX12, 53, rfl, by omega, kX12_313, WX12_advance, rfl, CX12_advance g (n)⟩, (List.forall_mem_cons.mpr ⟨⟨mX12_isWord, n + 0, 1, TX12, 53, rfl, by omega, kX12_329, WX12_isWord, rfl, CX12_isWord g (n)⟩, (List.forall_mem_cons.mpr ⟨⟨mX12_check, n + 0, 2, TX12, 53, rfl, by omega, kX12_309, WX12_check, rfl, CX12_check g (n)⟩, (List.forall_mem_cons.mpr ⟨⟨mX12_integer, n + 2, 1, TX12, 53, rfl, by omega, kX12_325, WX12_integer, rfl, CX12_integer g (n)⟩, (fun _ h => absurd h List.not_mem_nil)⟩)⟩)⟩)⟩) (List.forall_mem_cons.mpr ⟨⟨mX12_mostOf, n + 0, by omega, Or.inl kX12_263, WX12_mostOf, CX12_mostOf g (n)⟩, (fun _ h => absurd h List.not_mem_nil)⟩) [] 20 _ _ _ _ ?_
      simp (maxSteps := 1000000) [-Prod.forall, -Prod.exists, -Prod.mk.injEq, jvk, tX12_readSet, jtb, jol, jst, jlk, jcmp, jbin, jfl, fX12, jc2, lX12, jcat, jel, lv_args, Value.category, jins, jsrt, jins2, jble, jblt, jf3, List.filter_cons, List.filter_nil, G_m, oX12_advance, oX12_isWord, oX12_check, oX12_mostOf, oX12_integer, joI, joR, joRI, joRII, joRJ, -Int32.not_le, -Int32.not_lt, -Int64.not_le, -Int64.not_lt, i3lt, i6lt, jk, eck]
      try simp (disch := omega) [-Prod.forall, -Prod.exists, -Prod.mk.injEq, -Int32.not_le, -Int32.not_lt, -Int64.not_le, -Int64.not_lt, i3lt, i6lt, jk, eck]
      exact fin _ (frρ.up _ rfl) rρ szρ z41 z36
set_option maxRecDepth 100000 in
set_option maxHeartbeats 4000000 in
theorem CX12_readSet (g : jG) (n : Nat) : jOk g (n + 3) mX12_readSet oX12_readSet := by
  refine joR_ok ?_
  rintro _ σ ⟨rfl, h, hz, s, hs⟩
  have h9 := (rT_n h).1
  have f0 := hs.2.1
  have uniq : ∀ t, tk σ t → t = s := fun t ht => tk_inj ht hs h9
  obtain ⟨s1, es1⟩ : ∃ s1, s1 = nx (tB σ) (tL σ) s := ⟨_, rfl⟩
  refine jCon.ofP (by decide +kernel) (by simp [lg_sl, Value.category]) (fun post hp => ?_)
  refine jvk_ok TX12_readSet (V := [(313, 1, 12, oX12_advance), (329, 2, 12, oX12_isWord), (309, 3, 12, oX12_check), (325, 2, 12, oX12_integer)]) (S := [(263, 1, 0, oX12_mostOf)]) (List.forall_mem_cons.mpr ⟨⟨mX12_advance, n + 1, 0, TX12, 53, rfl, by omega, kX12_313, WX12_advance, rfl, CX12_advance g (n)⟩, (List.forall_mem_cons.mpr ⟨⟨mX12_isWord, n + 0, 1, TX12, 53, rfl, by omega, kX12_329, WX12_isWord, rfl, CX12_isWord g (n)⟩, (List.forall_mem_cons.mpr ⟨⟨mX12_check, n + 0, 2, TX12, 53, rfl, by omega, kX12_309, WX12_check, rfl, CX12_check g (n)⟩, (List.forall_mem_cons.mpr ⟨⟨mX12_integer, n + 2, 1, TX12, 53, rfl, by omega, kX12_325, WX12_integer, rfl, CX12_integer g (n)⟩, (fun _ h => absurd h List.not_mem_nil)⟩)⟩)⟩)⟩) (List.forall_mem_cons.mpr ⟨⟨mX12_mostOf, n + 0, by omega, Or.inl kX12_263, WX12_mostOf, CX12_mostOf g (n)⟩, (fun _ h => absurd h List.not_mem_nil)⟩) [4] 40 _ _ _ _ ?_
  simp (maxSteps := 1000000) [-Prod.forall, -Prod.exists, -Prod.mk.injEq, jvk, tX12_readSet, jtb, jol, jst, jlk, jcmp, jbin, jfl, fX12, jc2, lX12, jcat, jel, lv_args, Value.category, jins, jsrt, jins2, jble, jblt, jf3, List.filter_cons, List.filter_nil, G_m, oX12_advance, oX12_isWord, oX12_check, oX12_mostOf, oX12_integer, joI, joR, joRI, joRII, joRJ, -Int32.not_le, -Int32.not_lt, -Int64.not_le, -Int64.not_lt, i3lt, i6lt, h]
  try simp (disch := omega) [-Prod.forall, -Prod.exists, -Prod.mk.injEq, -Int32.not_le, -Int32.not_lt, -Int64.not_le, -Int64.not_lt, i3lt, i6lt, h]
  intro v1 τ hv1 a1 a2
  subst hv1
  obtain ⟨b1, b2, b3⟩ := a2 f0
  rw [tk_nx h hs, ← es1] at b3
  obtain ⟨g1, g2⟩ := tk_fr b1
  have w1 : jfr aIn bTk σ τ := b1.weak (fun a j q => in_Tk a j q) (fun _ q => q)
  have zt : rSz τ := rSz_fr hz w1 rfl rfl rfl
  have t1 := tk_w b3 wd_all.2.2.2.2.2.2.2.1 wN_all.2.2.2.2.2.2.2.1
  have t2 := tk_w b3 wd_all.2.2.2.2.2.2.2.2.2.2.2.1 wN_all.2.2.2.2.2.2.2.2.2.2.2.1
  have t3 := tk_w b3 wd_all.2.2.2.2.2.2.2.2.2.2.2.2 wN_all.2.2.2.2.2.2.2.2.2.2.2.2
  rw [g1, g2] at t1 t2 t3
  have fin : ∀ k : Nat, k ≤ 2 → pWhich (tB σ) (tL σ) s1 = k → jW g mX12_readSet (n + 3) post 47 [(0, .ref 322)] [.int (nI k)] τ := fun k hk hw => by
    refine CSe_b g n b2 zt b3 hk (fun τ' f' r' z' q' => hp _ _ ⟨rfl, (w1.weak (fun a j q => rd_In a j q) (fun _ q => q)).tr f', r', z', fun t μ ht hμ => ?_⟩)
    have q := q' μ (rdA_fr hμ w1)
    rw [g1, g2] at q
    rw [uniq t ht]
    unfold pSet
    rw [← es1, hw, if_neg (by omega)]
    exact q
  by_cases q1 : isW (tB σ) (tL σ) s1 wMethod = true
  · have k1 := fin 0 (by omega) (by unfold pWhich; rw [if_pos q1])
    have z0 : nI 0 = 0 := nI_0
    rw [z0] at k1
    refine jvk_ok TX12_readSet (V := [(313, 1, 12, oX12_advance), (329, 2, 12, oX12_isWord), (309, 3, 12, oX12_check), (325, 2, 12, oX12_integer)]) (S := [(263, 1, 0, oX12_mostOf)]) (List.forall_mem_cons.mpr ⟨⟨mX12_advance, n + 1, 0, TX12, 53, rfl, by omega, kX12_313, WX12_advance, rfl, CX12_advance g (n)⟩, (List.forall_mem_cons.mpr ⟨⟨mX12_isWord, n + 0, 1, TX12, 53, rfl, by omega, kX12_329, WX12_isWord, rfl, CX12_isWord g (n)⟩, (List.forall_mem_cons.mpr ⟨⟨mX12_check, n + 0, 2, TX12, 53, rfl, by omega, kX12_309, WX12_check, rfl, CX12_check g (n)⟩, (List.forall_mem_cons.mpr ⟨⟨mX12_integer, n + 2, 1, TX12, 53, rfl, by omega, kX12_325, WX12_integer, rfl, CX12_integer g (n)⟩, (fun _ h => absurd h List.not_mem_nil)⟩)⟩)⟩)⟩) (List.forall_mem_cons.mpr ⟨⟨mX12_mostOf, n + 0, by omega, Or.inl kX12_263, WX12_mostOf, CX12_mostOf g (n)⟩, (fun _ h => absurd h List.not_mem_nil)⟩) [47] 60 _ _ _ _ ?_
    simp (maxSteps := 1000000) [-Prod.forall, -Prod.exists, -Prod.mk.injEq, jvk, tX12_readSet, jtb, jol, jst, jlk, jcmp, jbin, jfl, fX12, jc2, lX12, jcat, jel, lv_args, Value.category, jins, jsrt, jins2, jble, jblt, jf3, List.filter_cons, List.filter_nil, G_m, oX12_advance, oX12_isWord, oX12_check, oX12_mostOf, oX12_integer, joI, joR, joRI, joRII, joRJ, -Int32.not_le, -Int32.not_lt, -Int64.not_le, -Int64.not_lt, i3lt, i6lt, t1, q1]
    try simp (disch := omega) [-Prod.forall, -Prod.exists, -Prod.mk.injEq, -Int32.not_le, -Int32.not_lt, -Int64.not_le, -Int64.not_lt, i3lt, i6lt, t1, q1]
    exact k1
  · by_cases q2 : isW (tB σ) (tL σ) s1 wShare = true
    · have k1 := fin 1 (by omega) (by unfold pWhich; rw [if_neg q1, if_pos q2])
      have z1 : nI 1 = 1 := rfl
      rw [z1] at k1
      refine jvk_ok TX12_readSet (V := [(313, 1, 12, oX12_advance), (329, 2, 12, oX12_isWord), (309, 3, 12, oX12_check), (325, 2, 12, oX12_integer)]) (S := [(263, 1, 0, oX12_mostOf)]) (List.forall_mem_cons.mpr ⟨⟨mX12_advance, n + 1, 0, TX12, 53, rfl, by omega, kX12_313, WX12_advance, rfl, CX12_advance g (n)⟩, (List.forall_mem_cons.mpr ⟨⟨mX12_isWord, n + 0, 1, TX12, 53, rfl, by omega, kX12_329, WX12_isWord, rfl, CX12_isWord g (n)⟩, (List.forall_mem_cons.mpr ⟨⟨mX12_check, n + 0, 2, TX12, 53, rfl, by omega, kX12_309, WX12_check, rfl, CX12_check g (n)⟩, (List.forall_mem_cons.mpr ⟨⟨mX12_integer, n + 2, 1, TX12, 53, rfl, by omega, kX12_325, WX12_integer, rfl, CX12_integer g (n)⟩, (fun _ h => absurd h List.not_mem_nil)⟩)⟩)⟩)⟩) (List.forall_mem_cons.mpr ⟨⟨mX12_mostOf, n + 0, by omega, Or.inl kX12_263, WX12_mostOf, CX12_mostOf g (n)⟩, (fun _ h => absurd h List.not_mem_nil)⟩) [47] 60 _ _ _ _ ?_
      simp (maxSteps := 1000000) [-Prod.forall, -Prod.exists, -Prod.mk.injEq, jvk, tX12_readSet, jtb, jol, jst, jlk, jcmp, jbin, jfl, fX12, jc2, lX12, jcat, jel, lv_args, Value.category, jins, jsrt, jins2, jble, jblt, jf3, List.filter_cons, List.filter_nil, G_m, oX12_advance, oX12_isWord, oX12_check, oX12_mostOf, oX12_integer, joI, joR, joRI, joRII, joRJ, -Int32.not_le, -Int32.not_lt, -Int64.not_le, -Int64.not_lt, i3lt, i6lt, t1, t2, q1, q2]
      try simp (disch := omega) [-Prod.forall, -Prod.exists, -Prod.mk.injEq, -Int32.not_le, -Int32.not_lt, -Int64.not_le, -Int64.not_lt, i3lt, i6lt, t1, t2, q1, q2]
      exact k1
    · by_cases q3 : isW (tB σ) (tL σ) s1 wAuto = true
      · have k1 := fin 2 (by omega) (by unfold pWhich; rw [if_neg q1, if_neg q2, if_pos q3])
        have z2 : nI 2 = 2 := rfl
        rw [z2] at k1
        refine jvk_ok TX12_readSet (V := [(313, 1, 12, oX12_advance), (329, 2, 12, oX12_isWord), (309, 3, 12, oX12_check), (325, 2, 12, oX12_integer)]) (S := [(263, 1, 0, oX12_mostOf)]) (List.forall_mem_cons.mpr ⟨⟨mX12_advance, n + 1, 0, TX12, 53, rfl, by omega, kX12_313, WX12_advance, rfl, CX12_advance g (n)⟩, (List.forall_mem_cons.mpr ⟨⟨mX12_isWord, n + 0, 1, TX12, 53, rfl, by omega, kX12_329, WX12_isWord, rfl, CX12_isWord g (n)⟩, (List.forall_mem_cons.mpr ⟨⟨mX12_check, n + 0, 2, TX12, 53, rfl, by omega, kX12_309, WX12_check, rfl, CX12_check g (n)⟩, (List.forall_mem_cons.mpr ⟨⟨mX12_integer, n + 2, 1, TX12, 53, rfl, by omega, kX12_325, WX12_integer, rfl, CX12_integer g (n)⟩, (fun _ h => absurd h List.not_mem_nil)⟩)⟩)⟩)⟩) (List.forall_mem_cons.mpr ⟨⟨mX12_mostOf, n + 0, by omega, Or.inl kX12_263, WX12_mostOf, CX12_mostOf g (n)⟩, (fun _ h => absurd h List.not_mem_nil)⟩) [47] 60 _ _ _ _ ?_
        simp (maxSteps := 1000000) [-Prod.forall, -Prod.exists, -Prod.mk.injEq, jvk, tX12_readSet, jtb, jol, jst, jlk, jcmp, jbin, jfl, fX12, jc2, lX12, jcat, jel, lv_args, Value.category, jins, jsrt, jins2, jble, jblt, jf3, List.filter_cons, List.filter_nil, G_m, oX12_advance, oX12_isWord, oX12_check, oX12_mostOf, oX12_integer, joI, joR, joRI, joRII, joRJ, -Int32.not_le, -Int32.not_lt, -Int64.not_le, -Int64.not_lt, i3lt, i6lt, t1, t2, t3, q1, q2, q3]
        try simp (disch := omega) [-Prod.forall, -Prod.exists, -Prod.mk.injEq, -Int32.not_le, -Int32.not_lt, -Int64.not_le, -Int64.not_lt, i3lt, i6lt, t1, t2, t3, q1, q2, q3]
        exact k1
      · have m1 : (-1 : Int32) < 0 := by decide
        have m2 : ¬ (0 : Int32) ≤ -1 := not_m1
        have ft := b3.2.1
        have hf : ¬ (jup τ 322 41 (-11)).1 322 41 = 0 := by rw [jup_1, if_pos ⟨rfl, rfl⟩]; decide
        refine jvk_ok TX12_readSet (V := [(313, 1, 12, oX12_advance), (329, 2, 12, oX12_isWord), (309, 3, 12, oX12_check), (325, 2, 12, oX12_integer)]) (S := [(263, 1, 0, oX12_mostOf)]) (List.forall_mem_cons.mpr ⟨⟨mX12_advance, n + 1, 0, TX12, 53, rfl, by omega, kX12_313, WX12_advance, rfl, CX12_advance g (n)⟩, (List.forall_mem_cons.mpr ⟨⟨mX12_isWord, n + 0, 1, TX12, 53, rfl, by omega, kX12_329, WX12_isWord, rfl, CX12_isWord g (n)⟩, (List.forall_mem_cons.mpr ⟨⟨mX12_check, n + 0, 2, TX12, 53, rfl, by omega, kX12_309, WX12_check, rfl, CX12_check g (n)⟩, (List.forall_mem_cons.mpr ⟨⟨mX12_integer, n + 2, 1, TX12, 53, rfl, by omega, kX12_325, WX12_integer, rfl, CX12_integer g (n)⟩, (fun _ h => absurd h List.not_mem_nil)⟩)⟩)⟩)⟩) (List.forall_mem_cons.mpr ⟨⟨mX12_mostOf, n + 0, by omega, Or.inl kX12_263, WX12_mostOf, CX12_mostOf g (n)⟩, (fun _ h => absurd h List.not_mem_nil)⟩) [47] 60 _ _ _ _ ?_
        simp (maxSteps := 1000000) [-Prod.forall, -Prod.exists, -Prod.mk.injEq, jvk, tX12_readSet, jtb, jol, jst, jlk, jcmp, jbin, jfl, fX12, jc2, lX12, jcat, jel, lv_args, Value.category, jins, jsrt, jins2, jble, jblt, jf3, List.filter_cons, List.filter_nil, G_m, oX12_advance, oX12_isWord, oX12_check, oX12_mostOf, oX12_integer, joI, joR, joRI, joRII, joRJ, -Int32.not_le, -Int32.not_lt, -Int64.not_le, -Int64.not_lt, i3lt, i6lt, t1, t2, t3, q1, q2, q3]
        try simp (disch := omega) [-Prod.forall, -Prod.exists, -Prod.mk.injEq, -Int32.not_le, -Int32.not_lt, -Int64.not_le, -Int64.not_lt, i3lt, i6lt, t1, t2, t3, q1, q2, q3]
        refine jvk_ok TX12_readSet (V := [(313, 1, 12, oX12_advance), (329, 2, 12, oX12_isWord), (309, 3, 12, oX12_check), (325, 2, 12, oX12_integer)]) (S := [(263, 1, 0, oX12_mostOf)]) (List.forall_mem_cons.mpr ⟨⟨mX12_advance, n + 1, 0, TX12, 53, rfl, by omega, kX12_313, WX12_advance, rfl, CX12_advance g (n)⟩, (List.forall_mem_cons.mpr ⟨⟨mX12_isWord, n + 0, 1, TX12, 53, rfl, by omega, kX12_329, WX12_isWord, rfl, CX12_isWord g (n)⟩, (List.forall_mem_cons.mpr ⟨⟨mX12_check, n + 0, 2, TX12, 53, rfl, by omega, kX12_309, WX12_check, rfl, CX12_check g (n)⟩, (List.forall_mem_cons.mpr ⟨⟨mX12_integer, n + 2, 1, TX12, 53, rfl, by omega, kX12_325, WX12_integer, rfl, CX12_integer g (n)⟩, (fun _ h => absurd h List.not_mem_nil)⟩)⟩)⟩)⟩) (List.forall_mem_cons.mpr ⟨⟨mX12_mostOf, n + 0, by omega, Or.inl kX12_263, WX12_mostOf, CX12_mostOf g (n)⟩, (fun _ h => absurd h List.not_mem_nil)⟩) [71] 60 _ _ _ _ ?_
        simp (maxSteps := 1000000) [-Prod.forall, -Prod.exists, -Prod.mk.injEq, jvk, tX12_readSet, jtb, jol, jst, jlk, jcmp, jbin, jfl, fX12, jc2, lX12, jcat, jel, lv_args, Value.category, jins, jsrt, jins2, jble, jblt, jf3, List.filter_cons, List.filter_nil, G_m, oX12_advance, oX12_isWord, oX12_check, oX12_mostOf, oX12_integer, joI, joR, joRI, joRII, joRJ, -Int32.not_le, -Int32.not_lt, -Int64.not_le, -Int64.not_lt, i3lt, i6lt, m1, m2, ft, hf, i11]
        try simp (disch := omega) [-Prod.forall, -Prod.exists, -Prod.mk.injEq, -Int32.not_le, -Int32.not_lt, -Int64.not_le, -Int64.not_lt, i3lt, i6lt, m1, m2, ft, hf, i11]
        refine hp _ _ ⟨rfl, (w1.weak (fun a j q => rd_In a j q) (fun _ q => q)).up _ rfl, b2, zt, fun t μ ht hμ => ?_⟩
        rw [uniq t ht]
        unfold pSet
        rw [← es1, if_pos (by unfold pWhich; rw [if_neg q1, if_neg q2, if_neg q3])]
        exact ⟨by rw [jup_1, if_pos ⟨rfl, rfl⟩], i11.1, by rw [jup_1, if_neg (by decide)]; exact b3.2.2.1⟩
