/-! the reference: lease and deposit of a text -/
def oX12_readOnce : jO := joRII fun a x y σ => (a = 322 ∧ rT σ ∧ rSz σ ∧ (∃ s, tk σ s) ∧ ∃ k pl, x = nI k ∧ k < 31 ∧ y = nI pl ∧ pl < 208, fun v τ => v = none ∧ jfr aRd bTk σ τ ∧ rT τ ∧ rSz τ ∧ ∀ s μ, tk σ s → rdA σ μ → rRes τ (pOnce (tB σ) (tL σ) x.toNatClampNeg y.toNatClampNeg s μ))
theorem gv_eq {σ : jM} {μ : pM} (h : rdA σ μ) (k : Nat) : gv μ k = decide (¬ (σ.1 322 49 >>> (nI k &&& 31)) &&& 1 = 0) := by
  unfold gv
  rw [(rdA_n h).2.2.2]
set_option maxRecDepth 100000 in
set_option maxHeartbeats 4000000 in
theorem CX12_readOnce (g : jG) (n : Nat) : jOk g (n + 3) mX12_readOnce oX12_readOnce := by
  refine joRII_ok ?_
  rintro _ _ _ σ ⟨rfl, h, hz, ⟨s, hs⟩, k, pl, rfl, hk, rfl, hpl⟩
  have h9 := (rT_n h).1
  have f0 := hs.2.1
  have uniq : ∀ t, tk σ t → t = s := fun t ht => tk_inj ht hs h9
  have e36 := hs.2.2.1
  have eck : (nI k).toNatClampNeg = k := nI_clamp (by omega)
  have ecp : (nI pl).toNatClampNeg = pl := nI_clamp (by omega)
  have jp : jin (nI pl) 208 := jin_nI hpl (by decide)
  have h99 : ∃ hi, (99999 : Int32) = nI hi ∧ hi ≤ 99999 := ⟨99999, rfl, by decide⟩
  by_cases c : (σ.1 322 49 >>> (nI k &&& 31)) &&& 1 = 0
  · obtain ⟨ρ, eρ⟩ : ∃ ρ, ρ = jup σ 322 49 (σ.1 322 49 ||| (1 <<< (nI k &&& 31))) := ⟨_, rfl⟩
    have tρ : tk ρ s := by rw [eρ]; exact hs
    have rρ : rT ρ := by rw [eρ]; exact h
    have fρ : ρ.1 322 41 = 0 := tρ.2.1
    have gρ : tB ρ = tB σ ∧ tL ρ = tL σ := by rw [eρ]; exact ⟨rfl, rfl⟩
    refine jCon.ofP (by decide +kernel) (by simp [lg_sl, Value.category]) (fun post hp => ?_)
    refine jvk_ok TX12_readOnce (V := [(309, 3, 12, oX12_check), (313, 1, 12, oX12_advance), (325, 2, 12, oX12_integer)]) (S := []) (List.forall_mem_cons.mpr ⟨⟨mX12_check, n + 0, 2, TX12, 53, rfl, by omega, kX12_309, WX12_check, rfl, CX12_check g (n)⟩, (List.forall_mem_cons.mpr ⟨⟨mX12_advance, n + 1, 0, TX12, 53, rfl, by omega, kX12_313, WX12_advance, rfl, CX12_advance g (n)⟩, (List.forall_mem_cons.mpr ⟨⟨mX12_integer, n + 2, 1, TX12, 53, rfl, by omega, kX12_325, WX12_integer, rfl, CX12_integer g (n)⟩, (fun _ h => absurd h List.not_mem_nil)⟩)⟩)⟩) (fun _ h => absurd h List.not_mem_nil) [34] 60 _ _ _ _ ?_
    simp (maxSteps := 1000000) [↓Bool.cond_eq_ite, -Prod.forall, -Prod.exists, -Prod.mk.injEq, jvk, tX12_readOnce, jtb, jol, jst, jlk, jcmp, jbin, jfl, fX12, jc2, lX12, jcat, jel, lv_args, Value.category, jins, jsrt, jins2, jble, jblt, jf3, List.filter_cons, List.filter_nil, G_m, oX12_check, oX12_advance, oX12_integer, joR, joRI, joRII, -Int32.not_le, -Int32.not_lt, -Int64.not_le, -Int64.not_lt, i3lt, i6lt, c, f0, jup_1]
    try simp (disch := omega) [-Prod.forall, -Prod.exists, -Prod.mk.injEq, -Int32.not_le, -Int32.not_lt, -Int64.not_le, -Int64.not_lt, i3lt, i6lt, c, f0, jup_1]
    rw [ecp, eck] at hp
    rw [← eρ]
    refine jvk_ok TX12_readOnce (V := [(309, 3, 12, oX12_check), (313, 1, 12, oX12_advance), (325, 2, 12, oX12_integer)]) (S := []) (List.forall_mem_cons.mpr ⟨⟨mX12_check, n + 0, 2, TX12, 53, rfl, by omega, kX12_309, WX12_check, rfl, CX12_check g (n)⟩, (List.forall_mem_cons.mpr ⟨⟨mX12_advance, n + 1, 0, TX12, 53, rfl, by omega, kX12_313, WX12_advance, rfl, CX12_advance g (n)⟩, (List.forall_mem_cons.mpr ⟨⟨mX12_integer, n + 2, 1, TX12, 53, rfl, by omega, kX12_325, WX12_integer, rfl, CX12_integer g (n)⟩, (fun _ h => absurd h List.not_mem_nil)⟩)⟩)⟩) (fun _ h => absurd h List.not_mem_nil) [38] 60 _ _ _ _ ?_
    simp (maxSteps := 1000000) [↓Bool.cond_eq_ite, -Prod.forall, -Prod.exists, -Prod.mk.injEq, jvk, tX12_readOnce, jtb, jol, jst, jlk, jcmp, jbin, jfl, fX12, jc2, lX12, jcat, jel, lv_args, Value.category, jins, jsrt, jins2, jble, jblt, jf3, List.filter_cons, List.filter_nil, G_m, oX12_check, oX12_advance, oX12_integer, joR, joRI, joRII, -Int32.not_le, -Int32.not_lt, -Int64.not_le, -Int64.not_lt, i3lt, i6lt, rρ]
    try simp (disch := omega) [-Prod.forall, -Prod.exists, -Prod.mk.injEq, -Int32.not_le, -Int32.not_lt, -Int64.not_le, -Int64.not_lt, i3lt, i6lt, rρ]
    intro v1 τ1 hv1 a1 a2
    subst hv1
    obtain ⟨b1, b2, b3⟩ := a2 fρ
    rw [tk_nx rρ tρ, gρ.1, gρ.2] at b3
    have w1 : jfr aIn bTk ρ τ1 := b1.weak (fun a j q => in_Tk a j q) (fun _ q => q)
    obtain ⟨c1, c2⟩ := in_fr w1
    rw [gρ.1] at c1
    rw [gρ.2] at c2
    obtain ⟨s1, es1⟩ : ∃ s1, s1 = nx (tB σ) (tL σ) s := ⟨_, rfl⟩
    rw [← es1] at b3
    have hx1 : ∃ s, tk τ1 s := ⟨_, b3⟩
    refine jvk_ok TX12_readOnce (V := [(309, 3, 12, oX12_check), (313, 1, 12, oX12_advance), (325, 2, 12, oX12_integer)]) (S := []) (List.forall_mem_cons.mpr ⟨⟨mX12_check, n + 0, 2, TX12, 53, rfl, by omega, kX12_309, WX12_check, rfl, CX12_check g (n)⟩, (List.forall_mem_cons.mpr ⟨⟨mX12_advance, n + 1, 0, TX12, 53, rfl, by omega, kX12_313, WX12_advance, rfl, CX12_advance g (n)⟩, (List.forall_mem_cons.mpr ⟨⟨mX12_integer, n + 2, 1, TX12, 53, rfl, by omega, kX12_325, WX12_integer, rfl, CX12_integer g (n)⟩, (fun _ h => absurd h List.not_mem_nil)⟩)⟩)⟩) (fun _ h => absurd h List.not_mem_nil) [50] 60 _ _ _ _ ?_
    simp (maxSteps := 1000000) [↓Bool.cond_eq_ite, -Prod.forall, -Prod.exists, -Prod.mk.injEq, jvk, tX12_readOnce, jtb, jol, jst, jlk, jcmp, jbin, jfl, fX12, jc2, lX12, jcat, jel, lv_args, Value.category, jins, jsrt, jins2, jble, jblt, jf3, List.filter_cons, List.filter_nil, G_m, oX12_check, oX12_advance, oX12_integer, joR, joRI, joRII, -Int32.not_le, -Int32.not_lt, -Int64.not_le, -Int64.not_lt, i3lt, i6lt, b2, hx1, h99]
    try simp (disch := omega) [-Prod.forall, -Prod.exists, -Prod.mk.injEq, -Int32.not_le, -Int32.not_lt, -Int64.not_le, -Int64.not_lt, i3lt, i6lt, b2, hx1, h99]
    intro v2 τ2 hv2 d1 d2 d3 d4
    subst hv2
    have d4 := d4 s1 b3
    rw [c1, c2] at d4
    have fr2 : jfr aRd bTk σ τ2 := ((by rw [eρ]; exact jfr.rfl.up _ rfl : jfr aRd bTk σ ρ)).tr ((w1.tr d1).weak (fun a j q => rd_In a j q) (fun _ q => q))
    have sz2 : rSz τ2 := rSz_fr (by rw [eρ]; exact hz : rSz ρ) (w1.tr d1) rfl rfl rfl
    refine jvk_ok TX12_readOnce (V := [(309, 3, 12, oX12_check), (313, 1, 12, oX12_advance), (325, 2, 12, oX12_integer)]) (S := []) (List.forall_mem_cons.mpr ⟨⟨mX12_check, n + 0, 2, TX12, 53, rfl, by omega, kX12_309, WX12_check, rfl, CX12_check g (n)⟩, (List.forall_mem_cons.mpr ⟨⟨mX12_advance, n + 1, 0, TX12, 53, rfl, by omega, kX12_313, WX12_advance, rfl, CX12_advance g (n)⟩, (List.forall_mem_cons.mpr ⟨⟨mX12_integer, n + 2, 1, TX12, 53, rfl, by omega, kX12_325, WX12_integer, rfl, CX12_integer g (n)⟩, (fun _ h => absurd h List.not_mem_nil)⟩)⟩)⟩) (fun _ h => absurd h List.not_mem_nil) [] 20 _ _ _ _ ?_
    simp (maxSteps := 1000000) [↓Bool.cond_eq_ite, -Prod.forall, -Prod.exists, -Prod.mk.injEq, jvk, tX12_readOnce, jtb, jol, jst, jlk, jcmp, jbin, jfl, fX12, jc2, lX12, jcat, jel, lv_args, Value.category, jins, jsrt, jins2, jble, jblt, jf3, List.filter_cons, List.filter_nil, G_m, oX12_check, oX12_advance, oX12_integer, joR, joRI, joRII, -Int32.not_le, -Int32.not_lt, -Int64.not_le, -Int64.not_lt, i3lt, i6lt, jp, ecp]
    try simp (disch := omega) [-Prod.forall, -Prod.exists, -Prod.mk.injEq, -Int32.not_le, -Int32.not_lt, -Int64.not_le, -Int64.not_lt, i3lt, i6lt, jp, ecp]
    refine hp _ _ ⟨rfl, fr2.up _ rfl, d2, sz2, fun t μ ht hμ => ?_⟩
    rw [uniq t ht]
    unfold pOnce
    rw [gv_eq hμ, if_neg (by simp [c]), ← es1]
    rcases eI : pInt (tB σ) (tL σ) 99999 s1 with e | y
    · rw [eI] at d4
      exact (d4 : flt τ2 e)
    · rw [eI] at d4
      obtain ⟨b4, b5⟩ := (d4 : τ1.1 322 38 = nI y ∧ tk τ2 (nx (tB τ1) (tL τ1) s1))
      rw [c1, c2] at b5
      refine ⟨b5, ?_⟩
      rw [b4]
      refine rdA_up ?_ _ _ _
      refine rdA_fr (σ := ρ) ?_ (w1.tr d1)
      rw [eρ]
      unfold gvS
      rw [(rdA_n hμ).2.2.2]
      exact rdA_up hμ _ _ _
  · obtain ⟨ρ, eρ⟩ : ∃ ρ, ρ = jup (jup σ 322 41 (-14)) 322 49 (σ.1 322 49 ||| (1 <<< (nI k &&& 31))) := ⟨_, rfl⟩
    have rρ : rT ρ := by rw [eρ]; exact h
    have fρ : ¬ ρ.1 322 41 = 0 := by rw [eρ, jup_1, if_neg (by decide), jup_1, if_pos ⟨rfl, rfl⟩]; decide
    refine jCon.ofP (by decide +kernel) (by simp [lg_sl, Value.category]) (fun post hp => ?_)
    refine jvk_ok TX12_readOnce (V := [(309, 3, 12, oX12_check), (313, 1, 12, oX12_advance), (325, 2, 12, oX12_integer)]) (S := []) (List.forall_mem_cons.mpr ⟨⟨mX12_check, n + 0, 2, TX12, 53, rfl, by omega, kX12_309, WX12_check, rfl, CX12_check g (n)⟩, (List.forall_mem_cons.mpr ⟨⟨mX12_advance, n + 1, 0, TX12, 53, rfl, by omega, kX12_313, WX12_advance, rfl, CX12_advance g (n)⟩, (List.forall_mem_cons.mpr ⟨⟨mX12_integer, n + 2, 1, TX12, 53, rfl, by omega, kX12_325, WX12_integer, rfl, CX12_integer g (n)⟩, (fun _ h => absurd h List.not_mem_nil)⟩)⟩)⟩) (fun _ h => absurd h List.not_mem_nil) [34] 60 _ _ _ _ ?_
    simp (maxSteps := 1000000) [↓Bool.cond_eq_ite, -Prod.forall, -Prod.exists, -Prod.mk.injEq, jvk, tX12_readOnce, jtb, jol, jst, jlk, jcmp, jbin, jfl, fX12, jc2, lX12, jcat, jel, lv_args, Value.category, jins, jsrt, jins2, jble, jblt, jf3, List.filter_cons, List.filter_nil, G_m, oX12_check, oX12_advance, oX12_integer, joR, joRI, joRII, -Int32.not_le, -Int32.not_lt, -Int64.not_le, -Int64.not_lt, i3lt, i6lt, c, f0, i11, jup_1]
    try simp (disch := omega) [-Prod.forall, -Prod.exists, -Prod.mk.injEq, -Int32.not_le, -Int32.not_lt, -Int64.not_le, -Int64.not_lt, i3lt, i6lt, c, f0, i11, jup_1]
    rw [ecp, eck] at hp
    rw [← eρ]
    refine jvk_ok TX12_readOnce (V := [(309, 3, 12, oX12_check), (313, 1, 12, oX12_advance), (325, 2, 12, oX12_integer)]) (S := []) (List.forall_mem_cons.mpr ⟨⟨mX12_check, n + 0, 2, TX12, 53, rfl, by omega, kX12_309, WX12_check, rfl, CX12_check g (n)⟩, (List.forall_mem_cons.mpr ⟨⟨mX12_advance, n + 1, 0, TX12, 53, rfl, by omega, kX12_313, WX12_advance, rfl, CX12_advance g (n)⟩, (List.forall_mem_cons.mpr ⟨⟨mX12_integer, n + 2, 1, TX12, 53, rfl, by omega, kX12_325, WX12_integer, rfl, CX12_integer g (n)⟩, (fun _ h => absurd h List.not_mem_nil)⟩)⟩)⟩) (fun _ h => absurd h List.not_mem_nil) [38] 60 _ _ _ _ ?_
    simp (maxSteps := 1000000) [↓Bool.cond_eq_ite, -Prod.forall, -Prod.exists, -Prod.mk.injEq, jvk, tX12_readOnce, jtb, jol, jst, jlk, jcmp, jbin, jfl, fX12, jc2, lX12, jcat, jel, lv_args, Value.category, jins, jsrt, jins2, jble, jblt, jf3, List.filter_cons, List.filter_nil, G_m, oX12_check, oX12_advance, oX12_integer, joR, joRI, joRII, -Int32.not_le, -Int32.not_lt, -Int64.not_le, -Int64.not_lt, i3lt, i6lt, rρ, fρ]
    try simp (disch := omega) [-Prod.forall, -Prod.exists, -Prod.mk.injEq, -Int32.not_le, -Int32.not_lt, -Int64.not_le, -Int64.not_lt, i3lt, i6lt, rρ, fρ]
    refine jvk_ok TX12_readOnce (V := [(309, 3, 12, oX12_check), (313, 1, 12, oX12_advance), (325, 2, 12, oX12_integer)]) (S := []) (List.forall_mem_cons.mpr ⟨⟨mX12_check, n + 0, 2, TX12, 53, rfl, by omega, kX12_309, WX12_check, rfl, CX12_check g (n)⟩, (List.forall_mem_cons.mpr ⟨⟨mX12_advance, n + 1, 0, TX12, 53, rfl, by omega, kX12_313, WX12_advance, rfl, CX12_advance g (n)⟩, (List.forall_mem_cons.mpr ⟨⟨mX12_integer, n + 2, 1, TX12, 53, rfl, by omega, kX12_325, WX12_integer, rfl, CX12_integer g (n)⟩, (fun _ h => absurd h List.not_mem_nil)⟩)⟩)⟩) (fun _ h => absurd h List.not_mem_nil) [50] 60 _ _ _ _ ?_
    simp (maxSteps := 1000000) [↓Bool.cond_eq_ite, -Prod.forall, -Prod.exists, -Prod.mk.injEq, jvk, tX12_readOnce, jtb, jol, jst, jlk, jcmp, jbin, jfl, fX12, jc2, lX12, jcat, jel, lv_args, Value.category, jins, jsrt, jins2, jble, jblt, jf3, List.filter_cons, List.filter_nil, G_m, oX12_check, oX12_advance, oX12_integer, joR, joRI, joRII, -Int32.not_le, -Int32.not_lt, -Int64.not_le, -Int64.not_lt, i3lt, i6lt, rρ, h99, fρ]
    try simp (disch := omega) [-Prod.forall, -Prod.exists, -Prod.mk.injEq, -Int32.not_le, -Int32.not_lt, -Int64.not_le, -Int64.not_lt, i3lt, i6lt, rρ, h99, fρ]
    intro v2 τ2 hv2 d1 d2 d3 d4
    subst hv2 d3
    refine jvk_ok TX12_readOnce (V := [(309, 3, 12, oX12_check), (313, 1, 12, oX12_advance), (325, 2, 12, oX12_integer)]) (S := []) (List.forall_mem_cons.mpr ⟨⟨mX12_check, n + 0, 2, TX12, 53, rfl, by omega, kX12_309, WX12_check, rfl, CX12_check g (n)⟩, (List.forall_mem_cons.mpr ⟨⟨mX12_advance, n + 1, 0, TX12, 53, rfl, by omega, kX12_313, WX12_advance, rfl, CX12_advance g (n)⟩, (List.forall_mem_cons.mpr ⟨⟨mX12_integer, n + 2, 1, TX12, 53, rfl, by omega, kX12_325, WX12_integer, rfl, CX12_integer g (n)⟩, (fun _ h => absurd h List.not_mem_nil)⟩)⟩)⟩) (fun _ h => absurd h List.not_mem_nil) [] 20 _ _ _ _ ?_
    simp (maxSteps := 1000000) [↓Bool.cond_eq_ite, -Prod.forall, -Prod.exists, -Prod.mk.injEq, jvk, tX12_readOnce, jtb, jol, jst, jlk, jcmp, jbin, jfl, fX12, jc2, lX12, jcat, jel, lv_args, Value.category, jins, jsrt, jins2, jble, jblt, jf3, List.filter_cons, List.filter_nil, G_m, oX12_check, oX12_advance, oX12_integer, joR, joRI, joRII, -Int32.not_le, -Int32.not_lt, -Int64.not_le, -Int64.not_lt, i3lt, i6lt, jp, ecp]
    try simp (disch := omega) [-Prod.forall, -Prod.exists, -Prod.mk.injEq, -Int32.not_le, -Int32.not_lt, -Int64.not_le, -Int64.not_lt, i3lt, i6lt, jp, ecp]
    have frρ : jfr aRd bTk σ τ2 := by rw [eρ]; exact (jfr.rfl.up _ rfl).up _ rfl
    have szρ : rSz τ2 := by rw [eρ]; exact hz
    refine hp _ _ ⟨rfl, frρ.up _ rfl, rρ, szρ, fun t μ ht hμ => ?_⟩
    rw [uniq t ht]
    unfold pOnce
    rw [gv_eq hμ, if_pos (by simp [c])]
    rw [eρ]
    exact ⟨rfl, i11.2.2.2.1, e36⟩
