/-! the law's start: its objects are made, then its loop -/
abbrev mLn (nm : String) : jMt := (({ cls := x.cls, name := nm, desc := x.desc } : MethodName), code, 9, ret)
def lwT0 (g : jG) (b : Nat) : lwT := fun below a s t => jE g s s.heap → lwTg b (jA g) below a s t
theorem kR_jws (g : jG) (σ : jM) : kR g σ 0 354 = jws g σ := by
  unfold kR jws kpe
  refine List.map_congr_left (fun k _ => ?_)
  rw [Nat.zero_add]
theorem ku_jY {g : jG} {h0 b : Nat} (hI : jInj g) (hEk : jEk g) {nm : String} {s0' pc : Nat} {L : List (Nat × Value)} {st : List Value} (k : jY g (zL (lwTg b (jA g)) 354 s0') mLw 1000 pc L st s0) : kU g h0 room_1 (mLn nm) 0 (lwT0 g b) 354 s0' pc L st 354 (kR g s0 0 354) := by
  intro p e s m as below meth c H locs ls X hz hP hS hl T0 hT0 X0
  by_cases hE : jE g s s.heap
  · have hX : jX g mLw p s m as meth c := ⟨X.1, X.2.1, X.2.2.1, X.2.2.2.1, X.2.2.2.2.1, X.2.2.2.2.2.1, X.2.2.2.2.2.2.1, hI, X.2.2.2.2.2.2.2.1, X.2.2.2.2.2.2.2.2.1.1, hEk, hE⟩
    have hH : jHp g s0 H := by
      unfold jHp
      rw [← kR_jws]
      exact hP
    have hz1 := hz.1
    have hS9 : va_S (jA g) s.heap H [] := ⟨hS.1, fun q h1 h2 => hS.2.1 q h1 (fun z => by
      unfold kA at z
      omega), fun l hl => absurd hl List.not_mem_nil⟩
    have kW := k p e s m as below meth c H [] ls ⟨hX, trivial⟩ hH hS9 hl
    obtain ⟨t, a1, b1⟩ := va_forget (locs := locs) (fun q hq => by
      have := hS.2.2 q hq
      unfold kA at this
      omega) kW T0 hT0 X0
    exact ⟨t, a1, fun _ => b1⟩
  · exact ⟨_, Steps.refl _, fun z => absurd z hE⟩
set_option maxRecDepth 100000 in
set_option maxHeartbeats 4000000 in
theorem law_start {g : jG} {h0 b : Nat} {nm : String} (hB : kB g h0) (hI : jInj g) (hEk : jEk g) (hEx : jEx g) {N : Nat} {xs : Nat → Int32} (hX : jScr g N xs) : kU g h0 room_1 (mLn nm) 0 (lwT0 g b) 0 0 0 [(0, .ref 380)] [] 0 [] := by
  refine ku_new (t := 0) (j1 := 8) (j2 := 82) (mt' := mX11_init) (ci := 11) (N9 := 9) (nn := 322) (ms := 3734) (n' := 4) (T9 := TX11) (ty9 := tyX11) (σ := s0) hB (by decide) (by decide) (kR_U g s0 0 0) (by decide) (show (jshp 0).2.1 = 11 by decide +kernel) jcls_X11 ⟨tyX11_ok, by decide +kernel⟩ (show Cond.classLink "RentDivisionLaw" 8 "RentDivision" ∈ jGw from (jGw_of 119 (by decide +kernel) (by decide +kernel))) (jGw_of 120 (by decide +kernel) (by decide +kernel)) (jGw_of 94 (by decide +kernel) (by decide +kernel)) (show Cond.methodLink "RentDivisionLaw" 82 yX11_init ∈ jGw from (jGw_of 121 (by decide +kernel) (by decide +kernel))) (jGw_of 122 (by decide +kernel) (by decide +kernel)) (jGw_of 123 (by decide +kernel) (by decide +kernel)) rfl rfl ⟨by decide +kernel, by decide +kernel, by decide +kernel⟩ ⟨Nat.le_of_ble_eq_true rfl, Nat.le_of_ble_eq_true rfl⟩ (Nat.le_of_ble_eq_true rfl) (Nat.le_of_ble_eq_true rfl) (by simp) (KC_0 hB) (show decode code 0 = .ok (.new 8, 3) by decide +kernel) (show decode code 3 = .ok (.dup, 1) by decide +kernel) (show decode code 4 = .ok (.invokespecial 82, 3) by decide +kernel) ?_
  refine kU.eq (w' := kR g s0 0 322) rfl ?_
  refine ku_astoren (j := 1) (show 1 < 9 by decide) (show decode code 7 = .ok (.astore_n 1, 1) by decide +kernel) ?_
  refine ku_new (t := 322) (j1 := 83) (j2 := 85) (mt' := mX12_init) (ci := 12) (N9 := 53) (nn := 30) (ms := 4151) (n' := 1) (T9 := TX12) (ty9 := tyX12) (σ := s0) hB (by decide) (by decide) (kR_U g s0 0 322) (by decide) (show (jshp 322).2.1 = 12 by decide +kernel) jcls_X12 ⟨tyX12_ok, by decide +kernel⟩ (show Cond.classLink "RentDivisionLaw" 83 "RentDivisionModel" ∈ jGw from (jGw_of 1474 (by decide +kernel) (by decide +kernel))) (jGw_of 1475 (by decide +kernel) (by decide +kernel)) (jGw_of 107 (by decide +kernel) (by decide +kernel)) (show Cond.methodLink "RentDivisionLaw" 85 yX12_init ∈ jGw from (jGw_of 1476 (by decide +kernel) (by decide +kernel))) (jGw_of 1477 (by decide +kernel) (by decide +kernel)) (jGw_of 1478 (by decide +kernel) (by decide +kernel)) rfl rfl ⟨by decide +kernel, by decide +kernel, by decide +kernel⟩ ⟨Nat.le_of_ble_eq_true rfl, Nat.le_of_ble_eq_true rfl⟩ (Nat.le_of_ble_eq_true rfl) (Nat.le_of_ble_eq_true rfl) (by simp) (KC_322 hB) (show decode code 8 = .ok (.new 83, 3) by decide +kernel) (show decode code 11 = .ok (.dup, 1) by decide +kernel) (show decode code 12 = .ok (.invokespecial 85, 3) by decide +kernel) ?_
  refine kU.eq (w' := kR g s0 0 352) (kR_app g s0 0 322 30) ?_
  refine ku_astoren (j := 2) (show 2 < 9 by decide) (show decode code 15 = .ok (.astore_n 2, 1) by decide +kernel) ?_
  refine ku_iconst (v := 1) rfl (show decode code 16 = .ok (.iconst 1, 1) by decide +kernel) ?_
  refine ku_newa (t := 352) (atype := .long) (ti := 4) (N' := 1) (a0 := (1, .inr (.inl (s0.2.1 352)))) hB (by decide) (by decide) (kR_U g s0 0 352) (by decide) (jGw_of 403 (by decide +kernel) (by decide +kernel)) rfl (fun cA => rfl) (by decide) (by decide) (by decide) (Nat.le_of_ble_eq_true rfl) (Nat.le_of_ble_eq_true rfl) (show decode code 17 = .ok (.newarray .long, 2) by decide +kernel) ?_
  refine kU.eq (w' := kR g s0 0 353) (kR_app g s0 0 352 1) ?_
  refine ku_astoren (j := 3) (show 3 < 9 by decide) (show decode code 19 = .ok (.astore_n 3, 1) by decide +kernel) ?_
  refine ku_iconst (v := 1) rfl (show decode code 20 = .ok (.iconst 1, 1) by decide +kernel) ?_
  refine ku_newa (t := 353) (atype := .double) (ti := 5) (N' := 1) (a0 := (1, .inr (.inr (.inr (.inl (s0.2.2 353)))))) hB (by decide) (by decide) (kR_U g s0 0 353) (by decide) (jGw_of 2153 (by decide +kernel) (by decide +kernel)) rfl (fun cA => rfl) (by decide) (by decide) (by decide) (Nat.le_of_ble_eq_true rfl) (Nat.le_of_ble_eq_true rfl) (show decode code 21 = .ok (.newarray .double, 2) by decide +kernel) ?_
  refine kU.eq (w' := kR g s0 0 354) (kR_app g s0 0 353 1) ?_
  refine ku_astore (j := 4) (show 4 < 9 by decide) (show decode code 23 = .ok (.astore 4, 2) by decide +kernel) ?_
  refine ku_jY hI hEk ?_
  refine jy_iconst (v := nI 0) rfl (show decode code 25 = .ok (.iconst 0, 1) by decide +kernel) ?_
  refine jy_istore (j := 5) (by decide) (show decode code 26 = .ok (.istore 5, 2) by decide +kernel) ?_
  have hN := hX.1
  exact law_loop hEx hX (fun i σ => law_end) 512 0 354 7949 s0 s0_R (by omega) (by decide) (by decide) (Nat.le_of_ble_eq_true rfl)
