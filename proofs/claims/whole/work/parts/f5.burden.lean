/-! burden: a payment by an income -/
theorem dv_ok {x y : Int32} (h : ¬ y = 0) : vf_n64 (FP.ddiv (FP.i2d x) (FP.i2d y)) := by
  have k := Jvm.FP.Core.ddiv_out (Jvm.FP.Core.DFin.notNaN (Jvm.FP.Core.i2d_fin x)) (Jvm.FP.Core.i2d_fin y) (fun z => Jvm.FP.Core.i2d_ne_zero h ((Jvm.FP.Core.zero_bits2 _).mp z))
  have k2 : ¬ 9218868437227405312 < (FP.ddiv (FP.i2d x) (FP.i2d y)).toNat % 2 ^ 63 := fun z => by
    have := (Jvm.FP.Core.isNaN_bits _).mpr z
    rw [show Jvm.FP.Core.ddiv (Jvm.FP.Core.i2d x) (Jvm.FP.Core.i2d y) = FP.ddiv (FP.i2d x) (FP.i2d y) from rfl] at k
    rw [k] at this
    cases this
  unfold vf_n64
  rw [UInt64.le_iff_toNat_le, UInt64.toNat_and]
  have e1 : (0x7fffffffffffffff : UInt64).toNat = 2 ^ 63 - 1 := by decide
  have e2 : (0x7ff0000000000000 : UInt64).toNat = 9218868437227405312 := by decide
  rw [e1, e2, Nat.and_two_pow_sub_one_eq_mod]
  omega
/-- what is told: nothing by no income -/
def bdV (y i : Int32) : UInt64 := if i = 0 then FP.dconst0 else FP.ddiv (FP.i2d y) (FP.i2d i)
def oX11_burden : jO := joRI fun a x σ => (a = 0 ∧ fP σ x = true, fun v τ => v = some (.double (bdV (σ.1 53 x.toNatClampNeg) (σ.1 40 x.toNatClampNeg))) ∧ τ = σ)
set_option maxRecDepth 100000 in
set_option maxHeartbeats 4000000 in
theorem CX11_burden (g : jG) (n : Nat) : jOk g (n + 2) mX11_burden oX11_burden := by
  refine joRI_ok ?_
  rintro _ x σ ⟨rfl, hx⟩
  have jx := fP_jin hx
  by_cases c : σ.1 40 x.toNatClampNeg = 0
  · refine jCon.ofP (by decide +kernel) (by simp [lg_sl, Value.category]) (fun post hp => ?_)
    refine jvk_ok TX11_burden (V := [(136, 2, 11, oX11_checkPerson)]) (S := []) (List.forall_mem_cons.mpr ⟨⟨mX11_checkPerson, n + 1, 1, TX11, 9, rfl, by omega, kX11_136, WX11_checkPerson, rfl, CX11_checkPerson g (n)⟩, (fun _ h => absurd h List.not_mem_nil)⟩) (fun _ h => absurd h List.not_mem_nil) [] 30 _ _ _ _ ?_
    simp (maxSteps := 1000000) [↓Bool.cond_eq_ite, -Prod.forall, -Prod.exists, -Prod.mk.injEq, jvk, tX11_burden, jtb, jol, jst, jlk, jcmp, jbin, jfl, fX11, jc2, lX11, jcat, jel, lv_args, Value.category, jins, jsrt, jins2, jble, jblt, jf3, List.filter_cons, List.filter_nil, G_x, G_flat, G_loader, G_roster, G_lroster, G_lflat, G_history, G_prop, G_choice, G_tchoice, G_settle, G_page, oX11_checkPerson, joRI, -Int32.not_le, -Int32.not_lt, -Int64.not_le, -Int64.not_lt, i3lt, i6lt, hx, jx, c]
    try simp (disch := omega) [-Prod.forall, -Prod.exists, -Prod.mk.injEq, -Int32.not_le, -Int32.not_lt, -Int64.not_le, -Int64.not_lt, i3lt, i6lt, hx, jx, c]
    refine hp _ _ ⟨?_, rfl⟩
    unfold bdV
    rw [if_pos c]
  · have k := dv_ok (x := σ.1 53 x.toNatClampNeg) c
    refine jCon.ofP (by decide +kernel) (by simp [lg_sl, Value.category]) (fun post hp => ?_)
    refine jvk_ok TX11_burden (V := [(136, 2, 11, oX11_checkPerson)]) (S := []) (List.forall_mem_cons.mpr ⟨⟨mX11_checkPerson, n + 1, 1, TX11, 9, rfl, by omega, kX11_136, WX11_checkPerson, rfl, CX11_checkPerson g (n)⟩, (fun _ h => absurd h List.not_mem_nil)⟩) (fun _ h => absurd h List.not_mem_nil) [] 30 _ _ _ _ ?_
    simp (maxSteps := 1000000) [↓Bool.cond_eq_ite, -Prod.forall, -Prod.exists, -Prod.mk.injEq, jvk, tX11_burden, jtb, jol, jst, jlk, jcmp, jbin, jfl, fX11, jc2, lX11, jcat, jel, lv_args, Value.category, jins, jsrt, jins2, jble, jblt, jf3, List.filter_cons, List.filter_nil, G_x, G_flat, G_loader, G_roster, G_lroster, G_lflat, G_history, G_prop, G_choice, G_tchoice, G_settle, G_page, oX11_checkPerson, joRI, -Int32.not_le, -Int32.not_lt, -Int64.not_le, -Int64.not_lt, i3lt, i6lt, hx, jx, c, k]
    try simp (disch := omega) [-Prod.forall, -Prod.exists, -Prod.mk.injEq, -Int32.not_le, -Int32.not_lt, -Int64.not_le, -Int64.not_lt, i3lt, i6lt, hx, jx, c, k]
    refine hp _ _ ⟨?_, rfl⟩
    unfold bdV
    rw [if_neg c]
def oX12_burden : jO := joRI fun a x σ => (a = 322 ∧ mOK σ, fun v τ => v = some (.double (if mP σ x = true then bdV (mD σ x.toNatClampNeg 3) (mD σ x.toNatClampNeg 1) else FP.dconst0)) ∧ τ = jup σ 322 11 (if mP σ x = true then 0 else 1))
set_option maxRecDepth 100000 in
set_option maxHeartbeats 4000000 in
theorem CX12_burden (g : jG) (n : Nat) : jOk g (n + 2) mX12_burden oX12_burden := by
  refine joRI_ok ?_
  rintro _ x σ ⟨rfl, hok⟩
  by_cases hx : mP σ x = true
  · have jx := (mP_jin hok hx).2
    have jc := jin_c
    have tc := tn_c
    by_cases c : mD σ x.toNatClampNeg 1 = 0
    · refine jCon.ofP (by decide +kernel) (by simp [lg_sl, Value.category]) (fun post hp => ?_)
      refine jvk_ok TX12_burden (V := [(135, 2, 12, oX12_isPerson), (138, 2, 12, oX12_fails), (128, 3, 12, oX12_of)]) (S := []) (List.forall_mem_cons.mpr ⟨⟨mX12_isPerson, n + 1, 1, TX12, 53, rfl, by omega, kX12_135, WX12_isPerson, rfl, CX12_isPerson g (n)⟩, (List.forall_mem_cons.mpr ⟨⟨mX12_fails, n + 0, 1, TX12, 53, rfl, by omega, kX12_138, WX12_fails, rfl, CX12_fails g (n)⟩, (List.forall_mem_cons.mpr ⟨⟨mX12_of, n + 1, 2, TX12, 53, rfl, by omega, kX12_128, WX12_of, rfl, CX12_of g (n)⟩, (fun _ h => absurd h List.not_mem_nil)⟩)⟩)⟩) (fun _ h => absurd h List.not_mem_nil) [] 40 _ _ _ _ ?_
      simp (maxSteps := 1000000) [↓Bool.cond_eq_ite, -Prod.forall, -Prod.exists, -Prod.mk.injEq, jvk, tX12_burden, jtb, jol, jst, jlk, jcmp, jbin, jfl, fX12, jc2, lX12, jcat, jel, lv_args, Value.category, jins, jsrt, jins2, jble, jblt, jf3, List.filter_cons, List.filter_nil, G_m, oX12_isPerson, oX12_fails, oX12_of, joRI, joRII, -Int32.not_le, -Int32.not_lt, -Int64.not_le, -Int64.not_lt, i3lt, i6lt, hx, jx, c, jc, tc, mD_th, mP_th, mR_th, mN_th, mLiv_th]
      try simp (disch := omega) [-Prod.forall, -Prod.exists, -Prod.mk.injEq, -Int32.not_le, -Int32.not_lt, -Int64.not_le, -Int64.not_lt, i3lt, i6lt, hx, jx, c, jc, tc, mD_th, mP_th, mR_th, mN_th, mLiv_th]
      refine hp _ _ ⟨?_, ?_⟩
      · unfold bdV
        rw [if_pos hx, if_pos c]
      · rw [if_pos hx]
    · have k := dv_ok (x := mD σ x.toNatClampNeg 3) c
      refine jCon.ofP (by decide +kernel) (by simp [lg_sl, Value.category]) (fun post hp => ?_)
      refine jvk_ok TX12_burden (V := [(135, 2, 12, oX12_isPerson), (138, 2, 12, oX12_fails), (128, 3, 12, oX12_of)]) (S := []) (List.forall_mem_cons.mpr ⟨⟨mX12_isPerson, n + 1, 1, TX12, 53, rfl, by omega, kX12_135, WX12_isPerson, rfl, CX12_isPerson g (n)⟩, (List.forall_mem_cons.mpr ⟨⟨mX12_fails, n + 0, 1, TX12, 53, rfl, by omega, kX12_138, WX12_fails, rfl, CX12_fails g (n)⟩, (List.forall_mem_cons.mpr ⟨⟨mX12_of, n + 1, 2, TX12, 53, rfl, by omega, kX12_128, WX12_of, rfl, CX12_of g (n)⟩, (fun _ h => absurd h List.not_mem_nil)⟩)⟩)⟩) (fun _ h => absurd h List.not_mem_nil) [] 40 _ _ _ _ ?_
      simp (maxSteps := 1000000) [↓Bool.cond_eq_ite, -Prod.forall, -Prod.exists, -Prod.mk.injEq, jvk, tX12_burden, jtb, jol, jst, jlk, jcmp, jbin, jfl, fX12, jc2, lX12, jcat, jel, lv_args, Value.category, jins, jsrt, jins2, jble, jblt, jf3, List.filter_cons, List.filter_nil, G_m, oX12_isPerson, oX12_fails, oX12_of, joRI, joRII, -Int32.not_le, -Int32.not_lt, -Int64.not_le, -Int64.not_lt, i3lt, i6lt, hx, jx, c, k, jc, tc, mD_th, mP_th, mR_th, mN_th, mLiv_th]
      try simp (disch := omega) [-Prod.forall, -Prod.exists, -Prod.mk.injEq, -Int32.not_le, -Int32.not_lt, -Int64.not_le, -Int64.not_lt, i3lt, i6lt, hx, jx, c, k, jc, tc, mD_th, mP_th, mR_th, mN_th, mLiv_th]
      refine hp _ _ ⟨?_, ?_⟩
      · unfold bdV
        rw [if_pos hx, if_neg c]
      · rw [if_pos hx]
  · refine jCon.ofP (by decide +kernel) (by simp [lg_sl, Value.category]) (fun post hp => ?_)
    refine jvk_ok TX12_burden (V := [(135, 2, 12, oX12_isPerson), (138, 2, 12, oX12_fails), (128, 3, 12, oX12_of)]) (S := []) (List.forall_mem_cons.mpr ⟨⟨mX12_isPerson, n + 1, 1, TX12, 53, rfl, by omega, kX12_135, WX12_isPerson, rfl, CX12_isPerson g (n)⟩, (List.forall_mem_cons.mpr ⟨⟨mX12_fails, n + 0, 1, TX12, 53, rfl, by omega, kX12_138, WX12_fails, rfl, CX12_fails g (n)⟩, (List.forall_mem_cons.mpr ⟨⟨mX12_of, n + 1, 2, TX12, 53, rfl, by omega, kX12_128, WX12_of, rfl, CX12_of g (n)⟩, (fun _ h => absurd h List.not_mem_nil)⟩)⟩)⟩) (fun _ h => absurd h List.not_mem_nil) [] 40 _ _ _ _ ?_
    simp (maxSteps := 1000000) [↓Bool.cond_eq_ite, -Prod.forall, -Prod.exists, -Prod.mk.injEq, jvk, tX12_burden, jtb, jol, jst, jlk, jcmp, jbin, jfl, fX12, jc2, lX12, jcat, jel, lv_args, Value.category, jins, jsrt, jins2, jble, jblt, jf3, List.filter_cons, List.filter_nil, G_m, oX12_isPerson, oX12_fails, oX12_of, joRI, joRII, -Int32.not_le, -Int32.not_lt, -Int64.not_le, -Int64.not_lt, i3lt, i6lt, hx]
    try simp (disch := omega) [-Prod.forall, -Prod.exists, -Prod.mk.injEq, -Int32.not_le, -Int32.not_lt, -Int64.not_le, -Int64.not_lt, i3lt, i6lt, hx]
    refine hp _ _ ⟨?_, ?_⟩
    · rw [if_neg hx]
    · rw [if_neg hx]
theorem bd_step (x : Int32) {σ : jM} (hx : xR σ) :
  (mP σ x = true → (oX11_burden [.ref 0, .int x] σ).1 ∧ ∀ v τ, (oX11_burden [.ref 0, .int x] σ).2 v τ → (oX12_burden [.ref 322, .int x] τ).1 ∧ ∀ w υ, (oX12_burden [.ref 322, .int x] τ).2 w υ → (∃ d, vf_n64 d ∧ v = some (.double d)) ∧ w = v ∧ υ.1 322 11 = 0 ∧ xR υ) ∧
  (¬ mP σ x = true → (oX12_burden [.ref 322, .int x] σ).1 ∧ ∀ w υ, (oX12_burden [.ref 322, .int x] σ).2 w υ → (∃ d, w = some (.double d)) ∧ υ.1 322 11 = 1 ∧ xR υ) := by
  obtain ⟨R, N, K, h⟩ := hx
  have m6 := (xv_n h).2.2.2.2.2.1
  refine ⟨fun c => ⟨⟨rfl, ((xv_P h x).1).trans c⟩, ?_⟩, fun c => ⟨⟨rfl, m6⟩, ?_⟩⟩
  · rintro v τ ⟨hv, e⟩
    rw [e]
    refine ⟨⟨rfl, m6⟩, ?_⟩
    rintro w υ ⟨hw, hu⟩
    rw [if_pos c] at hw hu
    obtain ⟨p1, p2, p3⟩ := xv_p h c
    have e1 : σ.1 53 x.toNatClampNeg = mD σ x.toNatClampNeg 3 := ((fl37 h.2.1.1).2.2.1 _ (show x.toNatClampNeg < 10 by omega)).2.2.1
    have e2 : σ.1 40 x.toNatClampNeg = mD σ x.toNatClampNeg 1 := ((fl37 h.2.1.1).2.2.2 _ p1).1
    refine ⟨⟨_, ?_, hv⟩, by rw [hv, hw, e1, e2], by rw [hu, jup_1, if_pos ⟨rfl, rfl⟩], R, N, K, by rw [hu]; exact (xQ_th h 0).R h⟩
    unfold bdV
    by_cases z : σ.1 40 x.toNatClampNeg = 0
    · rw [if_pos z]
      unfold vf_n64
      decide
    · rw [if_neg z]
      exact dv_ok z
  · rintro w υ ⟨hw, hu⟩
    rw [if_neg c] at hw hu
    exact ⟨⟨_, hw⟩, by rw [hu, jup_1, if_pos ⟨rfl, rfl⟩], R, N, K, by rw [hu]; exact (xQ_th h 1).R h⟩
