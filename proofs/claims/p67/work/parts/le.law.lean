/-! a switch's row; the law's mod -/
section DSW
variable {g : jG} {z : dZ} {mt : jMt} {pc : Nat} {L : List (Nat × Value)} {r : List Value} {σ : dM} {c0 s0 : Nat}
theorem dr_tOut {dflt lo hi : Int} {offs : Array Int} {len : Nat} {x : Int32} {tgt : Nat} (hd : decode mt.2.1 pc = .ok (.tableswitch dflt lo hi offs, len)) (h : x.toInt < lo ∨ hi < x.toInt) (ht : (pc : Int) + dflt = (tgt : Int)) (k : DW g z mt tgt L r σ c0 s0) : DW g z mt pc L (.int x :: r) σ c0 s0 := by
  intro p e s m as below meth c H locs ls da X hD hP hS hl
  exact lv_tableOut X.1 X.2.1 hd h ht (k p e s m as below meth c H locs ls da X hD hP hS hl)
theorem dr_tIn {dflt lo hi : Int} {offs : Array Int} {len : Nat} {x : Int32} {off : Int} {tgt : Nat} (hd : decode mt.2.1 pc = .ok (.tableswitch dflt lo hi offs, len)) (h1 : ¬ x.toInt < lo) (h2 : ¬ hi < x.toInt) (ho : offs[(x.toInt - lo).toNat]? = some off) (ht : (pc : Int) + off = (tgt : Int)) (k : DW g z mt tgt L r σ c0 s0) : DW g z mt pc L (.int x :: r) σ c0 s0 := by
  intro p e s m as below meth c H locs ls da X hD hP hS hl
  exact lv_tableIn X.1 X.2.1 hd h1 h2 ho ht (k p e s m as below meth c H locs ls da X hD hP hS hl)
end DSW
/-- the law's mod: the number, a sign less, by k -/
def md (x : Int32) (k : Nat) : Nat := (x.toBitVec.toNat % 2147483648) % k
theorem md_lt (x : Int32) {k : Nat} (h : 0 < k) : md x k < k := Nat.mod_lt _ h
theorem and31 (x : Int32) : x &&& 2147483647 = nI (x.toBitVec.toNat % 2147483648) := by
  refine Int32.toBitVec_inj.mp (BitVec.eq_of_toNat_eq ?_)
  show (x.toBitVec &&& BitVec.ofNat 32 2147483647).toNat = (BitVec.ofNat 32 (x.toBitVec.toNat % 2147483648)).toNat
  rw [BitVec.toNat_and, BitVec.toNat_ofNat, BitVec.toNat_ofNat, show 2147483647 % 2 ^ 32 = 2 ^ 31 - 1 by decide, Nat.and_two_pow_sub_one_eq_mod]
  have := Nat.mod_lt x.toBitVec.toNat (show 0 < 2 ^ 31 by decide)
  rw [Nat.mod_eq_of_lt (a := x.toBitVec.toNat % 2147483648) (by omega)]
theorem md_irem (x : Int32) {k : Nat} (hk : 0 < k ∧ k < 10000) : (x &&& 2147483647) - (x &&& 2147483647) / nI k * nI k = nI (md x k) := by
  have h := Nat.mod_lt x.toBitVec.toNat (show 0 < 2147483648 by decide)
  obtain ⟨m, em⟩ : ∃ m, m = x.toBitVec.toNat % 2147483648 := ⟨_, rfl⟩
  unfold md
  rw [and31, ← em]
  rw [← em] at h
  have e1 : nI m = iI (m : Int) := rfl
  have e2 : nI k = iI (k : Int) := rfl
  rw [e1, e2, iI_tdiv ⟨by omega, by omega⟩ ⟨by omega, by omega⟩, iI_mul, iI_sub]
  show iI _ = iI ((m % k : Nat) : Int)
  congr 1
  rw [← Int.ofNat_tdiv, ← Int.natCast_mul]
  have h9 : m / k * k + m % k = m := Nat.div_add_mod' m k
  generalize m / k * k = A at h9 ⊢
  generalize m % k = B at h9 ⊢
  omega
def dL_mod : dO := doII fun x y σ => ((0 < y.toNatClampNeg ∧ y.toNatClampNeg < 10000), fun v τ => v = some (.int (nI (md x y.toNatClampNeg))) ∧ τ = σ)
set_option maxRecDepth 100000 in
set_option maxHeartbeats 4000000 in
theorem EL_mod (g : jG) (h0 n : Nat) : dOk g h0 (n + 0) 0 0 [] mL_mod dL_mod := by
  refine doII_ok ?_
  rintro x y σ ⟨h1, h2⟩
  have ey : y = nI y.toNatClampNeg := by
    have h0 : 0 ≤ y.toInt := by
      have e : y.toNatClampNeg = y.toInt.toNat := rfl
      omega
    have e9 : nI y.toNatClampNeg = iI y.toInt := by
      show iI ((y.toInt.toNat : Nat) : Int) = _
      rw [Int.toNat_of_nonneg h0]
    rw [e9, iI_of]
  have hy : ¬ y = 0 := fun z => by
    rw [z] at h1
    exact absurd h1 (by decide)
  have hm := md_irem x ⟨h1, h2⟩
  rw [← ey] at hm
  refine dCon.go (by decide +kernel) (by simp [lg_sl, Value.category]) (fun z hkp hcl hz post hp hR => ?_)
  simp only [DkF] at hkp
  refine dvk_ok (nC := n + 0) DL_mod hTyA hR (VC := []) (VD := []) (SD := []) (AL := []) (fun _ h => absurd h List.not_mem_nil) (fun _ h => absurd h List.not_mem_nil) (fun _ h => absurd h List.not_mem_nil) [] 10 _ _ _ _ _ _ ?_
  simp (maxSteps := 1000000) [↓Bool.cond_eq_ite, -Prod.forall, -Prod.exists, -Prod.mk.injEq, ↓jc_eq_t, ↓jc_eq_f, ↓jc_ne_t, ↓jc_ne_f, ↓jc_lt_t, ↓jc_lt_f, ↓jc_ge_t, ↓jc_ge_f, ↓jc_gt_t, ↓jc_gt_f, ↓jc_le_t, ↓jc_le_f, dvk, tL_mod, jtb, jol, dvl, dal, dst, jlk, jcmp, jbin, jfl, qL, jc2, qlL, jcat, jel, lv_args, Value.category, jins, jsrt, jins2, jble, jblt, jf3, List.filter_cons, List.filter_nil, Dlo, Dnr, DnL, Dfree, Droom, DuS_S, DuS_I, DuS_L, DuS_R, DuS_N, DuS_A, DuI_S, DuI_I, DuI_L, DuI_R, DuI_N, DuI_A, DuL_S, DuL_I, DuL_L, DuL_R, DuL_N, DuL_A, DuR_S, DuR_I, DuR_L, DuR_R, DuR_N, DuR_A, Dnw_S, Dnw_I, Dnw_L, Dnw_R, Dnw_N, Dnw_A, DrI_S, DrI_I, DrI_L, DrI_R, DrI_N, DrI_A, DrJ_S, DrJ_I, DrJ_L, DrJ_R, DrJ_N, DrJ_A, dm64, G_d, G_x0, -Int32.not_le, -Int32.not_lt, -Int64.not_le, -Int64.not_lt, i3lt, i6lt, hy, hm, hkp, hz]
  try simp (disch := omega) [-Prod.forall, -Prod.exists, -Prod.mk.injEq, -Int32.not_le, -Int32.not_lt, -Int64.not_le, -Int64.not_lt, i3lt, i6lt, hy, hm, hkp, hz]
  exact ⟨⟨by omega, by omega⟩, σ, Dsub.rfl hcl, hp _ _ ⟨rfl, rfl⟩⟩
