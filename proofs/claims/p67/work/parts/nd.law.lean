/-! the law's Desk.<init>, whole -/
section END
variable {N M : Nat}
theorem bd1_A (k : Nat) : DA (bd1 N M) k = if k = 1900 then true else if k = 1000 then true else false := by
  unfold bd1 bdD bdZ
  rw [DuI_A, DuI_A, DuI_A, DuR_A, DuR_A, DuI_A, Dnw_A, DuR_A, Dnw_A]
  rfl
theorem bd1_I (j : Nat) : DI (bd1 N M) 1000 j = if j = 2 then nI N else if j = 1 then nI M else if j = 14 then 2 else 0 := by
  unfold bd1 bdD bdZ
  rw [DuI_I]
  by_cases c2 : j = 2
  · rw [if_pos ⟨rfl, c2⟩, if_pos c2]
  rw [if_neg (fun z => c2 z.2), if_neg c2, DuI_I]
  by_cases c1 : j = 1
  · rw [if_pos ⟨rfl, c1⟩, if_pos c1]
  rw [if_neg (fun z => c1 z.2), if_neg c1, DuI_I]
  by_cases c4 : j = 14
  · rw [if_pos ⟨rfl, c4⟩, if_pos c4]
  rw [if_neg (fun z => c4 z.2), if_neg c4, DuR_I, DuR_I, DuI_I, if_neg (by omega), Dnw_I, if_neg (by omega), DuR_I, Dnw_I, if_pos rfl]
theorem bd1_L (j : Nat) : DL (bd1 N M) 1000 j = 0 := by
  unfold bd1 bdD bdZ
  rw [DuI_L, DuI_L, DuI_L, DuR_L, DuR_L, DuI_L, Dnw_L, if_neg (by omega), DuR_L, Dnw_L, if_pos rfl]
theorem bd1_R : DR (bd1 N M) 1000 0 = some 0 ∧ DR (bd1 N M) 1000 11 = some 1900 ∧ DR (bd1 N M) 1900 1 = some 504 ∧ DI (bd1 N M) 1900 2 = 0 := by
  unfold bd1 bdD bdZ
  refine ⟨?_, ?_, ?_, ?_⟩
  · rw [DuI_R, DuI_R, DuI_R, DuR_R, if_neg (by omega), DuR_R, if_neg (by omega), DuI_R, Dnw_R, if_neg (by omega), DuR_R, if_pos ⟨rfl, rfl⟩]
  · rw [DuI_R, DuI_R, DuI_R, DuR_R, if_pos ⟨rfl, rfl⟩]
  · rw [DuI_R, DuI_R, DuI_R, DuR_R, if_neg (by omega), DuR_R, if_pos ⟨rfl, rfl⟩]
  · rw [DuI_I, if_neg (by omega), DuI_I, if_neg (by omega), DuI_I, if_neg (by omega), DuR_I, DuR_I, DuI_I, if_neg (by omega), Dnw_I, if_pos rfl]
theorem bd1_rf : rfQ (bd1 N M) := by
  unfold bd1 bdD
  refine rfQ_I (rfQ_I (rfQ_I (rfQ_Du (by omega) (rfQ_Du (by omega) (rfQ_I (rfQ_nw (rfQ_Du (by omega) (rfQ_nw ?_))))))))
  intro k j q e
  cases e
theorem bd1_S : DS (bd1 N M) = s0 := rfl
theorem bd1_P : bdP (bd1 N M) N M (fun k => k = 0) := by
  refine ⟨by rw [bd1_A, if_neg (by omega), if_pos rfl], ⟨by rw [bd1_I, if_neg (by omega), if_pos rfl], by rw [bd1_I, if_pos rfl]⟩, fun k k1 k2 _ => by rw [bd1_A, if_neg (by omega), if_neg (by omega)]⟩
/-- the desk when its rows are made -/
theorem bd3_k (hN : 1 ≤ N ∧ N ≤ 5) (hM : 1 ≤ M ∧ M ≤ 4) : dk (bd2 (bd1 N M) N M) N M := by
  have o0 := bd2_o (σ := bd1 N M) (N := N) (M := M) (k := 1000) (by omega)
  have o9 := bd2_o (σ := bd1 N M) (N := N) (M := M) (k := 1900) (by omega)
  have a0 := bd2_1100 (σ := bd1 N M) (M := M) hN.2
  have a1 := bd2_1101 (σ := bd1 N M) (M := M) hN.2
  have a2 := bd2_1102 (σ := bd1 N M) (M := M) hN.2
  have a3 := bd2_1103 (σ := bd1 N M) (M := M) hN.2
  have a4 := bd2_1104 (σ := bd1 N M) (M := M) hN.2
  have a5 := bd2_1300 (σ := bd1 N M) (M := M) hN.2
  have a6 := bd2_1400 (σ := bd1 N M) (M := M) hN.2
  have a7 := bd2_1500 (σ := bd1 N M) (M := M) hN.2
  refine ⟨⟨hN, hM⟩, ⟨?_, ?_⟩, ⟨?_, a0.1, a1.1, a2.1, a3.1, a4.1, a5.1, a6.1, a7.1, ?_⟩, ⟨?_, ?_, ?_, ?_, ?_, ?_, ?_, ?_, ?_, ?_⟩, ⟨a0.2.2.2, a1.2.2.2, a2.2.2.2, a3.2.2.2, a4.2.2.2, a5.2.2.2, a6.2.2.2, a7.2.2.2⟩, fun p hp => ⟨⟨bd2_1400R hN.2 hp, (bd2_1110 hN.2 hp).1, (bd2_1110 hN.2 hp).2.2⟩, ⟨bd2_1500R hN.2 hp, (bd2_1200 hN.2 hp).1, (bd2_1200 hN.2 hp).2.2⟩, fun r => Or.inl ((bd2_1200 hN.2 hp).2.1 r)⟩⟩
  · rw [o0.2.1, bd1_I, if_neg (by omega), if_pos rfl]
  · rw [o0.2.1, bd1_I, if_pos rfl]
  · rw [o0.1, bd1_A, if_neg (by omega), if_pos rfl]
  · rw [o9.1, bd1_A, if_pos rfl]
  · rw [bd2_R0, if_neg (by omega), if_neg (by omega), if_neg (by omega), if_neg (by omega), if_neg (by omega), if_neg (by omega), if_neg (by omega), if_neg (by omega), if_neg (by omega)]
    exact bd1_R.1
  · rw [bd2_R0]; rfl
  · rw [bd2_R0]; rfl
  · rw [bd2_R0]; rfl
  · rw [bd2_R0]; rfl
  · rw [bd2_R0]; rfl
  · rw [bd2_R0]; rfl
  · rw [bd2_R0]; rfl
  · rw [bd2_R0]; rfl
  · rw [bd2_R0, if_neg (by omega), if_neg (by omega), if_neg (by omega), if_neg (by omega), if_neg (by omega), if_neg (by omega), if_neg (by omega), if_neg (by omega), if_neg (by omega)]
    exact bd1_R.2.1
/-- what isn't there -/
def bdN (k : Nat) : Prop := k ≠ 1000 ∧ k ≠ 1900 ∧ ¬ (1100 ≤ k ∧ k ≤ 1105) ∧ ¬ (1110 ≤ k ∧ k < 1115) ∧ ¬ (1200 ≤ k ∧ k < 1205) ∧ k ≠ 1300 ∧ k ≠ 1400 ∧ k ≠ 1500
theorem bd3_no (hN : N ≤ 5) {k : Nat} (h : bdN k) : DA (bd2 (bd1 N M) N M) k = false := by
  unfold bdN at h
  rw [(bd2_o (σ := bd1 N M) (N := N) (M := M) (k := k) (by omega)).1, bd1_A, if_neg (by omega), if_neg (by omega)]
end END
def bdPost (x : Nat → Int32) (N M K : Nat) : Option Value → dM → Prop := fun v τ => v = none ∧ rZ τ (DS τ) N M K 0 ∧ DI τ 1000 19 = 1 ∧ Dcl0 τ
section ENE
variable {g : jG} {h0 : Nat}
set_option maxRecDepth 100000 in
set_option maxHeartbeats 4000000 in
theorem EX12_init {k XN N M K a b : Nat} {xs : Nat → Int32} (hT : dEt g h0) (hEs : jEs g) (hC : dEc g h0 XN xs) (hB : kB g (h0 + 1)) (hD0 : jad g 1000 = h0) (eN : N = 1 + md (scX XN xs 0 >>> 3) 5) (eM : M = 1 + md (scX XN xs 0) 4) (ea : a = md (scX XN xs 0 >>> 7) 1800) (eb : b = md (scX XN xs 0 >>> 9) 2500) (eK : K = md (scX XN xs 6) 3)
    (hrd : rdOk (lwD (fun i => scX XN xs (1 + i)) M N a b (scX XN xs 6) K) (lwDn (fun i => scX XN xs (1 + i)) M N a b (scX XN xs 6) K) (2 + M + N + K) M N K (lwF (fun i => scX XN xs (1 + i)) M N a b) (fun w k => if w = 0 then nI (pnP (scX XN xs 6) N (K - k)) else if w = 1 then nI (pnM (scX XN xs 6) (K - k)) else nI (pnI (scX XN xs 6) (K - k)))) : iCon g h0 (k + 12) 862 193831 (bdPost xs N M K) := by
  have hN : 1 ≤ N ∧ N ≤ 5 := by
    have := md_lt (scX XN xs 0 >>> 3) (k := 5) (by omega)
    omega
  have hM : 1 ≤ M ∧ M ≤ 4 := by
    have := md_lt (scX XN xs 0) (k := 4) (by omega)
    omega
  have hK : K ≤ 2 := by
    have := md_lt (scX XN xs 6) (k := 3) (by omega)
    omega
  refine bd_head hB hD0 (by omega) (by omega) (by omega) ?_
  have hR : dRok g (iz g h0 (k + 12) 862 193831 (bdPost xs N M K)) mX12_init (dRp 862 193831 (bdPost xs N M K)) := dRok_con
  obtain ⟨z, ez⟩ : ∃ z, z = iz g h0 (k + 12) 862 193831 (bdPost xs N M K) := ⟨_, rfl⟩
  have hz1 : z.1.frames = k + 12 ∧ z.1.locals = 64 * (k + 12) ∧ z.1.cells = 862 ∧ z.1.slots = 193831 := by
    rw [ez]
    exact ⟨rfl, rfl, rfl, rfl⟩
  have hzk : ∀ i, i ≠ 1000 → z.2.2.1 i = false := fun i hi => by
    rw [ez]
    show (i == 1000) = false
    exact beq_eq_false_iff_ne.mpr hi
  have hz5 : z.2.2.2.2 = h0 := by
    rw [ez]
    rfl
  rw [← ez] at hR ⊢
  rw [← hz5] at hT hC
  have hE := hT.1
  have n := k
  refine in_one (k := k) hR hT hC hzk ⟨by omega, by omega, by omega, by omega⟩ ?_
  rw [← eN, ← eM]
  refine in_two (k := k) hR hT hzk ⟨by omega, by omega, by omega, by omega⟩ hN hM bd1_P ?_
  have hd := bd3_k hN hM
  have no : ∀ k, bdN k → DA (bd2 (bd1 N M) N M) k = false := fun k hk => bd3_no hN.2 hk
  have hIx : ixS (bd2 (bd1 N M) N M) 370 (stN 16) 0 := ⟨Or.inr ⟨rfl, no 1700 (by unfold bdN; omega), no 1610 (by unfold bdN; omega)⟩, txt_c _ (i := 16) (by omega), txQ_rf (bd2_rf hN.2 bd1_rf), ⟨no 1800 (by unfold bdN; omega), no 1600 (by unfold bdN; omega), no 1601 (by unfold bdN; omega)⟩, no 1701 (by unfold bdN; omega), no 1611 (by unfold bdN; omega)⟩
  have hG : ixG (bd2 (bd1 N M) N M) := ⟨⟨no 1702 (by unfold bdN; omega), no 1612 (by unfold bdN; omega)⟩, no 1803 (by unfold bdN; omega), no 1603 (by unfold bdN; omega)⟩
  have o9 := bd2_o (σ := bd1 N M) (N := N) (M := M) (k := 1900) (by omega)
  have hal : alP2 (bd2 (bd1 N M) N M) 0 := ⟨⟨hd.2.2.1.2.2.2.2.2.2.2.2.2, by rw [o9.2.1]; exact bd1_R.2.2.2, by rw [o9.2.2.2.2 (by omega)]; exact bd1_R.2.2.1, Or.inl ⟨rfl, rfl, no 2000 (by unfold bdN; omega)⟩⟩, fun i _ hi => no (1138 + i) (by unfold bdN; omega)⟩
  have hx : xFd (DS (bd2 (bd1 N M) N M)) 0 (stN 16) := s0_Fd _
  have zA : (∀ p, DI (bd2 (bd1 N M) N M) 1100 p = 0) ∧ (∀ p, DI (bd2 (bd1 N M) N M) 1103 p = 0) ∧ (∀ p, DL (bd2 (bd1 N M) N M) 1300 p = 0) ∧ ∀ p, DI (bd2 (bd1 N M) N M) 1104 p = 0 := ⟨(bd2_1100 hN.2).2.1, (bd2_1103 hN.2).2.1, (bd2_1300 hN.2).2.2.1, (bd2_1104 hN.2).2.1⟩
  have o0 := bd2_o (σ := bd1 N M) (N := N) (M := M) (k := 1000) (by omega)
  have zI : ∀ j, DI (bd2 (bd1 N M) N M) 1000 j = if j = 2 then nI N else if j = 1 then nI M else if j = 14 then 2 else 0 := fun j => by rw [o0.2.1]; exact bd1_I j
  have zL : ∀ j, DL (bd2 (bd1 N M) N M) 1000 j = 0 := fun j => by rw [o0.2.2.1]; exact bd1_L j
  obtain ⟨σ, eσ⟩ : ∃ σ, σ = bd2 (bd1 N M) N M := ⟨_, rfl⟩
  rw [← eσ] at hd no hIx hG hal hx zA zI zL ⊢
  have hf := dk_f hd
  have s1 : 2 + nI M = nI (2 + M) := nI_add 2 M
  have s2 : nI (2 + M) + nI N = nI (2 + M + N) := nI_add (2 + M) N
  refine dr_ldcS (q := 370) (by decide) (ldc_X hT (i := 16) (by decide)) (by decide +kernel) ?_
  refine dvk_ok (nC := n + 10) DX12_init_a hTyA hR (VC := [(131, 2, 11, oX11_load)]) (VD := []) (SD := [(33, 2, 0, n + 0, 0, 0, 0, [], dL_mod)]) (AL := []) (List.forall_mem_cons.mpr ⟨⟨mX11_load, n + 10, 1, TX11, 9, rfl, by omega, hX12_131, WX11_load, rfl, CX11_load g (n) hE.1⟩, (fun _ h => absurd h List.not_mem_nil)⟩) (fun _ h => absurd h List.not_mem_nil) (List.forall_mem_cons.mpr ⟨⟨mL_mod, by decide, Or.inr ⟨_, hX12_33⟩, WL_mod, EL_mod g _ n⟩, (fun _ h => absurd h List.not_mem_nil)⟩) [183] 20 _ _ _ _ _ _ ?_
  simp (maxSteps := 1000000) [↓Bool.cond_eq_ite, -Prod.forall, -Prod.exists, -Prod.mk.injEq, ↓jc_eq_t, ↓jc_eq_f, ↓jc_ne_t, ↓jc_ne_f, ↓jc_lt_t, ↓jc_lt_f, ↓jc_ge_t, ↓jc_ge_f, ↓jc_gt_t, ↓jc_gt_f, ↓jc_le_t, ↓jc_le_f, dvk, tX12_init_a, jtb, jol, dvl, dal, dst, jlk, jcmp, jbin, jfl, qX12, jc2, qlX12, jcat, jel, lv_args, Value.category, jins, jsrt, jins2, jble, jblt, jf3, List.filter_cons, List.filter_nil, Dlo, Dnr, DnL, Dfree, Droom, DuS_S, DuS_I, DuS_L, DuS_R, DuS_N, DuS_A, DuI_S, DuI_I, DuI_L, DuI_R, DuI_N, DuI_A, DuL_S, DuL_I, DuL_L, DuL_R, DuL_N, DuL_A, DuR_S, DuR_I, DuR_L, DuR_R, DuR_N, DuR_A, Dnw_S, Dnw_I, Dnw_L, Dnw_R, Dnw_N, Dnw_A, DrI_S, DrI_I, DrI_L, DrI_R, DrI_N, DrI_A, DrJ_S, DrJ_I, DrJ_L, DrJ_R, DrJ_N, DrJ_A, dm64, G_d, G_x0, dL_mod, oX11_load, doII, joRI, -Int32.not_le, -Int32.not_lt, -Int64.not_le, -Int64.not_lt, i3lt, i6lt, hf, s1, s2, G_d]
  try simp (disch := omega) [-Prod.forall, -Prod.exists, -Prod.mk.injEq, -Int32.not_le, -Int32.not_lt, -Int64.not_le, -Int64.not_lt, i3lt, i6lt, hf, s1, s2, G_d]
  show DW g z mX12_init 183 [(0, .ref 1000), (1, .ref 380), (2, .ref 370), (3, .int (nI (2 + M + N))), (4, .int (nI 0))] [] σ _ _
  refine in_body (k := k) (K := K) (a := a) (b := b) hR hT hEs hC ⟨⟨⟨⟨hzk 1800 (by omega), hzk 1600 (by omega), hzk 1601 (by omega)⟩, ⟨hzk 1701 (by omega), hzk 1611 (by omega)⟩, hzk 1700 (by omega), hzk 1610 (by omega)⟩, ⟨hzk 1702 (by omega), hzk 1612 (by omega)⟩, hzk 1803 (by omega), hzk 1603 (by omega)⟩, hzk 1190 (by omega), ⟨hzk 1138 (by omega), hzk 1139 (by omega)⟩, hzk 2000 (by omega)⟩ ⟨by omega, by omega, by omega, by omega⟩ hd hIx hG (no 1190 (by unfold bdN; omega)) hx hal ea eb eK hrd (fun υ s9 w1 w2 w3 w4 w5 w6 w7 w8 w9 w10 w11 => ?_)
  refine DW.cl (fun hcl => ?_)
  have hS : DS υ = s9 := w1.1
  have A : ∀ k, inZ k → bdN k → DA υ k = false := fun k h1 h2 => (w1.2 k h1).1.trans (no k h2)
  have Z : ∀ k, inZ k → 1000 ≤ k → k < 2100 → DA σ k = true → DI υ k = DI σ k ∧ DL υ k = DL σ k := fun k h1 h2 h3 h4 => by
    obtain ⟨a1, a2, -⟩ := (w1.2 k h1).2 h2 h3 h4
    exact ⟨a1, a2⟩
  have u0 := Z 1100 (by unfold inZ inQ ixK; omega) (by omega) (by omega) hd.2.2.1.2.1
  have u3 := Z 1103 (by unfold inZ inQ ixK; omega) (by omega) (by omega) hd.2.2.1.2.2.2.2.1
  have u4 := Z 1104 (by unfold inZ inQ ixK; omega) (by omega) (by omega) hd.2.2.1.2.2.2.2.2.1
  have u5 := Z 1300 (by unfold inZ inQ ixK; omega) (by omega) (by omega) hd.2.2.1.2.2.2.2.2.2.1
  have rz : rZ υ s9 N M K 0 := rZ_born (a := a) (b := b) (ys := fun i => scX XN xs (1 + i)) (x := scX XN xs 6) w2 hS hcl hK ⟨fun p => by rw [u0.1]; exact zA.1 p, fun p => by rw [u3.1]; exact zA.2.1 p, fun p => by rw [u5.2]; exact zA.2.2.1 p, fun p => by rw [u4.1]; exact zA.2.2.2 p⟩ ⟨by rw [w3]; rfl, by rw [w3]; rfl, by rw [w3, zI]; rfl, by rw [w3, zI]; rfl, by rw [w3, zI]; rfl, by rw [w3, zI]; rfl, by rw [w4]; exact zL 18⟩ ⟨A 1106 (by unfold inZ inQ ixK; omega) (by unfold bdN; omega), A 1107 (by unfold inZ inQ ixK; omega) (by unfold bdN; omega), fun i hi => by
      unfold tmpK at hi
      exact A i (by unfold inZ inQ ixK; omega) (by unfold bdN; omega)⟩ w6 w7 w8 w9 w10 (fun i hi => w11 i hi)
  exact hR none .return_ 793 _ υ _ _ (by decide +kernel) rfl ⟨⟨by omega, by omega⟩, υ, Dsub.rfl hcl, rfl, by rw [hS]; exact rz, by rw [w3]; rfl, hcl⟩
end ENE
