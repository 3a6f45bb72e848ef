/-! the law's Desk.<init>: its text: a value (a text within a text) -/
def dpU : Nat → Bool := fun k => k == 1702 || k == 1612
theorem dpU_f {k : Nat} : dpU k = false ↔ k ≠ 1702 ∧ k ≠ 1612 := by
  unfold dpU
  simp only [Bool.or_eq_false_iff, beq_eq_false_iff_ne]
/-- the value's text is given up -/
theorem DW_dpU {g : jG} {z : dZ} {mt : jMt} {pc : Nat} {L : List (Nat × Value)} {rs : List Value} {σ : dM} {c0 s0 : Nat} (hQ : txQ σ) (k : DW g z mt pc L rs (Ddp σ dpU) c0 s0) : DW g z mt pc L rs σ c0 s0 := by
  refine DW.cl (fun hcl => ?_)
  refine DW.sub (Ddp_sub (p := dpU) hcl (fun x j q x1 x2 x3 x4 e q1 => ?_)) k
  rw [dpU_f] at x4 ⊢
  have key : q = 1702 ∨ q = 1612 → False := fun z => by
    have := txQ_in hQ x1 x2 x3 e (by omega)
    omega
  exact ⟨fun z => key (Or.inl z), fun z => key (Or.inr z)⟩
/-- what is there behind a value's text -/
theorem ix_en2 {σ υ : dM} {f : Nat → Nat} {w : Nat} (hG : ixG σ) (hw : w ≤ 300) (u1 : tsS υ 1701 1611 f w) (u2 : tfr (fun k => k ≠ 1800 ∧ k ≠ 1600 ∧ k ≠ 1601 ∧ k ≠ 1701 ∧ k ≠ 1611 ∧ k ≠ 1702 ∧ k ≠ 1612 ∧ k ≠ 1803 ∧ k ≠ 1603) σ υ) (u3 : txQ υ) (u4 : DA υ 1601 = false ∧ DA υ 1803 = false ∧ DA υ 1603 = false) : ixS (Ddp (txMv υ 1700 1610) dpU) 1700 f w ∧ tfr (fun k => ¬ ixK k) σ (Ddp (txMv υ 1700 1610) dpU) := by
  have hs : (1700 = 1700 ∧ (1610 : Nat) = 1610) ∨ ((1700 : Nat) = 1702 ∧ (1610 : Nat) = 1612) := Or.inl ⟨rfl, rfl⟩
  obtain ⟨x1, x2, x3⟩ := txMv_ok hs u3 u1
  have A0 : ∀ a, DA (txMv υ 1700 1610) a = false → DA (Ddp (txMv υ 1700 1610) dpU) a = false := fun a e => by rw [Ddp_A, e, Bool.false_and]
  have A : ∀ a, a = 1800 ∨ a = 1600 ∨ a = 1701 ∨ a = 1611 → DA (Ddp (txMv υ 1700 1610) dpU) a = false := fun a ha => A0 a (by
    rw [txM_A hs, if_neg (by omega), if_pos ha])
  have A2 : ∀ a, (a = 1601 ∨ a = 1803 ∨ a = 1603) → DA (Ddp (txMv υ 1700 1610) dpU) a = false := fun a ha => A0 a (by
    rw [txM_A hs, if_neg (by omega), if_neg (by omega)]
    rcases ha with rfl | rfl | rfl
    · exact u4.1
    · exact u4.2.1
    · exact u4.2.2)
  have A3 : ∀ a, (a = 1702 ∨ a = 1612) → DA (Ddp (txMv υ 1700 1610) dpU) a = false := fun a ha => by
    have e : dpU a = true := by
      rcases ha with rfl | rfl <;> rfl
    rw [Ddp_A, e, Bool.not_true, Bool.and_false]
  have T1 : tfr (fun k => dpU k = false) (txMv υ 1700 1610) (Ddp (txMv υ 1700 1610) dpU) := tfr_dp
  have x1' := x1
  obtain ⟨⟨h1, h2, h3⟩, ⟨h4, h5⟩, h6⟩ := x1
  refine ⟨⟨Or.inl rfl, ⟨hw, Or.inl ⟨rfl, ⟨by rw [Ddp_A, h1]; rfl, h2, h3⟩, ⟨by rw [Ddp_A, h4]; rfl, h5⟩, h6⟩⟩, fun i j q k1 k2 k3 e q1 q2 => x2 i j q k1 k2 (Ddp_AT k3).1 e q1 q2, ⟨A 1800 (by omega), A 1600 (by omega), A2 1601 (by omega)⟩, A 1701 (by omega), A 1611 (by omega)⟩, x3.1.trans u2.1, fun k hk => ?_⟩
  unfold ixK at hk
  obtain ⟨⟨g1, g2⟩, g3, g4⟩ := hG
  have dead : ∀ e : DA σ k = false, DA (Ddp (txMv υ 1700 1610) dpU) k = false → DA (Ddp (txMv υ 1700 1610) dpU) k = DA σ k ∧ (1000 ≤ k → k < 2100 → DA σ k = true → DI (Ddp (txMv υ 1700 1610) dpU) k = DI σ k ∧ DL (Ddp (txMv υ 1700 1610) dpU) k = DL σ k ∧ DR (Ddp (txMv υ 1700 1610) dpU) k = DR σ k ∧ DN (Ddp (txMv υ 1700 1610) dpU) k = DN σ k) := fun e e2 => ⟨e2.trans e.symm, fun _ _ h => by rw [e] at h; cases h⟩
  by_cases c : k = 1702 ∨ k = 1612
  · refine dead ?_ (A3 k c)
    rcases c with rfl | rfl
    · exact g1
    · exact g2
  · by_cases c2 : k = 1803 ∨ k = 1603
    · refine dead ?_ (A2 k (by omega))
      rcases c2 with rfl | rfl
      · exact g3
      · exact g4
    · obtain ⟨a1, a2⟩ := u2.2 k (by omega)
      obtain ⟨b1, b2⟩ := x3.2 k (by omega)
      obtain ⟨c1, c2⟩ := T1.2 k (dpU_f.mpr (by omega))
      refine ⟨c1.trans (b1.trans a1), fun k1 k2 k3 => ?_⟩
      obtain ⟨a3, a4, a5, a6⟩ := a2 k1 k2 k3
      obtain ⟨b3, b4, b5, b6⟩ := b2 k1 k2 (a1.trans k3)
      exact ⟨b3.trans a3, b4.trans a4, b5.trans a5, b6.trans a6⟩
theorem sbdg4 {v : Nat} (h : v < 10000) : 1 ≤ sb_dg v ∧ sb_dg v ≤ 4 := by
  by_cases c : v < 10
  · have := (dig_1 c).1
    omega
  · by_cases c2 : v < 100
    · have := (dig_2 (by omega) c2).1
      omega
    · by_cases c3 : v < 1000
      · have := (dig_3 (by omega) c3).1
        omega
      · have := (dig_4 (by omega) h).1
        omega
section EMX
variable {g : jG} {z : dZ} {k : Nat} {R : Option Value → dM → Nat → Nat → Prop}
/-- from the inner text's making to the outer's next piece: 451 to 479 -/
theorem in_yes2 {τ : dM} {f : Nat → Nat} {q w p r v N M c0 s0 : Nat} {y3 y5 : Int32} (hR : dRok g z mX12_init R) (hT : dEt g z.2.2.2.2) (hz : k + 6 ≤ z.1.frames ∧ 64 * (k + 6) ≤ z.1.locals ∧ c0 + 6 ≤ z.1.cells ∧ s0 + 2124 ≤ z.1.slots) (hkp : ixH z) (q0 : q = 1700 ∨ q = 370) (h : ∃ m, sbQ τ f w m) (hB : DA τ 1701 = false ∧ DA τ 1611 = false) (hd : dk τ N M) (hp : p < N) (hr9 : r < M) (hv : DI τ (1110 + p) r = nI v) (hv9 : v < 10000)
    (kk : ∀ υ, tfr (fun k => k ≠ 1800 ∧ k ≠ 1600 ∧ k ≠ 1601 ∧ k ≠ 1701 ∧ k ≠ 1611 ∧ k ≠ 1702 ∧ k ≠ 1612 ∧ k ≠ 1803 ∧ k ≠ 1603) τ υ → (∃ m, sbQ υ f w m) → tsS υ 1702 1612 (tcat (tcat (fun _ => 0) 0 (stN 20)) 1 (sb_dec v)) (1 + sb_dg v) → (DA υ 1803 = false ∧ DA υ 1603 = false) → (DA υ 1701 = false ∧ DA υ 1611 = false) → DW g z mX12_init 479 [(0, .ref 1000), (1, .ref 380), (2, .ref q), (3, .int y3), (4, .int (nI p)), (5, .int y5), (6, .int (nI r))] [.ref 1702, .ref 1800] υ (c0 + 6) (s0 + 2124)) : DW g z mX12_init 451 [(0, .ref 1000), (1, .ref 380), (2, .ref q), (3, .int y3), (4, .int (nI p)), (5, .int y5), (6, .int (nI r))] [.ref 1800] τ c0 s0 := by
  have hE := hT.1
  have n := k
  obtain ⟨m, hs, hQ, h01⟩ := h
  obtain ⟨⟨hk1, hk2, hk3⟩, hk4, hk5⟩ := hkp
  have q1 : ¬ q = 1800 ∧ ¬ q = 1600 ∧ ¬ q = 1601 ∧ ¬ q = 1701 ∧ ¬ q = 1611 ∧ ¬ q = 1610 ∧ ¬ q = 1803 ∧ ¬ q = 1603 ∧ ¬ q = 1702 ∧ ¬ q = 1612 := by omega
  have hN := hd.1.1.2
  have hM := hd.1.2.2
  have P1 : pkP 1800 1803 1600 1603 := Or.inl ⟨rfl, rfl, rfl, rfl⟩
  have P2 : pkP 1803 1800 1603 1600 := Or.inr ⟨rfl, rfl, rfl, rfl⟩
  obtain ⟨z1, z2, z3, z4⟩ := rnB_ok P1 hQ hs
  refine DW_rnB (f := f) (n := w) (m := m) P1 hQ hs hk5 (by simp [DnL, q1]) (by simp [DnL, DrL, Drv, q1]) (by simp [Dnr]) (by simp [Dnr, Drv]) ?_
  have eL : DrL 1600 1603 (DrL 1800 1803 [(0, .ref 1000), (1, .ref 380), (2, .ref q), (3, .int y3), (4, .int (nI p)), (5, .int y5), (6, .int (nI r))]) = [(0, .ref 1000), (1, .ref 380), (2, .ref q), (3, .int y3), (4, .int (nI p)), (5, .int y5), (6, .int (nI r))] := by simp [DrL, Drv, q1]
  have er : ([Value.ref 1800].map (Drv 1800 1803)).map (Drv 1600 1603) = [.ref 1803] := by simp [Drv]
  rw [eL, er]
  obtain ⟨π, eπ⟩ : ∃ π, π = rnB τ 1800 1803 1600 1603 := ⟨_, rfl⟩
  rw [← eπ] at z1 z2 z3 z4 ⊢
  have B1 : DA π 1601 = false := (z4.2 1601 (by omega)).1.trans h01
  have B2 : DA π 1701 = false ∧ DA π 1611 = false := ⟨(z4.2 1701 (by omega)).1.trans hB.1, (z4.2 1611 (by omega)).1.trans hB.2⟩
  refine dr_nsb (k := k) (j1 := 78) (idx := 80) hT ⟨by omega, by omega, by omega, by omega⟩ ⟨hk1.1, hk1.2.1⟩ ⟨z3.1, z3.2, B1⟩ z2 (by simp [DnL, q1]) (by simp [Dnr]) (by simp [Value.category]) (jGw_of 741 (by decide +kernel) (by decide +kernel)) hX12_80 (by decide +kernel) (by decide +kernel) (by decide +kernel) (fun τ1 h1 => ?_)
  refine dr_ldcS (q := 374) (by decide) (ldc_X hT (i := 20) (by decide)) (by decide +kernel) ?_
  refine dr_apS (k := k) (idx := 81) hT ⟨by omega, by omega, by omega, by omega⟩ hk1.2 (by simp [DnL, q1]) (by simp [Dnr]) (by simp [Value.category]) (h1 (fun _ => 0)) (txt_c π (i := 20) (by decide)) (by rw [show sLn 20 = 1 by decide]; omega) hX12_81 (by decide +kernel) (fun τ2 h2 => ?_)
  rw [show sLn 20 = 1 by decide, Nat.zero_add] at h2
  have hdπ : dk π N M := dk_tfr (fun k hk => by unfold dkI at hk; omega) z4 hd
  have hd2 : dk τ2 N M := dk_tfr (fun k hk => (dkI_x hk).2) h2.2 hdπ
  have hf := dk_f hd2
  have hvv := dk_v hd2 hp
  have hv0 := dk_v hdπ hp
  have hv2 : DI τ2 (1110 + p) r = nI v := by
    have a := ((h2.2.2 (1110 + p) (by omega)).2 (by omega) (by omega) hv0.2.1).1
    have b := ((z4.2 (1110 + p) (by omega)).2 (by omega) (by omega) (dk_v hd hp).2.1).1
    rw [a, b]
    exact hv
  have jp : jin (nI p) N := jinN hp (by omega)
  have ep : (nI p).toNatClampNeg = p := nI_clamp (by omega)
  have jr : jin (nI r) M := jinN hr9 (by omega)
  have er9 : (nI r).toNatClampNeg = r := nI_clamp (by omega)
  refine dvk_ok (nC := n + 10) DX12_init_d hTyA hR (VC := [(131, 2, 11, oX11_load)]) (VD := []) (SD := [(33, 2, 0, n + 0, 0, 0, 0, [], dL_mod)]) (AL := []) (List.forall_mem_cons.mpr ⟨⟨mX11_load, n + 10, 1, TX11, 9, rfl, by omega, hX12_131, WX11_load, rfl, CX11_load g (n) hE.1⟩, (fun _ h => absurd h List.not_mem_nil)⟩) (fun _ h => absurd h List.not_mem_nil) (List.forall_mem_cons.mpr ⟨⟨mL_mod, by decide, Or.inr ⟨_, hX12_33⟩, WL_mod, EL_mod g _ n⟩, (fun _ h => absurd h List.not_mem_nil)⟩) [473] 10 _ _ _ _ _ _ ?_
  simp (maxSteps := 1000000) [↓Bool.cond_eq_ite, -Prod.forall, -Prod.exists, -Prod.mk.injEq, ↓jc_eq_t, ↓jc_eq_f, ↓jc_ne_t, ↓jc_ne_f, ↓jc_lt_t, ↓jc_lt_f, ↓jc_ge_t, ↓jc_ge_f, ↓jc_gt_t, ↓jc_gt_f, ↓jc_le_t, ↓jc_le_f, dvk, tX12_init_d, jtb, jol, dvl, dal, dst, jlk, jcmp, jbin, jfl, qX12, jc2, qlX12, jcat, jel, lv_args, Value.category, jins, jsrt, jins2, jble, jblt, jf3, List.filter_cons, List.filter_nil, Dlo, Dnr, DnL, Dfree, Droom, DuS_S, DuS_I, DuS_L, DuS_R, DuS_N, DuS_A, DuI_S, DuI_I, DuI_L, DuI_R, DuI_N, DuI_A, DuL_S, DuL_I, DuL_L, DuL_R, DuL_N, DuL_A, DuR_S, DuR_I, DuR_L, DuR_R, DuR_N, DuR_A, Dnw_S, Dnw_I, Dnw_L, Dnw_R, Dnw_N, Dnw_A, DrI_S, DrI_I, DrI_L, DrI_R, DrI_N, DrI_A, DrJ_S, DrJ_I, DrJ_L, DrJ_R, DrJ_N, DrJ_A, dm64, G_d, G_x0, dL_mod, oX11_load, doII, joRI, -Int32.not_le, -Int32.not_lt, -Int64.not_le, -Int64.not_lt, i3lt, i6lt, hf, hvv, hv2, jp, ep, jr, er9, G_d]
  try simp (disch := omega) [-Prod.forall, -Prod.exists, -Prod.mk.injEq, -Int32.not_le, -Int32.not_lt, -Int64.not_le, -Int64.not_lt, i3lt, i6lt, hf, hvv, hv2, jp, ep, jr, er9, G_d]
  refine dr_apI (k := k) (idx := 100) hT ⟨by omega, by omega, by omega, by omega⟩ hk1.2 (by simp [DnL, q1]) (by simp [Dnr]) (by simp [Value.category]) h2 hv9 (by have := (sbdg4 hv9).2; omega) hX12_100 (by decide +kernel) (fun τ3 h3 => ?_)
  refine dr_toS (k := k) (idx := 92) hT ⟨by omega, by omega, by omega, by omega⟩ hk2 (by simp [DnL, q1]) (by simp [Dnr]) (by simp [Value.category]) h3 B2 hX12_92 (by decide +kernel) (fun τ4 u1 u2 u3 u4 => ?_)
  have hs2 : (1702 = 1700 ∧ (1612 : Nat) = 1610) ∨ ((1702 : Nat) = 1702 ∧ (1612 : Nat) = 1612) := Or.inr ⟨rfl, rfl⟩
  obtain ⟨x1, x2, x3⟩ := txMv_ok hs2 u3 u1
  refine DW_txMs (s := 1702) (r := 1612) hs2 u3 u1 hk4 (by simp [DnL, q1]) (by simp [DnL, DrL, Drv, q1]) (by simp [Dnr]) (by simp [Dnr, Drv]) ?_
  have eL2 : DrL 1611 1612 (DrL 1701 1702 [(0, .ref 1000), (1, .ref 380), (2, .ref q), (3, .int y3), (4, .int (nI p)), (5, .int y5), (6, .int (nI r))]) = [(0, .ref 1000), (1, .ref 380), (2, .ref q), (3, .int y3), (4, .int (nI p)), (5, .int y5), (6, .int (nI r))] := by simp [DrL, Drv, q1]
  have er2 : ([Value.ref 1701, .ref 1803].map (Drv 1701 1702)).map (Drv 1611 1612) = [.ref 1702, .ref 1803] := by simp [Drv]
  rw [eL2, er2]
  have sπ : sbH (txMv τ4 1702 1612) 1803 1603 f w m := sbH_fr (P := fun k => k ≠ 1800 ∧ k ≠ 1600 ∧ k ≠ 1702 ∧ k ≠ 1612 ∧ k ≠ 1701 ∧ k ≠ 1611) (by omega) (by omega) (by omega) x3 (sbH_fr (P := fun k => k ≠ 1800 ∧ k ≠ 1600 ∧ k ≠ 1601 ∧ k ≠ 1701 ∧ k ≠ 1611) (by omega) (by omega) (by omega) u2 z1)
  obtain ⟨μ, eμ⟩ : ∃ μ, μ = txMv τ4 1702 1612 := ⟨_, rfl⟩
  have D1 : DA μ 1701 = false ∧ DA μ 1611 = false ∧ DA μ 1601 = false := by
    rw [eμ]
    refine ⟨?_, ?_, ?_⟩
    · rw [txM_A hs2, if_neg (by omega), if_pos (by omega)]
    · rw [txM_A hs2, if_neg (by omega), if_pos (by omega)]
    · rw [txM_A hs2, if_neg (by omega), if_neg (by omega)]
      exact u4
  rw [← eμ] at x1 x2 x3 sπ ⊢
  obtain ⟨o1, o2, o3, o4⟩ := rnB_ok P2 x2 sπ
  refine DW_rnB (f := f) (n := w) (m := m) P2 x2 sπ ⟨hk1.1, hk1.2.1⟩ (by simp [DnL, q1]) (by simp [DnL, DrL, Drv, q1]) (by simp [Dnr]) (by simp [Dnr, Drv]) ?_
  have eL3 : DrL 1603 1600 (DrL 1803 1800 [(0, .ref 1000), (1, .ref 380), (2, .ref q), (3, .int y3), (4, .int (nI p)), (5, .int y5), (6, .int (nI r))]) = [(0, .ref 1000), (1, .ref 380), (2, .ref q), (3, .int y3), (4, .int (nI p)), (5, .int y5), (6, .int (nI r))] := by simp [DrL, Drv, q1]
  have er3 : ([Value.ref 1702, .ref 1803].map (Drv 1803 1800)).map (Drv 1603 1600) = [.ref 1702, .ref 1800] := by simp [Drv]
  rw [eL3, er3]
  obtain ⟨ρ9, eρ⟩ : ∃ ρ9, ρ9 = rnB μ 1803 1800 1603 1600 := ⟨_, rfl⟩
  rw [← eρ] at o1 o2 o3 o4 ⊢
  have F9 : ∀ k, k = 1601 ∨ k = 1701 ∨ k = 1611 → DA μ k = false → DA ρ9 k = false := fun k hk e => (o4.2 k (by omega)).1.trans e
  refine DW.wide (c1 := c0 + 6) (s1 := s0 + 2124) (by omega) (by omega) (kk ρ9 ?_ ⟨m, o1, o2, F9 1601 (by omega) D1.2.2⟩ ?_ o3 ⟨F9 1701 (by omega) D1.1, F9 1611 (by omega) D1.2.1⟩)
  · exact ((z4.weak (fun k hk => by omega)).tr (u2.weak (fun k hk => by omega))).tr ((x3.weak (fun k hk => by omega)).tr (o4.weak (fun k hk => by omega)))
  · obtain ⟨⟨a1, a2, a3⟩, ⟨a4, a5⟩, a6⟩ := x1
    obtain ⟨b1, b2⟩ := o4.2 1702 (by omega)
    obtain ⟨b3, b4⟩ := o4.2 1612 (by omega)
    obtain ⟨c1, -, c2, -⟩ := b2 (by omega) (by omega) a1
    obtain ⟨c3, -, -, c4⟩ := b4 (by omega) (by omega) a4
    exact ⟨⟨b1.trans a1, by rw [c2]; exact a2, by rw [c1]; exact a3⟩, ⟨b3.trans a4, c4.trans a5⟩, txB_of a6 c3⟩
end EMX
