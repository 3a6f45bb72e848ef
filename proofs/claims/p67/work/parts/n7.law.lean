/-! the law's Desk.<init>: from 183 to its end -/
theorem ixG_P {P : Nat → Prop} {σ τ : dM} (f : tfr P σ τ) (hP : P 1702 ∧ P 1612 ∧ P 1803 ∧ P 1603) (h : ixG σ) : ixG τ := by
  obtain ⟨⟨g1, g2⟩, g3, g4⟩ := h
  exact ⟨⟨(f.2 _ hP.1).1.trans g1, (f.2 _ hP.2.1).1.trans g2⟩, (f.2 _ hP.2.2.1).1.trans g3, (f.2 _ hP.2.2.2).1.trans g4⟩
theorem alP2_P {P : Nat → Prop} {σ τ : dM} {c : Nat} (f : tfr P σ τ) (hP : P 1900 ∧ P 2000 ∧ P 1138 ∧ P 1139) (h : alP2 σ c) : alP2 τ c := by
  obtain ⟨⟨b1, b2, b3, b4⟩, h2⟩ := h
  obtain ⟨c1, c2⟩ := f.2 1900 hP.1
  obtain ⟨c3, c4, c5, c6⟩ := c2 (by omega) (by omega) b1
  obtain ⟨d1, d2⟩ := f.2 2000 hP.2.1
  refine ⟨⟨c1.trans b1, by rw [c3]; exact b2, by rw [c5]; exact b3, ?_⟩, fun i i1 i2 => ?_⟩
  · rcases b4 with ⟨g1, g2, g3⟩ | ⟨g1, g2, g3, g4, g5⟩
    · exact Or.inl ⟨g1, g2, d1.trans g3⟩
    · exact Or.inr ⟨g1, g2, g3, d1.trans g4, (d2 (by omega) (by omega) g4).2.2.2.trans g5⟩
  · by_cases c0 : i = 0
    · subst c0
      exact (f.2 1138 hP.2.2.1).1.trans (h2 0 i1 i2)
    · obtain rfl : i = 1 := by omega
      exact (f.2 1139 hP.2.2.2).1.trans (h2 1 i1 i2)
theorem inPl_P {P : Nat → Prop} {σ τ : dM} {x : Int32} {N K c : Nat} (f : tfr P σ τ) (hc : c ≤ 2) (hP : P 2000 ∧ P 1138 ∧ P 1139) (hA : 0 < c → DA σ 2000 = true) (h : inPl σ x N K c) : inPl τ x N K c := fun i hi => by
  obtain ⟨v1, v2, v3, v4, v5, v6⟩ := h i hi
  obtain ⟨d1, d2⟩ := f.2 2000 hP.1
  have p : P (1138 + i) := by
    by_cases c0 : i = 0
    · subst c0
      exact hP.2.1
    · obtain rfl : i = 1 := by omega
      exact hP.2.2
  obtain ⟨w1, w2⟩ := f.2 (1138 + i) p
  obtain ⟨w3, -, -, w4⟩ := w2 (by omega) (by omega) v2
  exact ⟨by rw [(d2 (by omega) (by omega) (hA (by omega))).2.2.1]; exact v1, w1.trans v2, w4.trans v3, by rw [w3]; exact v4, by rw [w3]; exact v5, by rw [w3]; exact v6⟩
theorem psN_le (ys : Nat → Int32) {M : Nat} (hM : M ≤ 4) : ∀ i, psN ys M i ≤ 30 * i := by
  intro i
  induction i with
  | zero => exact Nat.le_refl _
  | succ i ih =>
    show psN ys M i + 7 + 1 + 1 + sb_dg (icX (ys i)) + vsN (ys i) M + 1 ≤ _
    have a1 := vsN_le (ys i) M
    have a2 := icX_lt (ys i)
    have a3 := (sbdg4 (v := icX (ys i)) (by omega)).2
    omega
/-- the law's text -/
def lwA (M : Nat) : Nat → Nat := rmsT (stN 16) 0 M
def lwB (ys : Nat → Int32) (M N : Nat) : Nat → Nat := psTx (lwA M) (0 + 7 * M) ys M N
def lwCn (ys : Nat → Int32) (M N a b : Nat) : Nat := 0 + 7 * M + psN ys M N + 6 + sb_dg a + 9 + sb_dg b + 1
def lwC (ys : Nat → Int32) (M N a b : Nat) : Nat → Nat := leT (lwB ys M N) (0 + 7 * M + psN ys M N) a b
def lwD (ys : Nat → Int32) (M N a b : Nat) (x : Int32) (K : Nat) : Nat → Nat := pnT (lwC ys M N a b) (lwCn ys M N a b) x N K K
def lwDn (ys : Nat → Int32) (M N a b : Nat) (x : Int32) (K : Nat) : Nat := lwCn ys M N a b + pnN x K K
/-- all but what the constructor writes -/
def inZ (k : Nat) : Prop := inQ k ∧ k ≠ 2000 ∧ k ≠ 1900 ∧ k ≠ 1138 ∧ k ≠ 1139 ∧ k ≠ 1000
section EN7
variable {g : jG} {z : dZ} {k : Nat} {R : Option Value → dM → Nat → Nat → Prop}
theorem in_body {N M K XN a b : Nat} {σ : dM} {c0 s0 : Nat} {f0 : Nat → Nat} {xs : Nat → Int32} {F : Nat → Int32} {P : Nat → Nat → Int32} (hR : dRok g z mX12_init R) (hT : dEt g z.2.2.2.2) (hEs : jEs g) (hC : dEc g z.2.2.2.2 XN xs) (hkp : ixH z ∧ z.2.2.1 1190 = false ∧ (z.2.2.1 1138 = false ∧ z.2.2.1 1139 = false) ∧ z.2.2.1 2000 = false) (hz : k + 12 ≤ z.1.frames ∧ 64 * (k + 12) ≤ z.1.locals ∧ c0 + 520 ≤ z.1.cells ∧ s0 + 190000 ≤ z.1.slots) (hd : dk σ N M) (h : ixS σ 370 (stN 16) 0) (hG : ixG σ) (h9 : DA σ 1190 = false) (hx : xFd (DS σ) 0 f0) (hal : alP2 σ 0)
    (ea : a = md (scX XN xs 0 >>> 7) 1800) (eb : b = md (scX XN xs 0 >>> 9) 2500) (eK : K = md (scX XN xs 6) 3) (hrd : rdOk (lwD (fun i => scX XN xs (1 + i)) M N a b (scX XN xs 6) K) (lwDn (fun i => scX XN xs (1 + i)) M N a b (scX XN xs 6) K) (2 + M + N + K) M N K F P)
    (kk : ∀ υ s1, tfr inZ (DuS σ s1) υ → dk υ N M → (∀ j, DI υ 1000 j = if j = 19 then 1 else if j = 13 then nI b else if j = 12 then nI a else DI σ 1000 j) → DL υ 1000 = DL σ 1000 → DR υ 1000 = DR σ 1000 → inPs υ (fun i => scX XN xs (1 + i)) M N → alP2 υ K → inPl υ (scX XN xs 6) N K K → xRk s1 M N K → (∀ j, j < 208 → s1.1 323 j = F j) → (∀ k, k < K → s1.1 327 k = P 0 k ∧ s1.1 328 k = P 1 k ∧ s1.1 329 k = P 2 k) → DW g z mX12_init 793 [(0, .ref 1000), (1, .ref 380), (2, .ref 1700), (3, .int (nI (2 + M + N + K)))] [] υ (c0 + 520) (s0 + 190000)) : DW g z mX12_init 183 [(0, .ref 1000), (1, .ref 380), (2, .ref 370), (3, .int (nI (2 + M + N))), (4, .int (nI 0))] [] σ c0 s0 := by
  have hN := hd.1.1
  have hM := hd.1.2
  have hM9 : M ≤ 4 := hM.2
  have hN9 : N ≤ 5 := hN.2
  obtain ⟨hkH, hk9, hk8, hk7⟩ := hkp
  have hE := hT.1
  have n := k
  have hK : K ≤ 2 := by
    have := md_lt (scX XN xs 6) (k := 3) (by omega)
    omega
  have cM : 8 * M ≤ 32 ∧ 3524 * M ≤ 14096 := by omega
  have cN : 63 * N ≤ 315 ∧ 23340 * N ≤ 116700 := by omega
  have cK : 14 * K ≤ 28 ∧ 6337 * K ≤ 12674 := by omega
  obtain ⟨ys, eys⟩ : ∃ ys : Nat → Int32, ys = fun i => scX XN xs (1 + i) := ⟨_, rfl⟩
  rw [← eys] at hrd kk
  have hps := psN_le ys hM9 N
  have ha9 : a < 1800 := by rw [ea]; exact md_lt _ (by omega)
  have hb9 : b < 2500 := by rw [eb]; exact md_lt _ (by omega)
  have da := (sbdg4 (v := a) (by omega)).2
  have db := (sbdg4 (v := b) (by omega)).2
  refine in_rooms (k := k) (M := M) (N := N) (w := 0) (f := stN 16) hR hT hkH.1 M 0 370 σ c0 s0 (by omega) ⟨by omega, by omega, by omega, by omega⟩ hd h (by omega) (fun τ1 q1 t1 t2 t3 => ?_)
  have hG1 := ixG_fr t1 hG
  refine dvk_ok (nC := n + 10) DX12_init_c hTyA hR (VC := [(131, 2, 11, oX11_load)]) (VD := []) (SD := [(33, 2, 0, n + 0, 0, 0, 0, [], dL_mod)]) (AL := []) (List.forall_mem_cons.mpr ⟨⟨mX11_load, n + 10, 1, TX11, 9, rfl, by omega, hX12_131, WX11_load, rfl, CX11_load g (n) hE.1⟩, (fun _ h => absurd h List.not_mem_nil)⟩) (fun _ h => absurd h List.not_mem_nil) (List.forall_mem_cons.mpr ⟨⟨mL_mod, by decide, Or.inr ⟨_, hX12_33⟩, WL_mod, EL_mod g _ n⟩, (fun _ h => absurd h List.not_mem_nil)⟩) [235] 10 _ _ _ _ _ _ ?_
  simp (maxSteps := 1000000) [↓Bool.cond_eq_ite, -Prod.forall, -Prod.exists, -Prod.mk.injEq, ↓jc_eq_t, ↓jc_eq_f, ↓jc_ne_t, ↓jc_ne_f, ↓jc_lt_t, ↓jc_lt_f, ↓jc_ge_t, ↓jc_ge_f, ↓jc_gt_t, ↓jc_gt_f, ↓jc_le_t, ↓jc_le_f, dvk, tX12_init_c, jtb, jol, dvl, dal, dst, jlk, jcmp, jbin, jfl, qX12, jc2, qlX12, jcat, jel, lv_args, Value.category, jins, jsrt, jins2, jble, jblt, jf3, List.filter_cons, List.filter_nil, Dlo, Dnr, DnL, Dfree, Droom, DuS_S, DuS_I, DuS_L, DuS_R, DuS_N, DuS_A, DuI_S, DuI_I, DuI_L, DuI_R, DuI_N, DuI_A, DuL_S, DuL_I, DuL_L, DuL_R, DuL_N, DuL_A, DuR_S, DuR_I, DuR_L, DuR_R, DuR_N, DuR_A, Dnw_S, Dnw_I, Dnw_L, Dnw_R, Dnw_N, Dnw_A, DrI_S, DrI_I, DrI_L, DrI_R, DrI_N, DrI_A, DrJ_S, DrJ_I, DrJ_L, DrJ_R, DrJ_N, DrJ_A, dm64, G_d, G_x0, dL_mod, oX11_load, doII, joRI, -Int32.not_le, -Int32.not_lt, -Int64.not_le, -Int64.not_lt, i3lt, i6lt]
  try simp (disch := omega) [-Prod.forall, -Prod.exists, -Prod.mk.injEq, -Int32.not_le, -Int32.not_lt, -Int64.not_le, -Int64.not_lt, i3lt, i6lt]
  refine in_pers (k := k) (w := 0 + 7 * M) (f := lwA M) hR hT hC hkH N 0 q1 τ1 _ _ (by omega) ⟨by omega, by omega, by omega, by omega⟩ t2 t3 hG1 (fun p hp => by omega) (by rw [← eys]; omega) (fun τ2 q2 u1 u2 u3 u4 => ?_)
  have hG2 := ixG_P u1 (by unfold inQ ixK; omega) hG1
  rw [← eys] at u3 u4
  refine in_ld (k := k) (f := lwB ys M N) (w := 0 + 7 * M + psN ys M N) hR hT hC hkH.1 ⟨by omega, by omega, by omega, by omega⟩ u2 u3 (by omega) (fun τ3 v1 v2 v3 => ?_)
  rw [← ea, ← eb] at v1 v3
  rw [← eK]
  have w1 : tfr (fun k => k ≠ 1000) τ2 (DuI (DuI τ2 1000 12 (nI a)) 1000 13 (nI b)) := ⟨rfl, fun k hk => ⟨rfl, fun _ _ _ => ⟨funext fun j => by rw [DuI_I, DuI_I, if_neg (fun z => hk z.1), if_neg (fun z => hk z.1)], rfl, rfl, rfl⟩⟩⟩
  have w2 : tfr (fun k => k ≠ 1000 ∧ ¬ ixK k) τ2 τ3 := (w1.weak (fun k hk => hk.1)).tr (v1.weak (fun k hk => hk.2))
  have w3 : tfr (fun k => inQ k ∧ k ≠ 1000) σ τ3 := (t1.weak (fun k hk => hk.1.1)).tr ((u1.weak (fun k hk => hk.1)).tr (w2.weak (fun k hk => ⟨hk.2, hk.1.1⟩)))
  have hG3 := ixG_P w2 (by unfold ixK; omega) hG2
  have hal3 := alP2_P w3 (by unfold inQ ixK; omega) hal
  have hpn := pnN_le (scX XN xs 6) K K
  refine in_plans (k := k) (f := lwC ys M N a b) (w := lwCn ys M N a b) (K := K) (S := 2 + M + N) hR hT hC ⟨hkH.1, hk8, hk7⟩ hK (by unfold lwCn; omega) K 0 τ3 _ _ (by omega) ⟨by omega, by omega, by omega, by omega⟩ v2 v3 hal3 (fun i hi => by omega) (fun τ4 y1 y2 y3 y4 y5 => ?_)
  have w4 : tfr (fun k => inQ k ∧ k ≠ 2000 ∧ k ≠ 1900 ∧ k ≠ 1138 ∧ k ≠ 1139 ∧ k ≠ 1000) σ τ4 := (w3.weak (fun k hk => ⟨hk.1, hk.2.2.2.2.2⟩)).tr (y1.weak (fun k hk => ⟨hk.1.1, hk.2.1, hk.2.2.1, hk.2.2.2.1, hk.2.2.2.2.1⟩))
  have w5 : tfr (fun k => ¬ ixK k ∧ k ≠ 2000 ∧ k ≠ 1900 ∧ k ≠ 1138 ∧ k ≠ 1139 ∧ k ≠ 1000) τ2 τ4 := (w2.weak (fun k hk => ⟨hk.2.2.2.2.2, hk.1⟩)).tr (y1.weak (fun k hk => ⟨hk.1, hk.2.1, hk.2.2.1, hk.2.2.2.1, hk.2.2.2.2.1⟩))
  have hG4 := ixG_P y1 (by unfold ixK; omega) hG3
  have i4 : inPs τ4 ys M N := inPs_fr w5 ⟨by unfold ixK; omega, by unfold ixK; omega, fun p hp => by unfold ixK; omega⟩ u2 (Nat.le_refl _) u4
  have A4 : DA τ4 1190 = false := (w4.2 1190 (by unfold inQ ixK; omega)).1.trans h9
  have x4 : xFd (DS τ4) 0 (lwD ys M N a b (scX XN xs 6) K) := by
    rw [w4.1]
    exact xFd_e hx (fun j hj => by omega)
  -- what the desk's own fields say
  have D0 : DI τ4 1000 = DI (DuI (DuI τ2 1000 12 (nI a)) 1000 13 (nI b)) 1000 ∧ DL τ4 1000 = DL τ2 1000 ∧ DR τ4 1000 = DR τ2 1000 := by
    obtain ⟨a1, a2, a3, -⟩ := (v1.2 1000 (by unfold ixK; omega)).2 (by omega) (by omega) u2.2.2.1.1
    obtain ⟨b1, b2, b3, -⟩ := (y1.2 1000 (by unfold ixK; omega)).2 (by omega) (by omega) v2.2.2.1.1
    exact ⟨b1.trans a1, b2.trans a2, b3.trans a3⟩
  have D2 : DI τ2 1000 = DI σ 1000 ∧ DL τ2 1000 = DL σ 1000 ∧ DR τ2 1000 = DR σ 1000 := by
    obtain ⟨a1, a2, a3, -⟩ := (t1.2 1000 (by unfold ixK; omega)).2 (by omega) (by omega) hd.2.2.1.1
    obtain ⟨b1, b2, b3, -⟩ := (u1.2 1000 (by unfold inQ ixK; omega)).2 (by omega) (by omega) t2.2.2.1.1
    exact ⟨b1.trans a1, b2.trans a2, b3.trans a3⟩
  refine in_last (k := k) (K := K) (S := 2 + M + N + K) (w := lwDn ys M N a b (scX XN xs 6) K) (f := lwD ys M N a b (scX XN xs 6) K) hR hT hEs ⟨hkH, hk9⟩ ⟨by omega, by omega, by omega, by omega⟩ y2 y3 hG4 A4 x4 (by unfold lwDn lwCn; omega) (by omega) hrd (fun υ s1 o1 o2 o3 o4 o5 o6 o7 o8 => ?_)
  have o9 : tfr (fun k => k ≠ 1000) (DuS τ4 s1) υ := o1
  have e5 : dk (DuS τ4 s1) N M := y2
  refine DW.wide (c1 := c0 + 520) (s1 := s0 + 190000) (by omega) (by omega) (kk υ s1 ?_ o2 (fun j => ?_) (o4.trans (D0.2.1.trans D2.2.1)) (o5.trans (D0.2.2.trans D2.2.2)) ?_ ?_ ?_ o6 o7 o8)
  · have w6 : tfr inZ (DuS σ s1) (DuS τ4 s1) := ⟨rfl, fun k hk => w4.2 k hk⟩
    exact w6.tr (o1.weak (fun k hk => hk.2.2.2.2.2))
  · rw [o3 j]
    by_cases c : j = 19
    · rw [if_pos c, if_pos c]
    · rw [if_neg c, if_neg c, D0.1, DuI_I]
      by_cases c2 : j = 13
      · rw [if_pos ⟨rfl, c2⟩, if_pos c2]
      · rw [if_neg (fun z => c2 z.2), if_neg c2, DuI_I]
        by_cases c3 : j = 12
        · rw [if_pos ⟨rfl, c3⟩, if_pos c3]
        · rw [if_neg (fun z => c3 z.2), if_neg c3, D2.1]
  · exact inPs_fr o9 ⟨by omega, by omega, fun p hp => by omega⟩ e5 (Nat.le_refl _) (show inPs (DuS τ4 s1) ys M N from i4)
  · exact alP2_P o9 (by omega) (show alP2 (DuS τ4 s1) K from y4)
  · refine inPl_P o9 hK (by omega) (fun hK0 => ?_) (show inPl (DuS τ4 s1) (scX XN xs 6) N K K from y5)
    obtain ⟨b1, b2, b3, b4⟩ := y4.1
    rcases b4 with ⟨g1, -⟩ | ⟨-, -, -, g4, -⟩
    · omega
    · exact g4
end EN7
