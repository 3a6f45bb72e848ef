/-! a month's end, walked -/
def psA (σ : dM) : Nat → Int64
  | 0 => DL σ 1000 18 + (DI σ 1000 12).toInt64
  | k + 1 => psA σ k - (DI σ 1103 k).toInt64
def psD (σ : dM) (k : Nat) : dM := (σ.1, σ.2.1, fun i j => if i = 1300 ∧ j < k then DL σ 1300 j + (DI σ 1103 j).toInt64 else if i = 1000 ∧ j = 18 then psA σ k else DL σ i j, σ.2.2.2)
theorem psD_I (σ : dM) (k : Nat) : DI (psD σ k) = DI σ := rfl
theorem psD_R (σ : dM) (k : Nat) : DR (psD σ k) = DR σ := rfl
theorem psD_N (σ : dM) (k : Nat) : DN (psD σ k) = DN σ := rfl
theorem psD_A (σ : dM) (k : Nat) : DA (psD σ k) = DA σ := rfl
theorem psD_S (σ : dM) (k : Nat) : DS (psD σ k) = DS σ := rfl
theorem psD_L (σ : dM) (k i j : Nat) : DL (psD σ k) i j = if i = 1300 ∧ j < k then DL σ 1300 j + (DI σ 1103 j).toInt64 else if i = 1000 ∧ j = 18 then psA σ k else DL σ i j := rfl
theorem psD_0 (σ : dM) : DuL σ 1000 18 (DL σ 1000 18 + (DI σ 1000 12).toInt64) = psD σ 0 := by
  refine Prod.ext rfl (Prod.ext rfl (Prod.ext (funext fun i => funext fun j => ?_) rfl))
  show (if i = 1000 ∧ j = 18 then _ else _) = (if i = 1300 ∧ j < 0 then _ else _)
  rw [if_neg (show ¬ (i = 1300 ∧ j < 0) by omega)]
  rfl
theorem psD_s (σ : dM) (k : Nat) : DuL (DuL (psD σ k) 1300 k (DL (psD σ k) 1300 k + (DI σ 1103 k).toInt64)) 1000 18 (DL (psD σ k) 1000 18 - (DI σ 1103 k).toInt64) = psD σ (k + 1) := by
  refine Prod.ext rfl (Prod.ext rfl (Prod.ext (funext fun i => funext fun j => ?_) rfl))
  show (if i = 1000 ∧ j = 18 then _ else if i = 1300 ∧ j = k then _ else DL (psD σ k) i j) = DL (psD σ (k + 1)) i j
  rw [psD_L, psD_L, psD_L, psD_L]
  by_cases c : i = 1000 ∧ j = 18
  · rw [if_pos c, if_neg (show ¬ (i = 1300 ∧ j < k + 1) by omega), if_pos c, if_neg (show ¬ ((1000 : Nat) = 1300 ∧ 18 < k) by omega), if_pos ⟨rfl, rfl⟩]
    rfl
  · rw [if_neg c, if_neg c, if_neg c]
    by_cases c2 : i = 1300 ∧ j = k
    · rw [if_pos c2, if_neg (show ¬ ((1300 : Nat) = 1300 ∧ k < k) by omega), if_neg (show ¬ ((1300 : Nat) = 1000 ∧ k = 18) by omega), if_pos (show i = 1300 ∧ j < k + 1 by omega), c2.2]
    · rw [if_neg c2]
      by_cases c3 : i = 1300 ∧ j < k
      · rw [if_pos c3, if_pos (show i = 1300 ∧ j < k + 1 by omega)]
      · rw [if_neg c3, if_neg (show ¬ (i = 1300 ∧ j < k + 1) by omega)]
set_option maxRecDepth 100000 in
set_option maxHeartbeats 4000000 in
theorem EPs_C1 {g : jG} {n : Nat} {z : dZ} {R : Option Value → dM → Nat → Nat → Prop} (hE : dEs g) (hR : dRok g z mX12_pass R) (hz : z.1.frames = n + 8 ∧ z.1.locals = 64 * (n + 8) ∧ z.1.cells = 1046 ∧ z.1.slots = 5230) {σ : dM} {N M c0 s0 : Nat} (hk : dk σ N M) (fin : R none (DuI (psD σ N) 1000 17 (DI σ 1000 17 + 1)) c0 s0) : DW g z mX12_pass 103 [(0, .ref 1000), (1, .int (nI N))] [] (psD σ N) c0 s0 := by
  have hf := dk_f hk
  have hN := hk.1.1.2
  have hle : nI N ≤ nI N := nI_le (Nat.le_refl _) (by omega)
  refine dvk_ok (nC := n + 7) DX12_pass hTyA hR (VC := []) (VD := [(268, 1, 15, n + 0, 0, 0, 0, [], dJx4a65c_size_8abf5), (294, 2, 15, n + 2, 0, 0, 0, [], dJx4a65c_get_915e3), (298, 2, 15, n + 2, 0, 0, 0, [], dJx4a65c_remove_915e3), (204, 1, 12, n + 7, 0, 1025, 5125, [1108, 1106, 1107, 1109], dX12_proposes), (304, 1, 12, n + 4, 0, 21, 105, [1125, 1123, 1120, 1121, 1401, 1115, 1116, 1117, 1118, 1119, 1210, 1311, 1124, 1310, 1312], dX12_agree)]) (SD := []) (AL := []) (fun _ h => absurd h List.not_mem_nil) (List.forall_mem_cons.mpr ⟨⟨mJx4a65c_size_8abf5, 0, TJx4a65c, 3, rfl, by decide, hX12_268, WJx4a65c_size_8abf5, rfl, EJx4a65c_size_8abf5 g _ n⟩, (List.forall_mem_cons.mpr ⟨⟨mJx4a65c_get_915e3, 1, TJx4a65c, 3, rfl, by decide, hX12_294, WJx4a65c_get_915e3, rfl, EJx4a65c_get_915e3 g _ n⟩, (List.forall_mem_cons.mpr ⟨⟨mJx4a65c_remove_915e3, 1, TJx4a65c, 3, rfl, by decide, hX12_298, WJx4a65c_remove_915e3, rfl, EJx4a65c_remove_915e3 g _ n hE⟩, (List.forall_mem_cons.mpr ⟨⟨mX12_proposes, 0, TX12, 25, rfl, by decide, hX12_204, WX12_proposes, rfl, EX12_proposes g _ n hE⟩, (List.forall_mem_cons.mpr ⟨⟨mX12_agree, 0, TX12, 25, rfl, by decide, hX12_304, WX12_agree, rfl, EX12_agree g _ n hE⟩, (fun _ h => absurd h List.not_mem_nil)⟩)⟩)⟩)⟩)⟩) (fun _ h => absurd h List.not_mem_nil) [] 20 _ _ _ _ _ _ ?_
  simp (maxSteps := 1000000) [↓Bool.cond_eq_ite, -Prod.forall, -Prod.exists, -Prod.mk.injEq, ↓jc_eq_t, ↓jc_eq_f, ↓jc_ne_t, ↓jc_ne_f, ↓jc_lt_t, ↓jc_lt_f, ↓jc_ge_t, ↓jc_ge_f, ↓jc_gt_t, ↓jc_gt_f, ↓jc_le_t, ↓jc_le_f, dvk, tX12_pass, jtb, jol, dvl, dal, dst, jlk, jcmp, jbin, jfl, qX12, jc2, qlX12, jcat, jel, lv_args, Value.category, jins, jsrt, jins2, jble, jblt, jf3, List.filter_cons, List.filter_nil, Dlo, Dnr, DnL, Dfree, Droom, DuS_S, DuS_I, DuS_L, DuS_R, DuS_N, DuS_A, DuI_S, DuI_I, DuI_L, DuI_R, DuI_N, DuI_A, DuL_S, DuL_I, DuL_L, DuL_R, DuL_N, DuL_A, DuR_S, DuR_I, DuR_L, DuR_R, DuR_N, DuR_A, Dnw_S, Dnw_I, Dnw_L, Dnw_R, Dnw_N, Dnw_A, DrI_S, DrI_I, DrI_L, DrI_R, DrI_N, DrI_A, DrJ_S, DrJ_I, DrJ_L, DrJ_R, DrJ_N, DrJ_A, dm64, G_d, G_x0, dJx4a65c_size_8abf5, dJx4a65c_get_915e3, dJx4a65c_remove_915e3, dX12_proposes, dX12_agree, doR, doRI, -Int32.not_le, -Int32.not_lt, -Int64.not_le, -Int64.not_lt, i3lt, i6lt, hf, hle, psD_I, psD_R, psD_N, psD_A]
  try simp (disch := omega) [-Prod.forall, -Prod.exists, -Prod.mk.injEq, -Int32.not_le, -Int32.not_lt, -Int64.not_le, -Int64.not_lt, i3lt, i6lt, hf, hle, psD_I, psD_R, psD_N, psD_A]
  exact fin
set_option maxRecDepth 100000 in
set_option maxHeartbeats 4000000 in
theorem EPs_C2 {g : jG} {n : Nat} {z : dZ} {R : Option Value → dM → Nat → Nat → Prop} (hE : dEs g) (hR : dRok g z mX12_pass R) (hz : z.1.frames = n + 8 ∧ z.1.locals = 64 * (n + 8) ∧ z.1.cells = 1046 ∧ z.1.slots = 5230) {σ : dM} {N M c0 s0 : Nat} (hk : dk σ N M) {p : Nat} (hp : p < N) (ih : DW g z mX12_pass 103 [(0, .ref 1000), (1, .int (nI (p + 1)))] [] (psD σ (p + 1)) c0 s0) : DW g z mX12_pass 103 [(0, .ref 1000), (1, .int (nI p))] [] (psD σ p) c0 s0 := by
  have hf := dk_f hk
  have hN := hk.1.1.2
  have hlt : ¬ nI N ≤ nI p := nI_ge hp (by omega)
  have ep : (nI p).toNatClampNeg = p := nI_clamp (by omega)
  have jp : jin (nI p) N := jinN hp (by omega)
  rw [← nI_1, ← psD_s] at ih
  refine dvk_ok (nC := n + 7) DX12_pass hTyA hR (VC := []) (VD := [(268, 1, 15, n + 0, 0, 0, 0, [], dJx4a65c_size_8abf5), (294, 2, 15, n + 2, 0, 0, 0, [], dJx4a65c_get_915e3), (298, 2, 15, n + 2, 0, 0, 0, [], dJx4a65c_remove_915e3), (204, 1, 12, n + 7, 0, 1025, 5125, [1108, 1106, 1107, 1109], dX12_proposes), (304, 1, 12, n + 4, 0, 21, 105, [1125, 1123, 1120, 1121, 1401, 1115, 1116, 1117, 1118, 1119, 1210, 1311, 1124, 1310, 1312], dX12_agree)]) (SD := []) (AL := []) (fun _ h => absurd h List.not_mem_nil) (List.forall_mem_cons.mpr ⟨⟨mJx4a65c_size_8abf5, 0, TJx4a65c, 3, rfl, by decide, hX12_268, WJx4a65c_size_8abf5, rfl, EJx4a65c_size_8abf5 g _ n⟩, (List.forall_mem_cons.mpr ⟨⟨mJx4a65c_get_915e3, 1, TJx4a65c, 3, rfl, by decide, hX12_294, WJx4a65c_get_915e3, rfl, EJx4a65c_get_915e3 g _ n⟩, (List.forall_mem_cons.mpr ⟨⟨mJx4a65c_remove_915e3, 1, TJx4a65c, 3, rfl, by decide, hX12_298, WJx4a65c_remove_915e3, rfl, EJx4a65c_remove_915e3 g _ n hE⟩, (List.forall_mem_cons.mpr ⟨⟨mX12_proposes, 0, TX12, 25, rfl, by decide, hX12_204, WX12_proposes, rfl, EX12_proposes g _ n hE⟩, (List.forall_mem_cons.mpr ⟨⟨mX12_agree, 0, TX12, 25, rfl, by decide, hX12_304, WX12_agree, rfl, EX12_agree g _ n hE⟩, (fun _ h => absurd h List.not_mem_nil)⟩)⟩)⟩)⟩)⟩) (fun _ h => absurd h List.not_mem_nil) [103, 149] 40 _ _ _ _ _ _ ?_
  simp (maxSteps := 1000000) [↓Bool.cond_eq_ite, -Prod.forall, -Prod.exists, -Prod.mk.injEq, ↓jc_eq_t, ↓jc_eq_f, ↓jc_ne_t, ↓jc_ne_f, ↓jc_lt_t, ↓jc_lt_f, ↓jc_ge_t, ↓jc_ge_f, ↓jc_gt_t, ↓jc_gt_f, ↓jc_le_t, ↓jc_le_f, dvk, tX12_pass, jtb, jol, dvl, dal, dst, jlk, jcmp, jbin, jfl, qX12, jc2, qlX12, jcat, jel, lv_args, Value.category, jins, jsrt, jins2, jble, jblt, jf3, List.filter_cons, List.filter_nil, Dlo, Dnr, DnL, Dfree, Droom, DuS_S, DuS_I, DuS_L, DuS_R, DuS_N, DuS_A, DuI_S, DuI_I, DuI_L, DuI_R, DuI_N, DuI_A, DuL_S, DuL_I, DuL_L, DuL_R, DuL_N, DuL_A, DuR_S, DuR_I, DuR_L, DuR_R, DuR_N, DuR_A, Dnw_S, Dnw_I, Dnw_L, Dnw_R, Dnw_N, Dnw_A, DrI_S, DrI_I, DrI_L, DrI_R, DrI_N, DrI_A, DrJ_S, DrJ_I, DrJ_L, DrJ_R, DrJ_N, DrJ_A, dm64, G_d, G_x0, dJx4a65c_size_8abf5, dJx4a65c_get_915e3, dJx4a65c_remove_915e3, dX12_proposes, dX12_agree, doR, doRI, -Int32.not_le, -Int32.not_lt, -Int64.not_le, -Int64.not_lt, i3lt, i6lt, hf, hlt, ep, jp, psD_I, psD_R, psD_N, psD_A]
  try simp (disch := omega) [-Prod.forall, -Prod.exists, -Prod.mk.injEq, -Int32.not_le, -Int32.not_lt, -Int64.not_le, -Int64.not_lt, i3lt, i6lt, hf, hlt, ep, jp, psD_I, psD_R, psD_N, psD_A]
  exact ih
set_option maxRecDepth 100000 in
set_option maxHeartbeats 4000000 in
theorem EPs_C {g : jG} {n : Nat} {z : dZ} {R : Option Value → dM → Nat → Nat → Prop} (hE : dEs g) (hR : dRok g z mX12_pass R) (hz : z.1.frames = n + 8 ∧ z.1.locals = 64 * (n + 8) ∧ z.1.cells = 1046 ∧ z.1.slots = 5230) {σ : dM} {N M c0 s0 : Nat} (hk : dk σ N M) (fin : R none (DuI (psD σ N) 1000 17 (DI σ 1000 17 + 1)) c0 s0) : DW g z mX12_pass 87 [(0, .ref 1000)] [] σ c0 s0 := by
  have hf := dk_f hk
  have hN := hk.1.1.2
  have key := jloop (P := fun p => DW g z mX12_pass 103 [(0, .ref 1000), (1, .int (nI p))] [] (psD σ p) c0 s0) (N := N) (EPs_C1 hE hR hz hk fin) (fun p hp ih => EPs_C2 hE hR hz hk hp ih)
  rw [nI_0] at key
  have e0 := psD_0 σ
  rw [← e0] at key
  refine dvk_ok (nC := n + 7) DX12_pass hTyA hR (VC := []) (VD := [(268, 1, 15, n + 0, 0, 0, 0, [], dJx4a65c_size_8abf5), (294, 2, 15, n + 2, 0, 0, 0, [], dJx4a65c_get_915e3), (298, 2, 15, n + 2, 0, 0, 0, [], dJx4a65c_remove_915e3), (204, 1, 12, n + 7, 0, 1025, 5125, [1108, 1106, 1107, 1109], dX12_proposes), (304, 1, 12, n + 4, 0, 21, 105, [1125, 1123, 1120, 1121, 1401, 1115, 1116, 1117, 1118, 1119, 1210, 1311, 1124, 1310, 1312], dX12_agree)]) (SD := []) (AL := []) (fun _ h => absurd h List.not_mem_nil) (List.forall_mem_cons.mpr ⟨⟨mJx4a65c_size_8abf5, 0, TJx4a65c, 3, rfl, by decide, hX12_268, WJx4a65c_size_8abf5, rfl, EJx4a65c_size_8abf5 g _ n⟩, (List.forall_mem_cons.mpr ⟨⟨mJx4a65c_get_915e3, 1, TJx4a65c, 3, rfl, by decide, hX12_294, WJx4a65c_get_915e3, rfl, EJx4a65c_get_915e3 g _ n⟩, (List.forall_mem_cons.mpr ⟨⟨mJx4a65c_remove_915e3, 1, TJx4a65c, 3, rfl, by decide, hX12_298, WJx4a65c_remove_915e3, rfl, EJx4a65c_remove_915e3 g _ n hE⟩, (List.forall_mem_cons.mpr ⟨⟨mX12_proposes, 0, TX12, 25, rfl, by decide, hX12_204, WX12_proposes, rfl, EX12_proposes g _ n hE⟩, (List.forall_mem_cons.mpr ⟨⟨mX12_agree, 0, TX12, 25, rfl, by decide, hX12_304, WX12_agree, rfl, EX12_agree g _ n hE⟩, (fun _ h => absurd h List.not_mem_nil)⟩)⟩)⟩)⟩)⟩) (fun _ h => absurd h List.not_mem_nil) [103] 20 _ _ _ _ _ _ ?_
  simp (maxSteps := 1000000) [↓Bool.cond_eq_ite, -Prod.forall, -Prod.exists, -Prod.mk.injEq, ↓jc_eq_t, ↓jc_eq_f, ↓jc_ne_t, ↓jc_ne_f, ↓jc_lt_t, ↓jc_lt_f, ↓jc_ge_t, ↓jc_ge_f, ↓jc_gt_t, ↓jc_gt_f, ↓jc_le_t, ↓jc_le_f, dvk, tX12_pass, jtb, jol, dvl, dal, dst, jlk, jcmp, jbin, jfl, qX12, jc2, qlX12, jcat, jel, lv_args, Value.category, jins, jsrt, jins2, jble, jblt, jf3, List.filter_cons, List.filter_nil, Dlo, Dnr, DnL, Dfree, Droom, DuS_S, DuS_I, DuS_L, DuS_R, DuS_N, DuS_A, DuI_S, DuI_I, DuI_L, DuI_R, DuI_N, DuI_A, DuL_S, DuL_I, DuL_L, DuL_R, DuL_N, DuL_A, DuR_S, DuR_I, DuR_L, DuR_R, DuR_N, DuR_A, Dnw_S, Dnw_I, Dnw_L, Dnw_R, Dnw_N, Dnw_A, DrI_S, DrI_I, DrI_L, DrI_R, DrI_N, DrI_A, DrJ_S, DrJ_I, DrJ_L, DrJ_R, DrJ_N, DrJ_A, dm64, G_d, G_x0, dJx4a65c_size_8abf5, dJx4a65c_get_915e3, dJx4a65c_remove_915e3, dX12_proposes, dX12_agree, doR, doRI, -Int32.not_le, -Int32.not_lt, -Int64.not_le, -Int64.not_lt, i3lt, i6lt, hf]
  try simp (disch := omega) [-Prod.forall, -Prod.exists, -Prod.mk.injEq, -Int32.not_le, -Int32.not_lt, -Int64.not_le, -Int64.not_lt, i3lt, i6lt, hf]
  exact key
