/-! rows copied: System.arraycopy of whole rows of ints -/
theorem acp_w : Cond.native arraycopyName ∈ jGw ∧ Cond.static arraycopyName ∈ jGw ∧ Cond.initialized "java/lang/System" ∈ jGw := ⟨jGw_of 113 (by decide +kernel) (by decide +kernel), jGw_of 112 (by decide +kernel) (by decide +kernel), jGw_of 78 (by decide +kernel) (by decide +kernel)⟩
theorem acp_2 : Cond.methodLink RX2 72 arraycopyName ∈ jGw := jGw_of 111 (by decide +kernel) (by decide +kernel)
theorem acp_7 : Cond.methodLink RX7 31 arraycopyName ∈ jGw := jGw_of 1223 (by decide +kernel) (by decide +kernel)
theorem acp_11 : Cond.methodLink RX11 344 arraycopyName ∈ jGw := jGw_of 1697 (by decide +kernel) (by decide +kernel)
theorem jr_acp {g : jG} {mt : jMt} {n : Nat} {post : Option Value → jM → Prop} {pc nx tg : Nat} {kk : Int32} {L : List (Nat × Value)} {r : List Value} {σ : jM} {F : List (Nat × Nat × Nat × Nat)} {C2 : List (Nat × Int64)} {tb : jTb} {idx sa da m : Nat} (hT : jT mt F C2 tb) (hlk : Cond.methodLink mt.1.cls idx arraycopyName ∈ jGw) (e : jtb tb pc = some (.invokestatic idx, nx, tg, kk)) (hsa : jarr sa 1 0 = true) (hda : jarr da 1 0 = true) (h4 : jlen sa = m) (h5 : jlen da = m) (hm : m < 1000) (hst : jcat r ≤ 8) (hn : 0 < n)
    (k : jW g mt n post nx L r (jcpy σ da sa 0 0 m)) : jW g mt n post pc L (.int (nI m) :: .int 0 :: .ref da :: .int 0 :: .ref sa :: r) σ := by
  have e0 : (0 : Int32).toNatClampNeg = 0 := rfl
  have em : (nI m).toNatClampNeg = m := nI_clamp (by omega)
  refine jr_copy hT e hlk acp_w.1 acp_w.2.1 acp_w.2.2 hsa hda (by decide) (by decide) (nI_pos (by omega)) (by rw [e0, em]; omega) (by rw [e0, em]; omega) hst hn ?_
  rw [e0, em]
  exact k
theorem jcpy_1 (σ : jM) (a sa n i j : Nat) : (jcpy σ a sa 0 0 n).1 i j = if i = a ∧ j < n then σ.1 sa j else σ.1 i j := by
  show (if i = a ∧ (0 ≤ j ∧ j < 0 + n) then σ.1 sa (0 + (j - 0)) else σ.1 i j) = _
  by_cases h : i = a ∧ j < n
  · rw [if_pos h, if_pos ⟨h.1, by omega, by omega⟩, show 0 + (j - 0) = j by omega]
  · rw [if_neg h, if_neg (fun z => h ⟨z.1, by omega⟩)]
/-- how long the rows of a flat are, by their places behind it -/
def fLn (k : Nat) : Nat := if k = 1 then 3 else if 5 ≤ k ∧ k ≤ 14 then 6 else 10
def flFd (b : Nat) : Prop := (jisO b 2 = true ∧ jobj b 2 0 0 = true ∧ jobj b 2 1 0 = true ∧ jobj b 2 2 0 = true ∧ jobj b 2 3 0 = true ∧ jobj b 2 4 0 = true ∧ jobj b 2 5 0 = true ∧ jobj b 2 6 0 = true ∧ jobj b 2 7 2 = true ∧ jref b 7 = b + 1 ∧ jobj b 2 8 2 = true ∧ jref b 8 = b + 2 ∧ jobj b 2 9 2 = true ∧ jref b 9 = b + 3 ∧ jobj b 2 10 2 = true ∧ jref b 10 = b + 4 ∧ jobj b 2 11 2 = true ∧ jref b 11 = b + 15 ∧ jobj b 2 12 2 = true ∧ jref b 12 = b + 16 ∧ jobj b 2 13 2 = true ∧ jref b 13 = b + 17 ∧ jobj b 2 14 2 = true ∧ jref b 14 = b + 18 ∧ jobj b 2 15 2 = true ∧ jref b 15 = b + 19) ∧ (jarr (b + 4) 4 6 = true ∧ jlen (b + 4) = 10 ∧ (jshp (b + 4)).2.2.2.getD 0 0 = b + 5 ∧ (jshp (b + 4)).2.2.2.getD 1 0 = 1) ∧ ∀ k, k < 20 → k ≠ 0 → k ≠ 4 → jarr (b + k) 1 0 = true ∧ jlen (b + k) = fLn k
theorem flF_4 : flFd 4 := by unfold flFd; decide +kernel
theorem flF_37 : flFd 37 := by unfold flFd; decide +kernel
theorem flF_h : ∀ i, i < 10 → flFd (59 + 20 * i) := by
  intro i hi
  rcases (by omega : i = 0 ∨ i = 1 ∨ i = 2 ∨ i = 3 ∨ i = 4 ∨ i = 5 ∨ i = 6 ∨ i = 7 ∨ i = 8 ∨ i = 9) with rfl | rfl | rfl | rfl | rfl | rfl | rfl | rfl | rfl | rfl <;> (unfold flFd; decide +kernel)
theorem flF_e {b : Nat} (h : flFd b) (q : Nat) : jelt (b + 4) q = b + (5 + q) := by
  obtain ⟨-, ⟨-, -, h1, h2⟩, -⟩ := h
  unfold jelt
  rw [h1, h2]
  omega
def aFl (d a _j : Nat) : Bool := d.ble a && a.ble (d + 19)
theorem aFl_i {d a j : Nat} (h1 : d ≤ a) (h2 : a ≤ d + 19) : aFl d a j = true := by
  unfold aFl
  simp only [jble, Bool.and_eq_true, decide_eq_true_eq]
  exact ⟨h1, h2⟩
theorem aFl_o {d a j : Nat} (h : a < d ∨ d + 19 < a) : aFl d a j = false := by
  unfold aFl
  simp only [jble, Bool.and_eq_false_iff, decide_eq_false_iff_not]
  omega
/-- some rows of one flat copied to another -/
def cpI (σ τ : jM) (d s : Nat) (K : Nat → Prop) : Prop := jfr (aFl d) b0 σ τ ∧ (∀ j, j < 7 → τ.1 d j = σ.1 s j) ∧ ∀ k, K k → 1 ≤ k → k ≤ 19 → k ≠ 4 → ∀ j, j < fLn k → τ.1 (d + k) j = σ.1 (s + k) j
theorem cpI_s {σ τ : jM} {d s k0 : Nat} {K K' : Nat → Prop} (h : cpI σ τ d s K) (hds : d + 19 < s ∨ s + 19 < d) (h1 : 1 ≤ k0) (h19 : k0 ≤ 19) (hK : ∀ k, K' k → K k ∨ k = k0) : cpI σ (jcpy τ (d + k0) (s + k0) 0 0 (fLn k0)) d s K' := by
  obtain ⟨f, hf, hr⟩ := h
  refine ⟨⟨f.1, f.2.1, fun a j q => ?_⟩, fun j hj => ?_, fun k hk k1 k19 k4 j hj => ?_⟩
  · rw [jcpy_1, if_neg (fun z => by rw [z.1, aFl_i (by omega) (by omega)] at q; cases q)]
    exact f.2.2 a j q
  · rw [jcpy_1, if_neg (fun z => by omega)]
    exact hf j hj
  · rw [jcpy_1]
    by_cases e : k = k0
    · subst e
      rw [if_pos ⟨rfl, hj⟩]
      exact f.2.2 _ _ (aFl_o (by omega))
    · rw [if_neg (fun z => e (by omega))]
      exact hr k ((hK k hk).resolve_right e) k1 k19 k4 j hj
def cpP (σ τ : jM) (d s : Nat) : Prop := cpI σ τ d s (fun _ => True)
set_option maxRecDepth 100000 in
set_option maxHeartbeats 4000000 in
theorem CX2_cp {g : jG} {n : Nat} {post : Option Value → jM → Prop} {σ τ : jM} {d s : Nat} {K : Nat → Prop} {L : List (Nat × Value)} {pc nx tg : Nat} {kk : Int32} (hd : flFd d) (hs : flFd s) (hds : d + 19 < s ∨ s + 19 < d) (C : cpI σ τ d s K) (k0 : Nat) (e : jtb tX2_copy pc = some (.invokestatic 72, nx, tg, kk)) (h1 : 1 ≤ k0) (h19 : k0 ≤ 19) (h4 : k0 ≠ 4)
    (k : ∀ τ', cpI σ τ' d s (fun j => K j ∨ j = k0) → jW g mX2_copy (n + 1) post nx L [] τ') : jW g mX2_copy (n + 1) post pc L [.int (nI (fLn k0)), .int 0, .ref (d + k0), .int 0, .ref (s + k0)] τ := by
  obtain ⟨d1, d2⟩ := hd.2.2 k0 (by omega) (by omega) h4
  obtain ⟨s1, s2⟩ := hs.2.2 k0 (by omega) (by omega) h4
  refine jr_acp TX2_copy acp_2 e s1 d1 s2 d2 ?_ (by decide) (by omega) (k _ (cpI_s C hds h1 h19 (fun _ z => z)))
  unfold fLn
  split
  · decide
  · split <;> decide
/-- no cell of one is a cell of the other -/
def dsj (d s : Nat) : Prop := d + 19 < s ∨ s + 19 < d
def oX2_copy : jO := joRR fun d s σ => (flFd d ∧ flFd s ∧ dsj d s, fun v τ => v = none ∧ cpP σ τ d s)
set_option maxRecDepth 100000 in
set_option maxHeartbeats 4000000 in
theorem CX2_copy (g : jG) (n : Nat) : jOk g (n + 1) mX2_copy oX2_copy := by
  refine joRR_ok ?_
  rintro d s σ ⟨hd, hs, hds0⟩
  have hds : d + 19 < s ∨ s + 19 < d := hds0
  obtain ⟨⟨hd0, hd1⟩, hdw, -⟩ := id hd
  obtain ⟨⟨hs0, hs1⟩, hsw, -⟩ := id hs
  have eLd := flF_e hd
  have eLs := flF_e hs
  have hdw1 := hdw.1
  have hdw2 := hdw.2.1
  have hsw1 := hsw.1
  have hsw2 := hsw.2.1
  refine jCon.ofP (by decide +kernel) (by simp [lg_sl, Value.category]) (fun post hp => ?_)
  refine jvk_ok TX2_copy (V := []) (S := []) (fun _ h => absurd h List.not_mem_nil) (fun _ h => absurd h List.not_mem_nil) [72] 60 _ _ _ _ ?_
  simp (maxSteps := 1000000) [↓Bool.cond_eq_ite, -Prod.forall, -Prod.exists, -Prod.mk.injEq, jvk, tX2_copy, jtb, jol, jst, jlk, jcmp, jbin, jfl, fX2, jc2, lX2, jcat, jel, lv_args, Value.category, jins, jsrt, jins2, jble, jblt, jf3, List.filter_cons, List.filter_nil, G_flat, -Int32.not_le, -Int32.not_lt, -Int64.not_le, -Int64.not_lt, i3lt, i6lt, hd0, hd1, hs0, hs1, jup_1]
  try simp (disch := omega) [-Prod.forall, -Prod.exists, -Prod.mk.injEq, -Int32.not_le, -Int32.not_lt, -Int64.not_le, -Int64.not_lt, i3lt, i6lt, hd0, hd1, hs0, hs1, jup_1]
  obtain ⟨τ0, e0⟩ : ∃ τ0, τ0 = jup (jup (jup (jup (jup (jup (jup σ d 0 (σ.1 s 0)) d 1 (σ.1 s 1)) d 2 (σ.1 s 2)) d 3 (σ.1 s 3)) d 4 (σ.1 s 4)) d 5 (σ.1 s 5)) d 6 (σ.1 s 6) := ⟨_, rfl⟩
  rw [← e0]
  have C0 : cpI σ τ0 d s (fun _ => False) := by
    refine ⟨?_, fun j hj => ?_, fun k hk => hk.elim⟩
    · rw [e0]
      exact (((((((jfr.rfl.up _ (aFl_i (by omega) (by omega))).up _ (aFl_i (by omega) (by omega))).up _ (aFl_i (by omega) (by omega))).up _ (aFl_i (by omega) (by omega))).up _ (aFl_i (by omega) (by omega))).up _ (aFl_i (by omega) (by omega))).up _ (aFl_i (by omega) (by omega)))
    · rw [e0]
      simp only [jup_1]
      have hc : j = 0 ∨ j = 1 ∨ j = 2 ∨ j = 3 ∨ j = 4 ∨ j = 5 ∨ j = 6 := by omega
      rcases hc with e | e | e | e | e | e | e <;> subst e <;> simp
  refine CX2_cp hd hs hds C0 1 rfl (by omega) (by omega) (by omega) (fun τ1 C1 => ?_)
  refine jvk_ok TX2_copy (V := []) (S := []) (fun _ h => absurd h List.not_mem_nil) (fun _ h => absurd h List.not_mem_nil) [87] 60 _ _ _ _ ?_
  simp (maxSteps := 1000000) [↓Bool.cond_eq_ite, -Prod.forall, -Prod.exists, -Prod.mk.injEq, jvk, tX2_copy, jtb, jol, jst, jlk, jcmp, jbin, jfl, fX2, jc2, lX2, jcat, jel, lv_args, Value.category, jins, jsrt, jins2, jble, jblt, jf3, List.filter_cons, List.filter_nil, G_flat, -Int32.not_le, -Int32.not_lt, -Int64.not_le, -Int64.not_lt, i3lt, i6lt, hd0, hd1, hs0, hs1]
  try simp (disch := omega) [-Prod.forall, -Prod.exists, -Prod.mk.injEq, -Int32.not_le, -Int32.not_lt, -Int64.not_le, -Int64.not_lt, i3lt, i6lt, hd0, hd1, hs0, hs1]
  refine CX2_cp hd hs hds C1 2 rfl (by omega) (by omega) (by omega) (fun τ2 C2 => ?_)
  refine jvk_ok TX2_copy (V := []) (S := []) (fun _ h => absurd h List.not_mem_nil) (fun _ h => absurd h List.not_mem_nil) [102] 60 _ _ _ _ ?_
  simp (maxSteps := 1000000) [↓Bool.cond_eq_ite, -Prod.forall, -Prod.exists, -Prod.mk.injEq, jvk, tX2_copy, jtb, jol, jst, jlk, jcmp, jbin, jfl, fX2, jc2, lX2, jcat, jel, lv_args, Value.category, jins, jsrt, jins2, jble, jblt, jf3, List.filter_cons, List.filter_nil, G_flat, -Int32.not_le, -Int32.not_lt, -Int64.not_le, -Int64.not_lt, i3lt, i6lt, hd0, hd1, hs0, hs1]
  try simp (disch := omega) [-Prod.forall, -Prod.exists, -Prod.mk.injEq, -Int32.not_le, -Int32.not_lt, -Int64.not_le, -Int64.not_lt, i3lt, i6lt, hd0, hd1, hs0, hs1]
  refine CX2_cp hd hs hds C2 3 rfl (by omega) (by omega) (by omega) (fun τ3 C3 => ?_)
  refine jvk_ok TX2_copy (V := []) (S := []) (fun _ h => absurd h List.not_mem_nil) (fun _ h => absurd h List.not_mem_nil) [107] 10 _ _ _ _ ?_
  simp (maxSteps := 1000000) [↓Bool.cond_eq_ite, -Prod.forall, -Prod.exists, -Prod.mk.injEq, jvk, tX2_copy, jtb, jol, jst, jlk, jcmp, jbin, jfl, fX2, jc2, lX2, jcat, jel, lv_args, Value.category, jins, jsrt, jins2, jble, jblt, jf3, List.filter_cons, List.filter_nil, G_flat, -Int32.not_le, -Int32.not_lt, -Int64.not_le, -Int64.not_lt, i3lt, i6lt]
  try simp (disch := omega) [-Prod.forall, -Prod.exists, -Prod.mk.injEq, -Int32.not_le, -Int32.not_lt, -Int64.not_le, -Int64.not_lt, i3lt, i6lt]
  have key := jloop (P := fun p => ∀ τ : jM, cpI σ τ d s (fun k => k ≤ 3 ∨ 5 ≤ k ∧ k < 5 + p) → jW g mX2_copy (n + 1) post 107 [(0, .ref d), (1, .ref s), (2, .int (nI p))] [] τ) (N := 10) (fun τ C => by
    have c1 : (10 : Int32) ≤ nI 10 := by decide
    refine jvk_ok TX2_copy (V := []) (S := []) (fun _ h => absurd h List.not_mem_nil) (fun _ h => absurd h List.not_mem_nil) [150] 60 _ _ _ _ ?_
    simp (maxSteps := 1000000) [↓Bool.cond_eq_ite, -Prod.forall, -Prod.exists, -Prod.mk.injEq, jvk, tX2_copy, jtb, jol, jst, jlk, jcmp, jbin, jfl, fX2, jc2, lX2, jcat, jel, lv_args, Value.category, jins, jsrt, jins2, jble, jblt, jf3, List.filter_cons, List.filter_nil, G_flat, -Int32.not_le, -Int32.not_lt, -Int64.not_le, -Int64.not_lt, i3lt, i6lt, c1, hd0, hd1, hs0, hs1]
    try simp (disch := omega) [-Prod.forall, -Prod.exists, -Prod.mk.injEq, -Int32.not_le, -Int32.not_lt, -Int64.not_le, -Int64.not_lt, i3lt, i6lt, c1, hd0, hd1, hs0, hs1]
    refine CX2_cp hd hs hds C 15 rfl (by omega) (by omega) (by omega) (fun τ4 C4 => ?_)
    refine jvk_ok TX2_copy (V := []) (S := []) (fun _ h => absurd h List.not_mem_nil) (fun _ h => absurd h List.not_mem_nil) [165] 60 _ _ _ _ ?_
    simp (maxSteps := 1000000) [↓Bool.cond_eq_ite, -Prod.forall, -Prod.exists, -Prod.mk.injEq, jvk, tX2_copy, jtb, jol, jst, jlk, jcmp, jbin, jfl, fX2, jc2, lX2, jcat, jel, lv_args, Value.category, jins, jsrt, jins2, jble, jblt, jf3, List.filter_cons, List.filter_nil, G_flat, -Int32.not_le, -Int32.not_lt, -Int64.not_le, -Int64.not_lt, i3lt, i6lt, hd0, hd1, hs0, hs1]
    try simp (disch := omega) [-Prod.forall, -Prod.exists, -Prod.mk.injEq, -Int32.not_le, -Int32.not_lt, -Int64.not_le, -Int64.not_lt, i3lt, i6lt, hd0, hd1, hs0, hs1]
    refine CX2_cp hd hs hds C4 16 rfl (by omega) (by omega) (by omega) (fun τ5 C5 => ?_)
    refine jvk_ok TX2_copy (V := []) (S := []) (fun _ h => absurd h List.not_mem_nil) (fun _ h => absurd h List.not_mem_nil) [180] 60 _ _ _ _ ?_
    simp (maxSteps := 1000000) [↓Bool.cond_eq_ite, -Prod.forall, -Prod.exists, -Prod.mk.injEq, jvk, tX2_copy, jtb, jol, jst, jlk, jcmp, jbin, jfl, fX2, jc2, lX2, jcat, jel, lv_args, Value.category, jins, jsrt, jins2, jble, jblt, jf3, List.filter_cons, List.filter_nil, G_flat, -Int32.not_le, -Int32.not_lt, -Int64.not_le, -Int64.not_lt, i3lt, i6lt, hd0, hd1, hs0, hs1]
    try simp (disch := omega) [-Prod.forall, -Prod.exists, -Prod.mk.injEq, -Int32.not_le, -Int32.not_lt, -Int64.not_le, -Int64.not_lt, i3lt, i6lt, hd0, hd1, hs0, hs1]
    refine CX2_cp hd hs hds C5 17 rfl (by omega) (by omega) (by omega) (fun τ6 C6 => ?_)
    refine jvk_ok TX2_copy (V := []) (S := []) (fun _ h => absurd h List.not_mem_nil) (fun _ h => absurd h List.not_mem_nil) [195] 60 _ _ _ _ ?_
    simp (maxSteps := 1000000) [↓Bool.cond_eq_ite, -Prod.forall, -Prod.exists, -Prod.mk.injEq, jvk, tX2_copy, jtb, jol, jst, jlk, jcmp, jbin, jfl, fX2, jc2, lX2, jcat, jel, lv_args, Value.category, jins, jsrt, jins2, jble, jblt, jf3, List.filter_cons, List.filter_nil, G_flat, -Int32.not_le, -Int32.not_lt, -Int64.not_le, -Int64.not_lt, i3lt, i6lt, hd0, hd1, hs0, hs1]
    try simp (disch := omega) [-Prod.forall, -Prod.exists, -Prod.mk.injEq, -Int32.not_le, -Int32.not_lt, -Int64.not_le, -Int64.not_lt, i3lt, i6lt, hd0, hd1, hs0, hs1]
    refine CX2_cp hd hs hds C6 18 rfl (by omega) (by omega) (by omega) (fun τ7 C7 => ?_)
    refine jvk_ok TX2_copy (V := []) (S := []) (fun _ h => absurd h List.not_mem_nil) (fun _ h => absurd h List.not_mem_nil) [210] 60 _ _ _ _ ?_
    simp (maxSteps := 1000000) [↓Bool.cond_eq_ite, -Prod.forall, -Prod.exists, -Prod.mk.injEq, jvk, tX2_copy, jtb, jol, jst, jlk, jcmp, jbin, jfl, fX2, jc2, lX2, jcat, jel, lv_args, Value.category, jins, jsrt, jins2, jble, jblt, jf3, List.filter_cons, List.filter_nil, G_flat, -Int32.not_le, -Int32.not_lt, -Int64.not_le, -Int64.not_lt, i3lt, i6lt, hd0, hd1, hs0, hs1]
    try simp (disch := omega) [-Prod.forall, -Prod.exists, -Prod.mk.injEq, -Int32.not_le, -Int32.not_lt, -Int64.not_le, -Int64.not_lt, i3lt, i6lt, hd0, hd1, hs0, hs1]
    refine CX2_cp hd hs hds C7 19 rfl (by omega) (by omega) (by omega) (fun τ8 C8 => ?_)
    refine jvk_ok TX2_copy (V := []) (S := []) (fun _ h => absurd h List.not_mem_nil) (fun _ h => absurd h List.not_mem_nil) [] 10 _ _ _ _ ?_
    simp (maxSteps := 1000000) [↓Bool.cond_eq_ite, -Prod.forall, -Prod.exists, -Prod.mk.injEq, jvk, tX2_copy, jtb, jol, jst, jlk, jcmp, jbin, jfl, fX2, jc2, lX2, jcat, jel, lv_args, Value.category, jins, jsrt, jins2, jble, jblt, jf3, List.filter_cons, List.filter_nil, G_flat, -Int32.not_le, -Int32.not_lt, -Int64.not_le, -Int64.not_lt, i3lt, i6lt]
    try simp (disch := omega) [-Prod.forall, -Prod.exists, -Prod.mk.injEq, -Int32.not_le, -Int32.not_lt, -Int64.not_le, -Int64.not_lt, i3lt, i6lt]
    exact hp _ _ ⟨rfl, C8.1, C8.2.1, fun k _ k1 k19 k4 j hj => C8.2.2 k (by omega) k1 k19 k4 j hj⟩) (fun p hpN ih τ C => by
    have c1 : ¬ (10 : Int32) ≤ nI p := nI_ge (b := 10) hpN (by decide)
    have jp : jin (nI p) 10 := jin_nI hpN (by decide)
    have ecp : (nI p).toNatClampNeg = p := nI_clamp (by omega)
    refine jvk_ok TX2_copy (V := []) (S := []) (fun _ h => absurd h List.not_mem_nil) (fun _ h => absurd h List.not_mem_nil) [129] 60 _ _ _ _ ?_
    simp (maxSteps := 1000000) [↓Bool.cond_eq_ite, -Prod.forall, -Prod.exists, -Prod.mk.injEq, jvk, tX2_copy, jtb, jol, jst, jlk, jcmp, jbin, jfl, fX2, jc2, lX2, jcat, jel, lv_args, Value.category, jins, jsrt, jins2, jble, jblt, jf3, List.filter_cons, List.filter_nil, G_flat, -Int32.not_le, -Int32.not_lt, -Int64.not_le, -Int64.not_lt, i3lt, i6lt, c1, jp, ecp, hd0, hd1, hs0, hs1, hdw1, hdw2, hsw1, hsw2, eLd, eLs]
    try simp (disch := omega) [-Prod.forall, -Prod.exists, -Prod.mk.injEq, -Int32.not_le, -Int32.not_lt, -Int64.not_le, -Int64.not_lt, i3lt, i6lt, c1, jp, ecp, hd0, hd1, hs0, hs1, hdw1, hdw2, hsw1, hsw2, eLd, eLs]
    have e6 : fLn (5 + p) = 6 := by unfold fLn; rw [if_neg (by omega), if_pos (by omega)]
    have k1 := CX2_cp (g := g) (n := n) (post := post) (L := [(0, .ref d), (1, .ref s), (2, .int (nI p))]) hd hs hds C (5 + p) (show jtb tX2_copy 129 = some (.invokestatic 72, 132, 0, 0) by decide +kernel) (by omega) (by omega) (by omega) (fun τ9 C9 => by
      refine jvk_ok TX2_copy (V := []) (S := []) (fun _ h => absurd h List.not_mem_nil) (fun _ h => absurd h List.not_mem_nil) [107] 10 _ _ _ _ ?_
      simp (maxSteps := 1000000) [↓Bool.cond_eq_ite, -Prod.forall, -Prod.exists, -Prod.mk.injEq, jvk, tX2_copy, jtb, jol, jst, jlk, jcmp, jbin, jfl, fX2, jc2, lX2, jcat, jel, lv_args, Value.category, jins, jsrt, jins2, jble, jblt, jf3, List.filter_cons, List.filter_nil, G_flat, -Int32.not_le, -Int32.not_lt, -Int64.not_le, -Int64.not_lt, i3lt, i6lt, nI_1]
      try simp (disch := omega) [-Prod.forall, -Prod.exists, -Prod.mk.injEq, -Int32.not_le, -Int32.not_lt, -Int64.not_le, -Int64.not_lt, i3lt, i6lt, nI_1]
      exact ih τ9 ⟨C9.1, C9.2.1, fun k hk k1 k19 k4 j hj => C9.2.2 k (by omega) k1 k19 k4 j hj⟩)
    rw [e6] at k1
    exact k1)
  have k0 := key τ3 ⟨C3.1, C3.2.1, fun k hk k1 k19 k4 j hj => C3.2.2 k (by omega) k1 k19 k4 j hj⟩
  rw [nI_0] at k0
  exact k0
/-! Roster.copy: from the loader's to the one in use -/
def roL (k : Nat) : Nat := if k = 1 then 6 else if k = 2 then 10 else 20
def aRo (a j : Nat) : Bool := (32).ble a && a.ble 36 || a == 31 && j == 5
def rcI (σ τ : jM) (K : Nat → Prop) : Prop := jfr aRo b0 σ τ ∧ ∀ k, K k → 1 ≤ k → k ≤ 5 → ∀ j, j < roL k → τ.1 (31 + k) j = σ.1 (24 + k) j
theorem aRo_i {a j : Nat} (h1 : 32 ≤ a) (h2 : a ≤ 36) : aRo a j = true := by
  unfold aRo
  simp only [jble, Bool.or_eq_true, Bool.and_eq_true, beq_iff_eq, decide_eq_true_eq]
  omega
theorem aRo_o {a j : Nat} (h : a < 31 ∨ 36 < a) : aRo a j = false := by
  unfold aRo
  simp only [jble, Bool.or_eq_false_iff, Bool.and_eq_false_iff, beq_eq_false_iff_ne, decide_eq_false_iff_not]
  omega
theorem rcI_s {σ τ : jM} {k0 : Nat} {K K' : Nat → Prop} (h : rcI σ τ K) (h1 : 1 ≤ k0) (h5 : k0 ≤ 5) (hK : ∀ k, K' k → K k ∨ k = k0) : rcI σ (jcpy τ (31 + k0) (24 + k0) 0 0 (roL k0)) K' := by
  obtain ⟨f, hr⟩ := h
  refine ⟨⟨f.1, f.2.1, fun a j q => ?_⟩, fun k hk k1 k5 j hj => ?_⟩
  · rw [jcpy_1, if_neg (fun z => by rw [z.1, aRo_i (by omega) (by omega)] at q; cases q)]
    exact f.2.2 a j q
  · rw [jcpy_1]
    by_cases e : k = k0
    · subst e
      rw [if_pos ⟨rfl, hj⟩]
      exact f.2.2 _ _ (aRo_o (by omega))
    · rw [if_neg (fun z => e (by omega))]
      exact hr k ((hK k hk).resolve_right e) k1 k5 j hj
theorem roF : ∀ k, k < 6 → k ≠ 0 → (jarr (31 + k) 1 0 = true ∧ jlen (31 + k) = roL k) ∧ jarr (24 + k) 1 0 = true ∧ jlen (24 + k) = roL k := by decide +kernel
set_option maxRecDepth 100000 in
set_option maxHeartbeats 4000000 in
theorem CX7_cp {g : jG} {n : Nat} {post : Option Value → jM → Prop} {σ τ : jM} {K : Nat → Prop} {L : List (Nat × Value)} {pc nx tg : Nat} {kk : Int32} (C : rcI σ τ K) (k0 : Nat) (e : jtb tX7_copy pc = some (.invokestatic 31, nx, tg, kk)) (h1 : 1 ≤ k0) (h5 : k0 ≤ 5)
    (k : ∀ τ', rcI σ τ' (fun j => K j ∨ j = k0) → jW g mX7_copy (n + 1) post nx L [] τ') : jW g mX7_copy (n + 1) post pc L [.int (nI (roL k0)), .int 0, .ref (31 + k0), .int 0, .ref (24 + k0)] τ := by
  obtain ⟨⟨d1, d2⟩, s1, s2⟩ := roF k0 (by omega) (by omega)
  refine jr_acp TX7_copy acp_7 e s1 d1 s2 d2 ?_ (by decide) (by omega) (k _ (rcI_s C h1 h5 (fun _ z => z)))
  unfold roL
  split
  · decide
  · split <;> decide
def rcP (σ τ : jM) : Prop := rcI σ τ (fun _ => True) ∧ τ.1 31 5 = σ.1 24 5
def oX7_copy : jO := joRR fun d s σ => (d = 31 ∧ s = 24, fun v τ => v = none ∧ rcP σ τ)
set_option maxRecDepth 100000 in
set_option maxHeartbeats 4000000 in
theorem CX7_copy (g : jG) (n : Nat) : jOk g (n + 1) mX7_copy oX7_copy := by
  refine joRR_ok ?_
  rintro _ _ σ ⟨rfl, rfl⟩
  refine jCon.ofP (by decide +kernel) (by simp [lg_sl, Value.category]) (fun post hp => ?_)
  refine jvk_ok TX7_copy (V := []) (S := []) (fun _ h => absurd h List.not_mem_nil) (fun _ h => absurd h List.not_mem_nil) [17] 60 _ _ _ _ ?_
  simp (maxSteps := 1000000) [↓Bool.cond_eq_ite, -Prod.forall, -Prod.exists, -Prod.mk.injEq, jvk, tX7_copy, jtb, jol, jst, jlk, jcmp, jbin, jfl, fX7, jc2, lX7, jcat, jel, lv_args, Value.category, jins, jsrt, jins2, jble, jblt, jf3, List.filter_cons, List.filter_nil, G_roster, G_lroster, -Int32.not_le, -Int32.not_lt, -Int64.not_le, -Int64.not_lt, i3lt, i6lt]
  try simp (disch := omega) [-Prod.forall, -Prod.exists, -Prod.mk.injEq, -Int32.not_le, -Int32.not_lt, -Int64.not_le, -Int64.not_lt, i3lt, i6lt]
  refine CX7_cp (σ := σ) (K := fun _ => False) ⟨jfr.rfl, fun k hk => hk.elim⟩ 1 rfl (by omega) (by omega) (fun τ1 C1 => ?_)
  refine jvk_ok TX7_copy (V := []) (S := []) (fun _ h => absurd h List.not_mem_nil) (fun _ h => absurd h List.not_mem_nil) [32] 60 _ _ _ _ ?_
  simp (maxSteps := 1000000) [↓Bool.cond_eq_ite, -Prod.forall, -Prod.exists, -Prod.mk.injEq, jvk, tX7_copy, jtb, jol, jst, jlk, jcmp, jbin, jfl, fX7, jc2, lX7, jcat, jel, lv_args, Value.category, jins, jsrt, jins2, jble, jblt, jf3, List.filter_cons, List.filter_nil, G_roster, G_lroster, -Int32.not_le, -Int32.not_lt, -Int64.not_le, -Int64.not_lt, i3lt, i6lt]
  try simp (disch := omega) [-Prod.forall, -Prod.exists, -Prod.mk.injEq, -Int32.not_le, -Int32.not_lt, -Int64.not_le, -Int64.not_lt, i3lt, i6lt]
  refine CX7_cp C1 2 rfl (by omega) (by omega) (fun τ2 C2 => ?_)
  refine jvk_ok TX7_copy (V := []) (S := []) (fun _ h => absurd h List.not_mem_nil) (fun _ h => absurd h List.not_mem_nil) [47] 60 _ _ _ _ ?_
  simp (maxSteps := 1000000) [↓Bool.cond_eq_ite, -Prod.forall, -Prod.exists, -Prod.mk.injEq, jvk, tX7_copy, jtb, jol, jst, jlk, jcmp, jbin, jfl, fX7, jc2, lX7, jcat, jel, lv_args, Value.category, jins, jsrt, jins2, jble, jblt, jf3, List.filter_cons, List.filter_nil, G_roster, G_lroster, -Int32.not_le, -Int32.not_lt, -Int64.not_le, -Int64.not_lt, i3lt, i6lt]
  try simp (disch := omega) [-Prod.forall, -Prod.exists, -Prod.mk.injEq, -Int32.not_le, -Int32.not_lt, -Int64.not_le, -Int64.not_lt, i3lt, i6lt]
  refine CX7_cp C2 3 rfl (by omega) (by omega) (fun τ3 C3 => ?_)
  refine jvk_ok TX7_copy (V := []) (S := []) (fun _ h => absurd h List.not_mem_nil) (fun _ h => absurd h List.not_mem_nil) [62] 60 _ _ _ _ ?_
  simp (maxSteps := 1000000) [↓Bool.cond_eq_ite, -Prod.forall, -Prod.exists, -Prod.mk.injEq, jvk, tX7_copy, jtb, jol, jst, jlk, jcmp, jbin, jfl, fX7, jc2, lX7, jcat, jel, lv_args, Value.category, jins, jsrt, jins2, jble, jblt, jf3, List.filter_cons, List.filter_nil, G_roster, G_lroster, -Int32.not_le, -Int32.not_lt, -Int64.not_le, -Int64.not_lt, i3lt, i6lt]
  try simp (disch := omega) [-Prod.forall, -Prod.exists, -Prod.mk.injEq, -Int32.not_le, -Int32.not_lt, -Int64.not_le, -Int64.not_lt, i3lt, i6lt]
  refine CX7_cp C3 4 rfl (by omega) (by omega) (fun τ4 C4 => ?_)
  refine jvk_ok TX7_copy (V := []) (S := []) (fun _ h => absurd h List.not_mem_nil) (fun _ h => absurd h List.not_mem_nil) [77] 60 _ _ _ _ ?_
  simp (maxSteps := 1000000) [↓Bool.cond_eq_ite, -Prod.forall, -Prod.exists, -Prod.mk.injEq, jvk, tX7_copy, jtb, jol, jst, jlk, jcmp, jbin, jfl, fX7, jc2, lX7, jcat, jel, lv_args, Value.category, jins, jsrt, jins2, jble, jblt, jf3, List.filter_cons, List.filter_nil, G_roster, G_lroster, -Int32.not_le, -Int32.not_lt, -Int64.not_le, -Int64.not_lt, i3lt, i6lt]
  try simp (disch := omega) [-Prod.forall, -Prod.exists, -Prod.mk.injEq, -Int32.not_le, -Int32.not_lt, -Int64.not_le, -Int64.not_lt, i3lt, i6lt]
  refine CX7_cp C4 5 rfl (by omega) (by omega) (fun τ5 C5 => ?_)
  have e24 : τ5.1 24 5 = σ.1 24 5 := C5.1.2.2 24 5 rfl
  refine jvk_ok TX7_copy (V := []) (S := []) (fun _ h => absurd h List.not_mem_nil) (fun _ h => absurd h List.not_mem_nil) [] 20 _ _ _ _ ?_
  simp (maxSteps := 1000000) [↓Bool.cond_eq_ite, -Prod.forall, -Prod.exists, -Prod.mk.injEq, jvk, tX7_copy, jtb, jol, jst, jlk, jcmp, jbin, jfl, fX7, jc2, lX7, jcat, jel, lv_args, Value.category, jins, jsrt, jins2, jble, jblt, jf3, List.filter_cons, List.filter_nil, G_roster, G_lroster, -Int32.not_le, -Int32.not_lt, -Int64.not_le, -Int64.not_lt, i3lt, i6lt, e24]
  try simp (disch := omega) [-Prod.forall, -Prod.exists, -Prod.mk.injEq, -Int32.not_le, -Int32.not_lt, -Int64.not_le, -Int64.not_lt, i3lt, i6lt, e24]
  refine hp _ _ ⟨rfl, ⟨C5.1.up _ rfl, fun k _ k1 k5 j hj => ?_⟩, jup_s _ _ _ _⟩
  rw [jup_1, if_neg (by omega)]
  exact C5.2 k (by omega) k1 k5 j hj
