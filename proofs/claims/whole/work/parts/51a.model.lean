theorem exM_x {σ τ : jM} {x y : Nat → Int} (h : exM σ τ x y) {q : Nat} (hq : dL (σ.1 323) q = true) (v : Int) : exM σ (jup τ 332 q (iI v)) (fun k => if k = cn (dL (σ.1 323)) q then v else x k) y := by
  refine ⟨h.1.up _ rfl, fun p hp => ⟨?_, ?_⟩⟩
  · rw [jup_1]
    by_cases e : p = q
    · subst e
      rw [if_pos ⟨rfl, rfl⟩, if_pos hq]
      dsimp only
      rw [if_pos rfl]
    · rw [if_neg (by simp [e]), (h.2 p hp).1]
      by_cases hl : dL (σ.1 323) p = true
      · rw [if_pos hl, if_pos hl]
        dsimp only
        rw [if_neg (fun z => e (cn_inj hl hq z))]
      · rw [if_neg hl, if_neg hl]
  · rw [jup_1, if_neg (by simp)]
    exact (h.2 p hp).2
theorem exM_y {σ τ : jM} {x y : Nat → Int} (h : exM σ τ x y) {q : Nat} (hq : dL (σ.1 323) q = true) (v w : Int) (hw : w = - v) : exM σ (jup τ 333 q (iI w)) x (fun k => if k = cn (dL (σ.1 323)) q then v else y k) := by
  subst hw
  refine ⟨h.1.up _ rfl, fun p hp => ⟨?_, ?_⟩⟩
  · rw [jup_1, if_neg (by simp)]
    exact (h.2 p hp).1
  · rw [jup_1]
    by_cases e : p = q
    · subst e
      rw [if_pos ⟨rfl, rfl⟩, if_pos hq]
      dsimp only
      rw [if_pos rfl]
    · rw [if_neg (by simp [e]), (h.2 p hp).2]
      by_cases hl : dL (σ.1 323) p = true
      · rw [if_pos hl, if_pos hl]
        dsimp only
        rw [if_neg (fun z => e (cn_inj hl hq z))]
      · rw [if_neg hl, if_neg hl]
def mA (σ : jM) : Nat → Nat := match dC σ with
  | some a => a.2.2
  | none => fun _ => 0
def mLo (σ : jM) (p : Nat) : Int32 := if dL (σ.1 323) p = true then iI (gLo (dW (σ.1 323) (mN σ)) (mA σ) (mLiv σ) (cn (dL (σ.1 323)) p)) else 0
def mHi (σ : jM) (p : Nat) : Int32 := if dL (σ.1 323) p = true then iI (- gHi (dW (σ.1 323) (mN σ)) (mA σ) (mLiv σ) (cn (dL (σ.1 323)) p)) else 0
def oX12_layExtremes : jO := joR fun a σ => (a = 322 ∧ ∃ c, hC σ c, fun v τ => v = none ∧ jfr aEx b0 σ τ ∧ ∀ p, p < mN σ → τ.1 332 p = mLo σ p ∧ τ.1 333 p = mHi σ p)
set_option maxRecDepth 100000 in
set_option maxHeartbeats 4000000 in
theorem CEx_core (g : jG) (n : Nat) {post : Option Value → jM → Prop} {τ : jM} {N p q c : Nat} (hN10 : N ≤ 10) (hp : p < N) (hq : q < N) (e4 : τ.1 322 4 = nI N) (hch : chOK τ) (hce : mCE τ p q = true) {gg xi xj yi yj : Int32} (hst : mSt τ p q = gg) (hj1 : jin (τ.1 330 p) 6) (hj2 : jin (τ.1 330 q) 6) (m2 : τ.1 332 p = xi) (m3 : τ.1 332 q = xj) (m4 : τ.1 333 q = yj) (m1 : τ.1 333 p = yi)
    (k1 : ¬ xi + gg ≤ xj → ¬ yi ≤ yj - gg → jW g mX12_layExtremes (n + 4) post 50 [(0, .ref 322), (1, .int 1), (2, .int (nI p)), (3, .int (nI (q + 1)))] [] (jup (jup τ 332 q (xi + gg)) 333 p (yj - gg)))
    (k2 : ¬ xi + gg ≤ xj → yi ≤ yj - gg → jW g mX12_layExtremes (n + 4) post 50 [(0, .ref 322), (1, .int 1), (2, .int (nI p)), (3, .int (nI (q + 1)))] [] (jup τ 332 q (xi + gg)))
    (k3 : xi + gg ≤ xj → ¬ yi ≤ yj - gg → jW g mX12_layExtremes (n + 4) post 50 [(0, .ref 322), (1, .int 1), (2, .int (nI p)), (3, .int (nI (q + 1)))] [] (jup τ 333 p (yj - gg)))
    (k4 : xi + gg ≤ xj → yi ≤ yj - gg → jW g mX12_layExtremes (n + 4) post 50 [(0, .ref 322), (1, .int (nI c)), (2, .int (nI p)), (3, .int (nI (q + 1)))] [] τ) :
    jW g mX12_layExtremes (n + 4) post 50 [(0, .ref 322), (1, .int (nI c)), (2, .int (nI p)), (3, .int (nI q))] [] τ := by
  have hlt : ¬ nI N ≤ nI q := nI_ge hq (by omega)
  have ecp : (nI p).toNatClampNeg = p := nI_clamp (by omega)
  have ecq : (nI q).toNatClampNeg = q := nI_clamp (by omega)
  have hjp : jin (nI p) 10 := jin_nI (by omega) (by decide)
  have hjq : jin (nI q) 10 := jin_nI (by omega) (by decide)
  refine jvk_ok TX12_layExtremes (V := [(179, 3, 12, oX12_canEnvy), (182, 3, 12, oX12_step)]) (S := []) (List.forall_mem_cons.mpr ⟨⟨mX12_canEnvy, n + 3, 2, TX12, 53, rfl, by omega, kX12_179, WX12_canEnvy, rfl, CX12_canEnvy g (n)⟩, (List.forall_mem_cons.mpr ⟨⟨mX12_step, n + 3, 2, TX12, 53, rfl, by omega, kX12_182, WX12_step, rfl, CX12_step g (n)⟩, (fun _ h => absurd h List.not_mem_nil)⟩)⟩) (fun _ h => absurd h List.not_mem_nil) [70, 50, 40, 32] 12 _ _ _ _ ?_
  simp (maxSteps := 60000) [↓Bool.cond_eq_ite, -Prod.forall, -Prod.exists, -Prod.mk.injEq, jvk, tX12_layExtremes, jtb, jol, jst, jlk, jcmp, jbin, jfl, fX12, jc2, lX12, jcat, jel, lv_args, Value.category, jins, jsrt, jins2, jble, jblt, jf3, List.filter_cons, List.filter_nil, G_m, oX12_canEnvy, oX12_step, joRII, -Int32.not_le, -Int32.not_lt, -Int64.not_le, -Int64.not_lt, i3lt, i6lt, e4, hlt, ecp, ecq, hjp, hjq, hch, hce]
  try simp (disch := omega) [-Prod.forall, -Prod.exists, -Prod.mk.injEq, -Int32.not_le, -Int32.not_lt, -Int64.not_le, -Int64.not_lt, i3lt, i6lt, e4, hlt, ecp, ecq, hjp, hjq, hch, hce]
  refine jvk_ok TX12_layExtremes (V := [(179, 3, 12, oX12_canEnvy), (182, 3, 12, oX12_step)]) (S := []) (List.forall_mem_cons.mpr ⟨⟨mX12_canEnvy, n + 3, 2, TX12, 53, rfl, by omega, kX12_179, WX12_canEnvy, rfl, CX12_canEnvy g (n)⟩, (List.forall_mem_cons.mpr ⟨⟨mX12_step, n + 3, 2, TX12, 53, rfl, by omega, kX12_182, WX12_step, rfl, CX12_step g (n)⟩, (fun _ h => absurd h List.not_mem_nil)⟩)⟩) (fun _ h => absurd h List.not_mem_nil) [100, 50, 40, 32] 20 _ _ _ _ ?_
  simp (maxSteps := 60000) [↓Bool.cond_eq_ite, -Prod.forall, -Prod.exists, -Prod.mk.injEq, jvk, tX12_layExtremes, jtb, jol, jst, jlk, jcmp, jbin, jfl, fX12, jc2, lX12, jcat, jel, lv_args, Value.category, jins, jsrt, jins2, jble, jblt, jf3, List.filter_cons, List.filter_nil, G_m, oX12_canEnvy, oX12_step, joRII, -Int32.not_le, -Int32.not_lt, -Int64.not_le, -Int64.not_lt, i3lt, i6lt, ecp, ecq, hjp, hjq, hst, hj1, hj2, m2, m4]
  try simp (disch := omega) [-Prod.forall, -Prod.exists, -Prod.mk.injEq, -Int32.not_le, -Int32.not_lt, -Int64.not_le, -Int64.not_lt, i3lt, i6lt, ecp, ecq, hjp, hjq, hst, hj1, hj2, m2, m4]
  by_cases d1 : xi + gg ≤ xj
  · refine jvk_ok TX12_layExtremes (V := [(179, 3, 12, oX12_canEnvy), (182, 3, 12, oX12_step)]) (S := []) (List.forall_mem_cons.mpr ⟨⟨mX12_canEnvy, n + 3, 2, TX12, 53, rfl, by omega, kX12_179, WX12_canEnvy, rfl, CX12_canEnvy g (n)⟩, (List.forall_mem_cons.mpr ⟨⟨mX12_step, n + 3, 2, TX12, 53, rfl, by omega, kX12_182, WX12_step, rfl, CX12_step g (n)⟩, (fun _ h => absurd h List.not_mem_nil)⟩)⟩) (fun _ h => absurd h List.not_mem_nil) [121, 50, 40, 32] 20 _ _ _ _ ?_
    simp (maxSteps := 60000) [↓Bool.cond_eq_ite, -Prod.forall, -Prod.exists, -Prod.mk.injEq, jvk, tX12_layExtremes, jtb, jol, jst, jlk, jcmp, jbin, jfl, fX12, jc2, lX12, jcat, jel, lv_args, Value.category, jins, jsrt, jins2, jble, jblt, jf3, List.filter_cons, List.filter_nil, G_m, oX12_canEnvy, oX12_step, joRII, -Int32.not_le, -Int32.not_lt, -Int64.not_le, -Int64.not_lt, i3lt, i6lt, ecp, ecq, hjp, hjq, m3, d1]
    try simp (disch := omega) [-Prod.forall, -Prod.exists, -Prod.mk.injEq, -Int32.not_le, -Int32.not_lt, -Int64.not_le, -Int64.not_lt, i3lt, i6lt, ecp, ecq, hjp, hjq, m3, d1]
    by_cases d2 : yi ≤ yj - gg
    · refine jvk_ok TX12_layExtremes (V := [(179, 3, 12, oX12_canEnvy), (182, 3, 12, oX12_step)]) (S := []) (List.forall_mem_cons.mpr ⟨⟨mX12_canEnvy, n + 3, 2, TX12, 53, rfl, by omega, kX12_179, WX12_canEnvy, rfl, CX12_canEnvy g (n)⟩, (List.forall_mem_cons.mpr ⟨⟨mX12_step, n + 3, 2, TX12, 53, rfl, by omega, kX12_182, WX12_step, rfl, CX12_step g (n)⟩, (fun _ h => absurd h List.not_mem_nil)⟩)⟩) (fun _ h => absurd h List.not_mem_nil) [50, 40, 32] 20 _ _ _ _ ?_
      simp (maxSteps := 60000) [↓Bool.cond_eq_ite, -Prod.forall, -Prod.exists, -Prod.mk.injEq, jvk, tX12_layExtremes, jtb, jol, jst, jlk, jcmp, jbin, jfl, fX12, jc2, lX12, jcat, jel, lv_args, Value.category, jins, jsrt, jins2, jble, jblt, jf3, List.filter_cons, List.filter_nil, G_m, oX12_canEnvy, oX12_step, joRII, -Int32.not_le, -Int32.not_lt, -Int64.not_le, -Int64.not_lt, i3lt, i6lt, ecp, ecq, hjp, hjq, m1, d2, nI_1]
      try simp (disch := omega) [-Prod.forall, -Prod.exists, -Prod.mk.injEq, -Int32.not_le, -Int32.not_lt, -Int64.not_le, -Int64.not_lt, i3lt, i6lt, ecp, ecq, hjp, hjq, m1, d2, nI_1]
      exact jW.mono (k4 d1 d2) (by simp)
    · refine jvk_ok TX12_layExtremes (V := [(179, 3, 12, oX12_canEnvy), (182, 3, 12, oX12_step)]) (S := []) (List.forall_mem_cons.mpr ⟨⟨mX12_canEnvy, n + 3, 2, TX12, 53, rfl, by omega, kX12_179, WX12_canEnvy, rfl, CX12_canEnvy g (n)⟩, (List.forall_mem_cons.mpr ⟨⟨mX12_step, n + 3, 2, TX12, 53, rfl, by omega, kX12_182, WX12_step, rfl, CX12_step g (n)⟩, (fun _ h => absurd h List.not_mem_nil)⟩)⟩) (fun _ h => absurd h List.not_mem_nil) [50, 40, 32] 20 _ _ _ _ ?_
      simp (maxSteps := 60000) [↓Bool.cond_eq_ite, -Prod.forall, -Prod.exists, -Prod.mk.injEq, jvk, tX12_layExtremes, jtb, jol, jst, jlk, jcmp, jbin, jfl, fX12, jc2, lX12, jcat, jel, lv_args, Value.category, jins, jsrt, jins2, jble, jblt, jf3, List.filter_cons, List.filter_nil, G_m, oX12_canEnvy, oX12_step, joRII, -Int32.not_le, -Int32.not_lt, -Int64.not_le, -Int64.not_lt, i3lt, i6lt, ecp, ecq, hjp, hjq, m1, d2, nI_1]
      try simp (disch := omega) [-Prod.forall, -Prod.exists, -Prod.mk.injEq, -Int32.not_le, -Int32.not_lt, -Int64.not_le, -Int64.not_lt, i3lt, i6lt, ecp, ecq, hjp, hjq, m1, d2, nI_1]
      exact jW.mono (k3 d1 d2) (by simp)
  · refine jvk_ok TX12_layExtremes (V := [(179, 3, 12, oX12_canEnvy), (182, 3, 12, oX12_step)]) (S := []) (List.forall_mem_cons.mpr ⟨⟨mX12_canEnvy, n + 3, 2, TX12, 53, rfl, by omega, kX12_179, WX12_canEnvy, rfl, CX12_canEnvy g (n)⟩, (List.forall_mem_cons.mpr ⟨⟨mX12_step, n + 3, 2, TX12, 53, rfl, by omega, kX12_182, WX12_step, rfl, CX12_step g (n)⟩, (fun _ h => absurd h List.not_mem_nil)⟩)⟩) (fun _ h => absurd h List.not_mem_nil) [121, 50, 40, 32] 20 _ _ _ _ ?_
    simp (maxSteps := 60000) [↓Bool.cond_eq_ite, -Prod.forall, -Prod.exists, -Prod.mk.injEq, jvk, tX12_layExtremes, jtb, jol, jst, jlk, jcmp, jbin, jfl, fX12, jc2, lX12, jcat, jel, lv_args, Value.category, jins, jsrt, jins2, jble, jblt, jf3, List.filter_cons, List.filter_nil, G_m, oX12_canEnvy, oX12_step, joRII, -Int32.not_le, -Int32.not_lt, -Int64.not_le, -Int64.not_lt, i3lt, i6lt, ecp, ecq, hjp, hjq, m3, d1]
    try simp (disch := omega) [-Prod.forall, -Prod.exists, -Prod.mk.injEq, -Int32.not_le, -Int32.not_lt, -Int64.not_le, -Int64.not_lt, i3lt, i6lt, ecp, ecq, hjp, hjq, m3, d1]
    by_cases d2 : yi ≤ yj - gg
    · refine jvk_ok TX12_layExtremes (V := [(179, 3, 12, oX12_canEnvy), (182, 3, 12, oX12_step)]) (S := []) (List.forall_mem_cons.mpr ⟨⟨mX12_canEnvy, n + 3, 2, TX12, 53, rfl, by omega, kX12_179, WX12_canEnvy, rfl, CX12_canEnvy g (n)⟩, (List.forall_mem_cons.mpr ⟨⟨mX12_step, n + 3, 2, TX12, 53, rfl, by omega, kX12_182, WX12_step, rfl, CX12_step g (n)⟩, (fun _ h => absurd h List.not_mem_nil)⟩)⟩) (fun _ h => absurd h List.not_mem_nil) [50, 40, 32] 20 _ _ _ _ ?_
      simp (maxSteps := 60000) [↓Bool.cond_eq_ite, -Prod.forall, -Prod.exists, -Prod.mk.injEq, jvk, tX12_layExtremes, jtb, jol, jst, jlk, jcmp, jbin, jfl, fX12, jc2, lX12, jcat, jel, lv_args, Value.category, jins, jsrt, jins2, jble, jblt, jf3, List.filter_cons, List.filter_nil, G_m, oX12_canEnvy, oX12_step, joRII, -Int32.not_le, -Int32.not_lt, -Int64.not_le, -Int64.not_lt, i3lt, i6lt, ecp, ecq, hjp, hjq, m1, d2, jup_1, nI_1]
      try simp (disch := omega) [-Prod.forall, -Prod.exists, -Prod.mk.injEq, -Int32.not_le, -Int32.not_lt, -Int64.not_le, -Int64.not_lt, i3lt, i6lt, ecp, ecq, hjp, hjq, m1, d2, jup_1, nI_1]
      exact jW.mono (k2 d1 d2) (by simp)
    · refine jvk_ok TX12_layExtremes (V := [(179, 3, 12, oX12_canEnvy), (182, 3, 12, oX12_step)]) (S := []) (List.forall_mem_cons.mpr ⟨⟨mX12_canEnvy, n + 3, 2, TX12, 53, rfl, by omega, kX12_179, WX12_canEnvy, rfl, CX12_canEnvy g (n)⟩, (List.forall_mem_cons.mpr ⟨⟨mX12_step, n + 3, 2, TX12, 53, rfl, by omega, kX12_182, WX12_step, rfl, CX12_step g (n)⟩, (fun _ h => absurd h List.not_mem_nil)⟩)⟩) (fun _ h => absurd h List.not_mem_nil) [50, 40, 32] 20 _ _ _ _ ?_
      simp (maxSteps := 60000) [↓Bool.cond_eq_ite, -Prod.forall, -Prod.exists, -Prod.mk.injEq, jvk, tX12_layExtremes, jtb, jol, jst, jlk, jcmp, jbin, jfl, fX12, jc2, lX12, jcat, jel, lv_args, Value.category, jins, jsrt, jins2, jble, jblt, jf3, List.filter_cons, List.filter_nil, G_m, oX12_canEnvy, oX12_step, joRII, -Int32.not_le, -Int32.not_lt, -Int64.not_le, -Int64.not_lt, i3lt, i6lt, ecp, ecq, hjp, hjq, m1, d2, jup_1, nI_1]
      try simp (disch := omega) [-Prod.forall, -Prod.exists, -Prod.mk.injEq, -Int32.not_le, -Int32.not_lt, -Int64.not_le, -Int64.not_lt, i3lt, i6lt, ecp, ecq, hjp, hjq, m1, d2, jup_1, nI_1]
      exact jW.mono (k1 d1 d2) (by simp)
set_option maxRecDepth 100000 in
set_option maxHeartbeats 4000000 in
theorem CEx_no (g : jG) (n : Nat) {post : Option Value → jM → Prop} {τ : jM} {N p q c : Nat} (hN10 : N ≤ 10) (hp : p < N) (hq : q < N) (e4 : τ.1 322 4 = nI N) (hch : chOK τ) (hce : ¬ mCE τ p q = true)
    (k : jW g mX12_layExtremes (n + 4) post 50 [(0, .ref 322), (1, .int (nI c)), (2, .int (nI p)), (3, .int (nI (q + 1)))] [] τ) :
    jW g mX12_layExtremes (n + 4) post 50 [(0, .ref 322), (1, .int (nI c)), (2, .int (nI p)), (3, .int (nI q))] [] τ := by
  have hlt : ¬ nI N ≤ nI q := nI_ge hq (by omega)
  have ecp : (nI p).toNatClampNeg = p := nI_clamp (by omega)
  have ecq : (nI q).toNatClampNeg = q := nI_clamp (by omega)
  have hjp : jin (nI p) 10 := jin_nI (by omega) (by decide)
  have hjq : jin (nI q) 10 := jin_nI (by omega) (by decide)
  refine jvk_ok TX12_layExtremes (V := [(179, 3, 12, oX12_canEnvy), (182, 3, 12, oX12_step)]) (S := []) (List.forall_mem_cons.mpr ⟨⟨mX12_canEnvy, n + 3, 2, TX12, 53, rfl, by omega, kX12_179, WX12_canEnvy, rfl, CX12_canEnvy g (n)⟩, (List.forall_mem_cons.mpr ⟨⟨mX12_step, n + 3, 2, TX12, 53, rfl, by omega, kX12_182, WX12_step, rfl, CX12_step g (n)⟩, (fun _ h => absurd h List.not_mem_nil)⟩)⟩) (fun _ h => absurd h List.not_mem_nil) [50, 40, 32] 20 _ _ _ _ ?_
  simp (maxSteps := 60000) [↓Bool.cond_eq_ite, -Prod.forall, -Prod.exists, -Prod.mk.injEq, jvk, tX12_layExtremes, jtb, jol, jst, jlk, jcmp, jbin, jfl, fX12, jc2, lX12, jcat, jel, lv_args, Value.category, jins, jsrt, jins2, jble, jblt, jf3, List.filter_cons, List.filter_nil, G_m, oX12_canEnvy, oX12_step, joRII, -Int32.not_le, -Int32.not_lt, -Int64.not_le, -Int64.not_lt, i3lt, i6lt, e4, hlt, ecp, ecq, hjp, hjq, hch, hce, nI_1]
  try simp (disch := omega) [-Prod.forall, -Prod.exists, -Prod.mk.injEq, -Int32.not_le, -Int32.not_lt, -Int64.not_le, -Int64.not_lt, i3lt, i6lt, e4, hlt, ecp, ecq, hjp, hjq, hch, hce, nI_1]
  exact k
