/-! the reference: the transfers -/
def dSt (f : Nat → Int32) : Prop := ∀ p, p < 10 → 0 ≤ f (8 + 20 * p + 5) ∧ f (8 + 20 * p + 5) ≤ 200000
theorem tgS_bd {σ : jM} (hok : mOK σ) (hd : dI (σ.1 323)) {p : Nat} (hp : p < mN σ) : ∃ k, k ≤ 100009 ∧ tgS σ p = nI k := by
  have h10 := (mN_le hok).1
  have hLN : mLiv σ ≤ mN σ := cn_le _ _
  unfold tgS
  by_cases hl : xl σ p = true
  · rw [if_pos hl]
    exact spS_bd (dp_ok hd).1 _ (cn_lt hl hp : cn (xl σ) p < mLiv σ) (by omega)
  · rw [if_neg hl]
    exact ⟨0, by omega, nI_0.symm⟩
def duP (σ : jM) (p : Nat) : Int := if p < mN σ then (tgS σ p).toInt - (mD σ p 5).toInt else 0
def duI (σ : jM) (p : Nat) : Int := if p < 10 then duP σ p else - sI (duP σ) 10
theorem duP_bd {σ : jM} (hok : mOK σ) (hd : dI (σ.1 323)) (hs : dSt (σ.1 323)) (p : Nat) : -200000 ≤ duP σ p ∧ duP σ p ≤ 200000 := by
  have h10 := (mN_le hok).1
  unfold duP
  by_cases h : p < mN σ
  · rw [if_pos h]
    obtain ⟨k, h1, h2⟩ := tgS_bd hok hd h
    obtain ⟨s, h3, h4, -⟩ := nI_rng (hs p (by omega)).1 (hs p (by omega)).2 (by decide)
    have h4' : mD σ p 5 = nI s := h4
    rw [h2, h4', nI_toInt (by omega), nI_toInt (by omega)]
    omega
  · rw [if_neg h]; omega
theorem duI_ok {σ : jM} (hok : mOK σ) (hd : dI (σ.1 323)) (hs : dSt (σ.1 323)) : okD (duI σ) := by
  have e10 : sI (duI σ) 10 = sI (duP σ) 10 := sI_congr 10 (fun j hj => by unfold duI; rw [if_pos hj])
  have b10 := sI_bd (f := duP σ) (B := 200000) 10 (fun i _ => duP_bd hok hd hs i)
  refine ⟨?_, fun i hi => ?_⟩
  · show sI (duI σ) 10 + duI σ 10 = 0
    rw [e10]
    unfold duI
    rw [if_neg (by omega)]
    omega
  · unfold duI
    by_cases h : i < 10
    · rw [if_pos h]
      have := duP_bd hok hd hs i
      omega
    · rw [if_neg h]
      omega
def trS (σ : jM) : List trT := trL 11 (duI σ)
def aTf (a j : Nat) : Bool := a == 335 || a == 338 || a == 342 || a == 341 || a == 343 || a == 344 || a == 345 || a == 322 && j == 30
theorem sc_Tf (a j : Nat) (h : aSc a j = false) : aTf a j = false := by
  unfold aSc at h
  unfold aTf
  rw [jble, jble] at h
  simp only [Bool.or_eq_false_iff, Bool.and_eq_false_iff, decide_eq_false_iff_not, beq_eq_false_iff_ne] at h ⊢
  omega
def trOK (τ : jM) (t : Nat) (L : List trT) : Prop := τ.1 322 30 = nI (t + L.length) ∧ ∀ i, i < L.length → τ.1 343 (t + i) = nI (L.getD i (0, 0, 0)).1 ∧ τ.1 344 (t + i) = nI (L.getD i (0, 0, 0)).2.1 ∧ τ.1 345 (t + i) = iI (L.getD i (0, 0, 0)).2.2
def oX12_layTransfers : jO := joR fun a σ => (a = 322 ∧ mOK σ ∧ dI (σ.1 323) ∧ dSt (σ.1 323), fun v τ => v = none ∧ jfr aTf bSc σ τ ∧ (∀ p, p < mN σ → τ.1 342 p = tgS σ p) ∧ trOK τ 0 (trS σ))
set_option maxRecDepth 100000 in
set_option maxHeartbeats 4000000 in
theorem CTf_max (g : jG) (n : Nat) {post : Option Value → jM → Prop} {τ : jM} {d : Nat → Int} (hd : okD d) (h : ∀ i, i < 11 → τ.1 341 i = iI (d i))
    (k : jW g mX12_layTransfers (n + 4) post 164 [(0, .ref 322), (1, .int 1), (2, .int (nI (tP d 10))), (3, .int (nI (tG d 10)))] [] τ) : jW g mX12_layTransfers (n + 4) post 105 [(0, .ref 322), (1, .int 1), (2, .int 0), (3, .int 0), (4, .int 1)] [] τ := by
  have key := jloop (P := fun k => jW g mX12_layTransfers (n + 4) post 105 [(0, .ref 322), (1, .int 1), (2, .int (nI (tP d k))), (3, .int (nI (tG d k))), (4, .int (nI (k + 1)))] [] τ) (N := 10) (by
    have c1 : ¬ nI (10 + 1) ≤ 10 := by decide
    refine jvk_ok TX12_layTransfers (V := [(244, 1, 12, oX12_layTargets), (128, 3, 12, oX12_of)]) (S := []) (List.forall_mem_cons.mpr ⟨⟨mX12_layTargets, n + 3, 0, TX12, 53, rfl, by omega, kX12_244, WX12_layTargets, rfl, CX12_layTargets g (n)⟩, (List.forall_mem_cons.mpr ⟨⟨mX12_of, n + 1, 2, TX12, 53, rfl, by omega, kX12_128, WX12_of, rfl, CX12_of g (n)⟩, (fun _ h => absurd h List.not_mem_nil)⟩)⟩) (fun _ h => absurd h List.not_mem_nil) [105, 164] 20 _ _ _ _ ?_
    simp (maxSteps := 1000000) [↓Bool.cond_eq_ite, -Prod.forall, -Prod.exists, -Prod.mk.injEq, jvk, tX12_layTransfers, jtb, jol, jst, jlk, jcmp, jbin, jfl, fX12, jc2, lX12, jcat, jel, lv_args, Value.category, jins, jsrt, jins2, jble, jblt, jf3, List.filter_cons, List.filter_nil, G_m, oX12_layTargets, oX12_of, joR, joRII, -Int32.not_le, -Int32.not_lt, -Int64.not_le, -Int64.not_lt, i3lt, i6lt, c1]
    try simp (disch := omega) [-Prod.forall, -Prod.exists, -Prod.mk.injEq, -Int32.not_le, -Int32.not_lt, -Int64.not_le, -Int64.not_lt, i3lt, i6lt, c1]
    exact jW.mono k (by simp)) (fun k hk ih => by
    have c1 : nI (k + 1) ≤ 10 := nI_le (b := 10) (by omega) (by decide)
    obtain ⟨p1, -⟩ := tP_ok d k
    obtain ⟨g1, -⟩ := tG_ok d k
    have j1 : jin (nI (k + 1)) 11 := jin_nI (by omega) (by decide)
    have j2 : jin (nI (tP d k)) 11 := jin_nI (by omega) (by decide)
    have j3 : jin (nI (tG d k)) 11 := jin_nI (by omega) (by decide)
    have x1 : (nI (k + 1)).toNatClampNeg = k + 1 := nI_clamp (by omega)
    have x2 : (nI (tP d k)).toNatClampNeg = tP d k := nI_clamp (by omega)
    have x3 : (nI (tG d k)).toNatClampNeg = tG d k := nI_clamp (by omega)
    have y1 := h (k + 1) (by omega)
    have y2 := h (tP d k) (by omega)
    have y3 := h (tG d k) (by omega)
    have b1 := hd.2 (k + 1) (by omega)
    have b2 := hd.2 (tP d k) (by omega)
    have b3 := hd.2 (tG d k) (by omega)
    have q1 : iI (d (k + 1)) ≤ iI (d (tP d k)) ↔ ¬ d (tP d k) < d (k + 1) := by
      rw [iI_le ⟨by omega, by omega⟩ ⟨by omega, by omega⟩]; omega
    have q2 : iI (d (tG d k)) ≤ iI (d (k + 1)) ↔ ¬ d (k + 1) < d (tG d k) := by
      rw [iI_le ⟨by omega, by omega⟩ ⟨by omega, by omega⟩]; omega
    simp only [tP, tG] at ih
    by_cases d1 : d (tP d k) < d (k + 1)
    · rw [if_pos d1] at ih
      by_cases d2 : d (k + 1) < d (tG d k)
      · rw [if_pos d2] at ih
        refine jvk_ok TX12_layTransfers (V := [(244, 1, 12, oX12_layTargets), (128, 3, 12, oX12_of)]) (S := []) (List.forall_mem_cons.mpr ⟨⟨mX12_layTargets, n + 3, 0, TX12, 53, rfl, by omega, kX12_244, WX12_layTargets, rfl, CX12_layTargets g (n)⟩, (List.forall_mem_cons.mpr ⟨⟨mX12_of, n + 1, 2, TX12, 53, rfl, by omega, kX12_128, WX12_of, rfl, CX12_of g (n)⟩, (fun _ h => absurd h List.not_mem_nil)⟩)⟩) (fun _ h => absurd h List.not_mem_nil) [105, 164] 40 _ _ _ _ ?_
        simp (maxSteps := 1000000) [↓Bool.cond_eq_ite, -Prod.forall, -Prod.exists, -Prod.mk.injEq, jvk, tX12_layTransfers, jtb, jol, jst, jlk, jcmp, jbin, jfl, fX12, jc2, lX12, jcat, jel, lv_args, Value.category, jins, jsrt, jins2, jble, jblt, jf3, List.filter_cons, List.filter_nil, G_m, oX12_layTargets, oX12_of, joR, joRII, -Int32.not_le, -Int32.not_lt, -Int64.not_le, -Int64.not_lt, i3lt, i6lt, c1, j1, j2, j3, x1, x2, x3, y1, y2, y3, q1, q2, d1, d2, nI_1]
        try simp (disch := omega) [-Prod.forall, -Prod.exists, -Prod.mk.injEq, -Int32.not_le, -Int32.not_lt, -Int64.not_le, -Int64.not_lt, i3lt, i6lt, c1, j1, j2, j3, x1, x2, x3, y1, y2, y3, q1, q2, d1, d2, nI_1]
        exact ih
      · rw [if_neg d2] at ih
        refine jvk_ok TX12_layTransfers (V := [(244, 1, 12, oX12_layTargets), (128, 3, 12, oX12_of)]) (S := []) (List.forall_mem_cons.mpr ⟨⟨mX12_layTargets, n + 3, 0, TX12, 53, rfl, by omega, kX12_244, WX12_layTargets, rfl, CX12_layTargets g (n)⟩, (List.forall_mem_cons.mpr ⟨⟨mX12_of, n + 1, 2, TX12, 53, rfl, by omega, kX12_128, WX12_of, rfl, CX12_of g (n)⟩, (fun _ h => absurd h List.not_mem_nil)⟩)⟩) (fun _ h => absurd h List.not_mem_nil) [105, 164] 40 _ _ _ _ ?_
        simp (maxSteps := 1000000) [↓Bool.cond_eq_ite, -Prod.forall, -Prod.exists, -Prod.mk.injEq, jvk, tX12_layTransfers, jtb, jol, jst, jlk, jcmp, jbin, jfl, fX12, jc2, lX12, jcat, jel, lv_args, Value.category, jins, jsrt, jins2, jble, jblt, jf3, List.filter_cons, List.filter_nil, G_m, oX12_layTargets, oX12_of, joR, joRII, -Int32.not_le, -Int32.not_lt, -Int64.not_le, -Int64.not_lt, i3lt, i6lt, c1, j1, j2, j3, x1, x2, x3, y1, y2, y3, q1, q2, d1, d2, nI_1]
        try simp (disch := omega) [-Prod.forall, -Prod.exists, -Prod.mk.injEq, -Int32.not_le, -Int32.not_lt, -Int64.not_le, -Int64.not_lt, i3lt, i6lt, c1, j1, j2, j3, x1, x2, x3, y1, y2, y3, q1, q2, d1, d2, nI_1]
        exact ih
    · rw [if_neg d1] at ih
      by_cases d2 : d (k + 1) < d (tG d k)
      · rw [if_pos d2] at ih
        refine jvk_ok TX12_layTransfers (V := [(244, 1, 12, oX12_layTargets), (128, 3, 12, oX12_of)]) (S := []) (List.forall_mem_cons.mpr ⟨⟨mX12_layTargets, n + 3, 0, TX12, 53, rfl, by omega, kX12_244, WX12_layTargets, rfl, CX12_layTargets g (n)⟩, (List.forall_mem_cons.mpr ⟨⟨mX12_of, n + 1, 2, TX12, 53, rfl, by omega, kX12_128, WX12_of, rfl, CX12_of g (n)⟩, (fun _ h => absurd h List.not_mem_nil)⟩)⟩) (fun _ h => absurd h List.not_mem_nil) [105, 164] 40 _ _ _ _ ?_
        simp (maxSteps := 1000000) [↓Bool.cond_eq_ite, -Prod.forall, -Prod.exists, -Prod.mk.injEq, jvk, tX12_layTransfers, jtb, jol, jst, jlk, jcmp, jbin, jfl, fX12, jc2, lX12, jcat, jel, lv_args, Value.category, jins, jsrt, jins2, jble, jblt, jf3, List.filter_cons, List.filter_nil, G_m, oX12_layTargets, oX12_of, joR, joRII, -Int32.not_le, -Int32.not_lt, -Int64.not_le, -Int64.not_lt, i3lt, i6lt, c1, j1, j2, j3, x1, x2, x3, y1, y2, y3, q1, q2, d1, d2, nI_1]
        try simp (disch := omega) [-Prod.forall, -Prod.exists, -Prod.mk.injEq, -Int32.not_le, -Int32.not_lt, -Int64.not_le, -Int64.not_lt, i3lt, i6lt, c1, j1, j2, j3, x1, x2, x3, y1, y2, y3, q1, q2, d1, d2, nI_1]
        exact ih
      · rw [if_neg d2] at ih
        refine jvk_ok TX12_layTransfers (V := [(244, 1, 12, oX12_layTargets), (128, 3, 12, oX12_of)]) (S := []) (List.forall_mem_cons.mpr ⟨⟨mX12_layTargets, n + 3, 0, TX12, 53, rfl, by omega, kX12_244, WX12_layTargets, rfl, CX12_layTargets g (n)⟩, (List.forall_mem_cons.mpr ⟨⟨mX12_of, n + 1, 2, TX12, 53, rfl, by omega, kX12_128, WX12_of, rfl, CX12_of g (n)⟩, (fun _ h => absurd h List.not_mem_nil)⟩)⟩) (fun _ h => absurd h List.not_mem_nil) [105, 164] 40 _ _ _ _ ?_
        simp (maxSteps := 1000000) [↓Bool.cond_eq_ite, -Prod.forall, -Prod.exists, -Prod.mk.injEq, jvk, tX12_layTransfers, jtb, jol, jst, jlk, jcmp, jbin, jfl, fX12, jc2, lX12, jcat, jel, lv_args, Value.category, jins, jsrt, jins2, jble, jblt, jf3, List.filter_cons, List.filter_nil, G_m, oX12_layTargets, oX12_of, joR, joRII, -Int32.not_le, -Int32.not_lt, -Int64.not_le, -Int64.not_lt, i3lt, i6lt, c1, j1, j2, j3, x1, x2, x3, y1, y2, y3, q1, q2, d1, d2, nI_1]
        try simp (disch := omega) [-Prod.forall, -Prod.exists, -Prod.mk.injEq, -Int32.not_le, -Int32.not_lt, -Int64.not_le, -Int64.not_lt, i3lt, i6lt, c1, j1, j2, j3, x1, x2, x3, y1, y2, y3, q1, q2, d1, d2, nI_1]
        exact ih)
  have e1 : nI (0 + 1) = 1 := rfl
  have e2 : nI (tP d 0) = 0 := nI_0
  have e3 : nI (tG d 0) = 0 := nI_0
  rw [e1, e2, e3] at key
  exact key
set_option maxRecDepth 100000 in
set_option maxHeartbeats 4000000 in
theorem CTf_loop (g : jG) (n : Nat) {post : Option Value → jM → Prop} {σ : jM} : ∀ (f t : Nat) (d : Nat → Int) (τ : jM), okD d → nz d ≤ f → t + f ≤ 11 → jfr aTf bSc σ τ → τ.1 322 30 = nI t → (∀ i, i < 11 → τ.1 341 i = iI (d i)) →
    (∀ τ', jfr aTf bSc σ τ' → (∀ a j, (a = 342 ∨ (a = 343 ∨ a = 344 ∨ a = 345) ∧ j < t) → τ'.1 a j = τ.1 a j) → trOK τ' t (trL f d) → post none τ') → jW g mX12_layTransfers (n + 4) post 94 [(0, .ref 322), (1, .int 1)] [] τ := by
  intro f
  induction f with
  | zero =>
    intro t d τ hd hz ht hf h30 h341 k
    have hn : ¬ 0 < d (tP d 10) := fun z => by have := nz_two hd z; omega
    obtain ⟨p1, -⟩ := tP_ok d 10
    obtain ⟨g1, -⟩ := tG_ok d 10
    have b2 := hd.2 (tP d 10) (by omega)
    have j2 : jin (nI (tP d 10)) 11 := jin_nI (by omega) (by decide)
    have x2 : (nI (tP d 10)).toNatClampNeg = tP d 10 := nI_clamp (by omega)
    have y2 := h341 (tP d 10) (by omega)
    have q1 : iI (d (tP d 10)) ≤ 0 := (iI_le (y := 0) ⟨by omega, by omega⟩ (by decide)).mpr (by omega)
    have kk := k τ hf (fun _ _ _ => rfl) ⟨by rw [h30]; rfl, fun i hi => by simp [trL] at hi⟩
    refine jvk_ok TX12_layTransfers (V := [(244, 1, 12, oX12_layTargets), (128, 3, 12, oX12_of)]) (S := []) (List.forall_mem_cons.mpr ⟨⟨mX12_layTargets, n + 3, 0, TX12, 53, rfl, by omega, kX12_244, WX12_layTargets, rfl, CX12_layTargets g (n)⟩, (List.forall_mem_cons.mpr ⟨⟨mX12_of, n + 1, 2, TX12, 53, rfl, by omega, kX12_128, WX12_of, rfl, CX12_of g (n)⟩, (fun _ h => absurd h List.not_mem_nil)⟩)⟩) (fun _ h => absurd h List.not_mem_nil) [94, 105] 20 _ _ _ _ ?_
    simp (maxSteps := 1000000) [↓Bool.cond_eq_ite, -Prod.forall, -Prod.exists, -Prod.mk.injEq, jvk, tX12_layTransfers, jtb, jol, jst, jlk, jcmp, jbin, jfl, fX12, jc2, lX12, jcat, jel, lv_args, Value.category, jins, jsrt, jins2, jble, jblt, jf3, List.filter_cons, List.filter_nil, G_m, oX12_layTargets, oX12_of, joR, joRII, -Int32.not_le, -Int32.not_lt, -Int64.not_le, -Int64.not_lt, i3lt, i6lt]
    try simp (disch := omega) [-Prod.forall, -Prod.exists, -Prod.mk.injEq, -Int32.not_le, -Int32.not_lt, -Int64.not_le, -Int64.not_lt, i3lt, i6lt]
    refine CTf_max g n hd h341 ?_
    refine jvk_ok TX12_layTransfers (V := [(244, 1, 12, oX12_layTargets), (128, 3, 12, oX12_of)]) (S := []) (List.forall_mem_cons.mpr ⟨⟨mX12_layTargets, n + 3, 0, TX12, 53, rfl, by omega, kX12_244, WX12_layTargets, rfl, CX12_layTargets g (n)⟩, (List.forall_mem_cons.mpr ⟨⟨mX12_of, n + 1, 2, TX12, 53, rfl, by omega, kX12_128, WX12_of, rfl, CX12_of g (n)⟩, (fun _ h => absurd h List.not_mem_nil)⟩)⟩) (fun _ h => absurd h List.not_mem_nil) [94] 30 _ _ _ _ ?_
    simp (maxSteps := 1000000) [↓Bool.cond_eq_ite, -Prod.forall, -Prod.exists, -Prod.mk.injEq, jvk, tX12_layTransfers, jtb, jol, jst, jlk, jcmp, jbin, jfl, fX12, jc2, lX12, jcat, jel, lv_args, Value.category, jins, jsrt, jins2, jble, jblt, jf3, List.filter_cons, List.filter_nil, G_m, oX12_layTargets, oX12_of, joR, joRII, -Int32.not_le, -Int32.not_lt, -Int64.not_le, -Int64.not_lt, i3lt, i6lt, j2, x2, y2, q1]
    try simp (disch := omega) [-Prod.forall, -Prod.exists, -Prod.mk.injEq, -Int32.not_le, -Int32.not_lt, -Int64.not_le, -Int64.not_lt, i3lt, i6lt, j2, x2, y2, q1]
    refine jvk_ok TX12_layTransfers (V := [(244, 1, 12, oX12_layTargets), (128, 3, 12, oX12_of)]) (S := []) (List.forall_mem_cons.mpr ⟨⟨mX12_layTargets, n + 3, 0, TX12, 53, rfl, by omega, kX12_244, WX12_layTargets, rfl, CX12_layTargets g (n)⟩, (List.forall_mem_cons.mpr ⟨⟨mX12_of, n + 1, 2, TX12, 53, rfl, by omega, kX12_128, WX12_of, rfl, CX12_of g (n)⟩, (fun _ h => absurd h List.not_mem_nil)⟩)⟩) (fun _ h => absurd h List.not_mem_nil) [] 30 _ _ _ _ ?_
    simp (maxSteps := 1000000) [↓Bool.cond_eq_ite, -Prod.forall, -Prod.exists, -Prod.mk.injEq, jvk, tX12_layTransfers, jtb, jol, jst, jlk, jcmp, jbin, jfl, fX12, jc2, lX12, jcat, jel, lv_args, Value.category, jins, jsrt, jins2, jble, jblt, jf3, List.filter_cons, List.filter_nil, G_m, oX12_layTargets, oX12_of, joR, joRII, -Int32.not_le, -Int32.not_lt, -Int64.not_le, -Int64.not_lt, i3lt, i6lt]
    try simp (disch := omega) [-Prod.forall, -Prod.exists, -Prod.mk.injEq, -Int32.not_le, -Int32.not_lt, -Int64.not_le, -Int64.not_lt, i3lt, i6lt]
    exact kk
  | succ f ih =>
    intro t d τ hd hz ht hf h30 h341 k
    obtain ⟨p1, -⟩ := tP_ok d 10
    obtain ⟨g1, -⟩ := tG_ok d 10
    have b2 := hd.2 (tP d 10) (by omega)
    have b3 := hd.2 (tG d 10) (by omega)
    have j2 : jin (nI (tP d 10)) 11 := jin_nI (by omega) (by decide)
    have x2 : (nI (tP d 10)).toNatClampNeg = tP d 10 := nI_clamp (by omega)
    have y2 := h341 (tP d 10) (by omega)
    have j3 : jin (nI (tG d 10)) 11 := jin_nI (by omega) (by decide)
    have x3 : (nI (tG d 10)).toNatClampNeg = tG d 10 := nI_clamp (by omega)
    have y3 := h341 (tG d 10) (by omega)
    by_cases hn : 0 < d (tP d 10)
    · obtain ⟨a1, a2, a3, a4, a5, a6, a7, a8⟩ := tr_pg hd hn
      obtain ⟨s1, s2⟩ := tS_ok hd hn
      have a2s : ¬ tG d 10 = tP d 10 := fun z => a2 z.symm
      have q1 : ¬ iI (d (tP d 10)) ≤ 0 := fun z => by
        have := (iI_le (y := 0) ⟨by omega, by omega⟩ (by decide)).mp z
        omega
      have eneg : - iI (d (tG d 10)) = iI (- d (tG d 10)) := by
        rw [← Int32.zero_sub]
        have := iI_sub 0 (d (tG d 10))
        rw [show (0 : Int) - d (tG d 10) = - d (tG d 10) by omega] at this
        exact this
      have hlen : (trL (f + 1) d) = (tP d 10, tG d 10, tA d) :: trL f (tS d) := by simp only [trL]; rw [if_pos hn]
      have jt : jin (nI t) 24 := jin_nI (by omega) (by decide)
      have xt : (nI t).toNatClampNeg = t := nI_clamp (by omega)
      have esub : iI (d (tP d 10)) - iI (tA d) = iI (d (tP d 10) - tA d) := iI_sub _ _
      have eadd : iI (d (tG d 10)) + iI (tA d) = iI (d (tG d 10) + tA d) := iI_add _ _
      obtain ⟨ρ, eρ⟩ : ∃ ρ, ρ = jup (jup (jup (jup (jup (jup τ 343 t (nI (tP d 10))) 344 t (nI (tG d 10))) 345 t (iI (tA d))) 322 30 (nI (t + 1))) 341 (tP d 10) (iI (d (tP d 10) - tA d))) 341 (tG d 10) (iI (d (tG d 10) + tA d)) := ⟨_, rfl⟩
      have nxt : jW g mX12_layTransfers (n + 4) post 94 [(0, .ref 322), (1, .int 1)] [] ρ := by
        refine ih (t + 1) (tS d) ρ s1 (by omega) (by omega) ?_ ?_ (fun i hi => ?_) (fun τ' f' hs' ho => ?_)
        · rw [eρ]
          exact (((((hf.up _ rfl).up _ rfl).up _ rfl).up _ rfl).up _ rfl).up _ rfl
        · rw [eρ]; simp [jup_1]
        · rw [eρ]
          simp only [jup_1]
          unfold tS
          by_cases e1 : i = tG d 10
          · simp [e1]
          · by_cases e2 : i = tP d 10
            · subst e2
              simp [a2]
            · simp [e1, e2, h341 i hi]
        · refine k τ' f' (fun a j hj => ?_) ?_
          · have hj' : a = 342 ∨ (a = 343 ∨ a = 344 ∨ a = 345) ∧ j < t + 1 := by
              rcases hj with h | h
              · exact Or.inl h
              · exact Or.inr ⟨h.1, by omega⟩
            rw [hs' a j hj', eρ]
            simp only [jup_1]
            rw [if_neg (by omega), if_neg (by omega), if_neg (by omega), if_neg (by omega), if_neg (by omega), if_neg (by omega)]
          · obtain ⟨o1, o2⟩ := ho
            rw [hlen]
            refine ⟨?_, fun i hi => ?_⟩
            · rw [o1]
              congr 1
              simp only [List.length_cons]
              omega
            · rcases i with _ | i
              · rw [Nat.add_zero]
                have w1 := hs' 343 t (Or.inr ⟨Or.inl rfl, by omega⟩)
                have w2 := hs' 344 t (Or.inr ⟨Or.inr (Or.inl rfl), by omega⟩)
                have w3 := hs' 345 t (Or.inr ⟨Or.inr (Or.inr rfl), by omega⟩)
                rw [w1, w2, w3, eρ]
                simp [jup_1]
              · have := o2 i (by simpa using hi)
                rw [show t + (i + 1) = t + 1 + i by omega]
                simpa using this
      rw [eρ] at nxt
      refine jvk_ok TX12_layTransfers (V := [(244, 1, 12, oX12_layTargets), (128, 3, 12, oX12_of)]) (S := []) (List.forall_mem_cons.mpr ⟨⟨mX12_layTargets, n + 3, 0, TX12, 53, rfl, by omega, kX12_244, WX12_layTargets, rfl, CX12_layTargets g (n)⟩, (List.forall_mem_cons.mpr ⟨⟨mX12_of, n + 1, 2, TX12, 53, rfl, by omega, kX12_128, WX12_of, rfl, CX12_of g (n)⟩, (fun _ h => absurd h List.not_mem_nil)⟩)⟩) (fun _ h => absurd h List.not_mem_nil) [94, 105] 20 _ _ _ _ ?_
      simp (maxSteps := 1000000) [↓Bool.cond_eq_ite, -Prod.forall, -Prod.exists, -Prod.mk.injEq, jvk, tX12_layTransfers, jtb, jol, jst, jlk, jcmp, jbin, jfl, fX12, jc2, lX12, jcat, jel, lv_args, Value.category, jins, jsrt, jins2, jble, jblt, jf3, List.filter_cons, List.filter_nil, G_m, oX12_layTargets, oX12_of, joR, joRII, -Int32.not_le, -Int32.not_lt, -Int64.not_le, -Int64.not_lt, i3lt, i6lt]
      try simp (disch := omega) [-Prod.forall, -Prod.exists, -Prod.mk.injEq, -Int32.not_le, -Int32.not_lt, -Int64.not_le, -Int64.not_lt, i3lt, i6lt]
      refine CTf_max g n hd h341 ?_
      by_cases c : d (tP d 10) < - d (tG d 10)
      · have c1 : ¬ iI (- d (tG d 10)) ≤ iI (d (tP d 10)) := fun z => by
          have := (iI_le ⟨by omega, by omega⟩ ⟨by omega, by omega⟩).mp z
          omega
        have eA : iI (d (tP d 10)) = iI (tA d) := by unfold tA; rw [if_pos c]
        refine jvk_ok TX12_layTransfers (V := [(244, 1, 12, oX12_layTargets), (128, 3, 12, oX12_of)]) (S := []) (List.forall_mem_cons.mpr ⟨⟨mX12_layTargets, n + 3, 0, TX12, 53, rfl, by omega, kX12_244, WX12_layTargets, rfl, CX12_layTargets g (n)⟩, (List.forall_mem_cons.mpr ⟨⟨mX12_of, n + 1, 2, TX12, 53, rfl, by omega, kX12_128, WX12_of, rfl, CX12_of g (n)⟩, (fun _ h => absurd h List.not_mem_nil)⟩)⟩) (fun _ h => absurd h List.not_mem_nil) [94, 218] 30 _ _ _ _ ?_
        simp (maxSteps := 1000000) [↓Bool.cond_eq_ite, -Prod.forall, -Prod.exists, -Prod.mk.injEq, jvk, tX12_layTransfers, jtb, jol, jst, jlk, jcmp, jbin, jfl, fX12, jc2, lX12, jcat, jel, lv_args, Value.category, jins, jsrt, jins2, jble, jblt, jf3, List.filter_cons, List.filter_nil, G_m, oX12_layTargets, oX12_of, joR, joRII, -Int32.not_le, -Int32.not_lt, -Int64.not_le, -Int64.not_lt, i3lt, i6lt, j2, x2, y2, j3, x3, y3, q1, eneg, c1]
        try simp (disch := omega) [-Prod.forall, -Prod.exists, -Prod.mk.injEq, -Int32.not_le, -Int32.not_lt, -Int64.not_le, -Int64.not_lt, i3lt, i6lt, j2, x2, y2, j3, x3, y3, q1, eneg, c1]
        rw [eA]
        refine jvk_ok TX12_layTransfers (V := [(244, 1, 12, oX12_layTargets), (128, 3, 12, oX12_of)]) (S := []) (List.forall_mem_cons.mpr ⟨⟨mX12_layTargets, n + 3, 0, TX12, 53, rfl, by omega, kX12_244, WX12_layTargets, rfl, CX12_layTargets g (n)⟩, (List.forall_mem_cons.mpr ⟨⟨mX12_of, n + 1, 2, TX12, 53, rfl, by omega, kX12_128, WX12_of, rfl, CX12_of g (n)⟩, (fun _ h => absurd h List.not_mem_nil)⟩)⟩) (fun _ h => absurd h List.not_mem_nil) [94] 60 _ _ _ _ ?_
        simp (maxSteps := 1000000) [↓Bool.cond_eq_ite, -Prod.forall, -Prod.exists, -Prod.mk.injEq, jvk, tX12_layTransfers, jtb, jol, jst, jlk, jcmp, jbin, jfl, fX12, jc2, lX12, jcat, jel, lv_args, Value.category, jins, jsrt, jins2, jble, jblt, jf3, List.filter_cons, List.filter_nil, G_m, oX12_layTargets, oX12_of, joR, joRII, -Int32.not_le, -Int32.not_lt, -Int64.not_le, -Int64.not_lt, i3lt, i6lt, j2, x2, y2, j3, x3, y3, h30, jt, xt, esub, eadd, jup_1, a2s, nI_1]
        try simp (disch := omega) [-Prod.forall, -Prod.exists, -Prod.mk.injEq, -Int32.not_le, -Int32.not_lt, -Int64.not_le, -Int64.not_lt, i3lt, i6lt, j2, x2, y2, j3, x3, y3, h30, jt, xt, esub, eadd, jup_1, a2s, nI_1]
        exact jW.mono nxt (by simp)
      · have c1 : iI (- d (tG d 10)) ≤ iI (d (tP d 10)) := (iI_le ⟨by omega, by omega⟩ ⟨by omega, by omega⟩).mpr (by omega)
        have eA : iI (- d (tG d 10)) = iI (tA d) := by unfold tA; rw [if_neg c]
        refine jvk_ok TX12_layTransfers (V := [(244, 1, 12, oX12_layTargets), (128, 3, 12, oX12_of)]) (S := []) (List.forall_mem_cons.mpr ⟨⟨mX12_layTargets, n + 3, 0, TX12, 53, rfl, by omega, kX12_244, WX12_layTargets, rfl, CX12_layTargets g (n)⟩, (List.forall_mem_cons.mpr ⟨⟨mX12_of, n + 1, 2, TX12, 53, rfl, by omega, kX12_128, WX12_of, rfl, CX12_of g (n)⟩, (fun _ h => absurd h List.not_mem_nil)⟩)⟩) (fun _ h => absurd h List.not_mem_nil) [94, 218] 30 _ _ _ _ ?_
        simp (maxSteps := 1000000) [↓Bool.cond_eq_ite, -Prod.forall, -Prod.exists, -Prod.mk.injEq, jvk, tX12_layTransfers, jtb, jol, jst, jlk, jcmp, jbin, jfl, fX12, jc2, lX12, jcat, jel, lv_args, Value.category, jins, jsrt, jins2, jble, jblt, jf3, List.filter_cons, List.filter_nil, G_m, oX12_layTargets, oX12_of, joR, joRII, -Int32.not_le, -Int32.not_lt, -Int64.not_le, -Int64.not_lt, i3lt, i6lt, j2, x2, y2, j3, x3, y3, q1, eneg, c1]
        try simp (disch := omega) [-Prod.forall, -Prod.exists, -Prod.mk.injEq, -Int32.not_le, -Int32.not_lt, -Int64.not_le, -Int64.not_lt, i3lt, i6lt, j2, x2, y2, j3, x3, y3, q1, eneg, c1]
        rw [eA]
        refine jvk_ok TX12_layTransfers (V := [(244, 1, 12, oX12_layTargets), (128, 3, 12, oX12_of)]) (S := []) (List.forall_mem_cons.mpr ⟨⟨mX12_layTargets, n + 3, 0, TX12, 53, rfl, by omega, kX12_244, WX12_layTargets, rfl, CX12_layTargets g (n)⟩, (List.forall_mem_cons.mpr ⟨⟨mX12_of, n + 1, 2, TX12, 53, rfl, by omega, kX12_128, WX12_of, rfl, CX12_of g (n)⟩, (fun _ h => absurd h List.not_mem_nil)⟩)⟩) (fun _ h => absurd h List.not_mem_nil) [94] 60 _ _ _ _ ?_
        simp (maxSteps := 1000000) [↓Bool.cond_eq_ite, -Prod.forall, -Prod.exists, -Prod.mk.injEq, jvk, tX12_layTransfers, jtb, jol, jst, jlk, jcmp, jbin, jfl, fX12, jc2, lX12, jcat, jel, lv_args, Value.category, jins, jsrt, jins2, jble, jblt, jf3, List.filter_cons, List.filter_nil, G_m, oX12_layTargets, oX12_of, joR, joRII, -Int32.not_le, -Int32.not_lt, -Int64.not_le, -Int64.not_lt, i3lt, i6lt, j2, x2, y2, j3, x3, y3, h30, jt, xt, esub, eadd, jup_1, a2s, nI_1]
        try simp (disch := omega) [-Prod.forall, -Prod.exists, -Prod.mk.injEq, -Int32.not_le, -Int32.not_lt, -Int64.not_le, -Int64.not_lt, i3lt, i6lt, j2, x2, y2, j3, x3, y3, h30, jt, xt, esub, eadd, jup_1, a2s, nI_1]
        exact jW.mono nxt (by simp)
    · have q1 : iI (d (tP d 10)) ≤ 0 := (iI_le (y := 0) ⟨by omega, by omega⟩ (by decide)).mpr (by omega)
      have kk := k τ hf (fun _ _ _ => rfl) ⟨by rw [h30, trL_no hn]; rfl, fun i hi => by rw [trL_no hn] at hi; simp at hi⟩
      refine jvk_ok TX12_layTransfers (V := [(244, 1, 12, oX12_layTargets), (128, 3, 12, oX12_of)]) (S := []) (List.forall_mem_cons.mpr ⟨⟨mX12_layTargets, n + 3, 0, TX12, 53, rfl, by omega, kX12_244, WX12_layTargets, rfl, CX12_layTargets g (n)⟩, (List.forall_mem_cons.mpr ⟨⟨mX12_of, n + 1, 2, TX12, 53, rfl, by omega, kX12_128, WX12_of, rfl, CX12_of g (n)⟩, (fun _ h => absurd h List.not_mem_nil)⟩)⟩) (fun _ h => absurd h List.not_mem_nil) [94, 105] 20 _ _ _ _ ?_
      simp (maxSteps := 1000000) [↓Bool.cond_eq_ite, -Prod.forall, -Prod.exists, -Prod.mk.injEq, jvk, tX12_layTransfers, jtb, jol, jst, jlk, jcmp, jbin, jfl, fX12, jc2, lX12, jcat, jel, lv_args, Value.category, jins, jsrt, jins2, jble, jblt, jf3, List.filter_cons, List.filter_nil, G_m, oX12_layTargets, oX12_of, joR, joRII, -Int32.not_le, -Int32.not_lt, -Int64.not_le, -Int64.not_lt, i3lt, i6lt]
      try simp (disch := omega) [-Prod.forall, -Prod.exists, -Prod.mk.injEq, -Int32.not_le, -Int32.not_lt, -Int64.not_le, -Int64.not_lt, i3lt, i6lt]
      refine CTf_max g n hd h341 ?_
      refine jvk_ok TX12_layTransfers (V := [(244, 1, 12, oX12_layTargets), (128, 3, 12, oX12_of)]) (S := []) (List.forall_mem_cons.mpr ⟨⟨mX12_layTargets, n + 3, 0, TX12, 53, rfl, by omega, kX12_244, WX12_layTargets, rfl, CX12_layTargets g (n)⟩, (List.forall_mem_cons.mpr ⟨⟨mX12_of, n + 1, 2, TX12, 53, rfl, by omega, kX12_128, WX12_of, rfl, CX12_of g (n)⟩, (fun _ h => absurd h List.not_mem_nil)⟩)⟩) (fun _ h => absurd h List.not_mem_nil) [94] 30 _ _ _ _ ?_
      simp (maxSteps := 1000000) [↓Bool.cond_eq_ite, -Prod.forall, -Prod.exists, -Prod.mk.injEq, jvk, tX12_layTransfers, jtb, jol, jst, jlk, jcmp, jbin, jfl, fX12, jc2, lX12, jcat, jel, lv_args, Value.category, jins, jsrt, jins2, jble, jblt, jf3, List.filter_cons, List.filter_nil, G_m, oX12_layTargets, oX12_of, joR, joRII, -Int32.not_le, -Int32.not_lt, -Int64.not_le, -Int64.not_lt, i3lt, i6lt, j2, x2, y2, q1]
      try simp (disch := omega) [-Prod.forall, -Prod.exists, -Prod.mk.injEq, -Int32.not_le, -Int32.not_lt, -Int64.not_le, -Int64.not_lt, i3lt, i6lt, j2, x2, y2, q1]
      refine jvk_ok TX12_layTransfers (V := [(244, 1, 12, oX12_layTargets), (128, 3, 12, oX12_of)]) (S := []) (List.forall_mem_cons.mpr ⟨⟨mX12_layTargets, n + 3, 0, TX12, 53, rfl, by omega, kX12_244, WX12_layTargets, rfl, CX12_layTargets g (n)⟩, (List.forall_mem_cons.mpr ⟨⟨mX12_of, n + 1, 2, TX12, 53, rfl, by omega, kX12_128, WX12_of, rfl, CX12_of g (n)⟩, (fun _ h => absurd h List.not_mem_nil)⟩)⟩) (fun _ h => absurd h List.not_mem_nil) [] 30 _ _ _ _ ?_
      simp (maxSteps := 1000000) [↓Bool.cond_eq_ite, -Prod.forall, -Prod.exists, -Prod.mk.injEq, jvk, tX12_layTransfers, jtb, jol, jst, jlk, jcmp, jbin, jfl, fX12, jc2, lX12, jcat, jel, lv_args, Value.category, jins, jsrt, jins2, jble, jblt, jf3, List.filter_cons, List.filter_nil, G_m, oX12_layTargets, oX12_of, joR, joRII, -Int32.not_le, -Int32.not_lt, -Int64.not_le, -Int64.not_lt, i3lt, i6lt]
      try simp (disch := omega) [-Prod.forall, -Prod.exists, -Prod.mk.injEq, -Int32.not_le, -Int32.not_lt, -Int64.not_le, -Int64.not_lt, i3lt, i6lt]
      exact kk
set_option maxRecDepth 100000 in
set_option maxHeartbeats 4000000 in
theorem CX12_layTransfers (g : jG) (n : Nat) : jOk g (n + 4) mX12_layTransfers oX12_layTransfers := by
  refine joR_ok ?_
  rintro _ σ ⟨rfl, hok, hd, hst⟩
  obtain ⟨hN10, hN4⟩ := mN_le hok
  have hD := duI_ok hok hd hst
  refine jCon.ofP (by decide +kernel) (by simp [lg_sl, Value.category]) (fun post hp => ?_)
  refine jvk_ok TX12_layTransfers (V := [(244, 1, 12, oX12_layTargets), (128, 3, 12, oX12_of)]) (S := []) (List.forall_mem_cons.mpr ⟨⟨mX12_layTargets, n + 3, 0, TX12, 53, rfl, by omega, kX12_244, WX12_layTargets, rfl, CX12_layTargets g (n)⟩, (List.forall_mem_cons.mpr ⟨⟨mX12_of, n + 1, 2, TX12, 53, rfl, by omega, kX12_128, WX12_of, rfl, CX12_of g (n)⟩, (fun _ h => absurd h List.not_mem_nil)⟩)⟩) (fun _ h => absurd h List.not_mem_nil) [4] 20 _ _ _ _ ?_
  simp (maxSteps := 1000000) [↓Bool.cond_eq_ite, -Prod.forall, -Prod.exists, -Prod.mk.injEq, jvk, tX12_layTransfers, jtb, jol, jst, jlk, jcmp, jbin, jfl, fX12, jc2, lX12, jcat, jel, lv_args, Value.category, jins, jsrt, jins2, jble, jblt, jf3, List.filter_cons, List.filter_nil, G_m, oX12_layTargets, oX12_of, joR, joRII, -Int32.not_le, -Int32.not_lt, -Int64.not_le, -Int64.not_lt, i3lt, i6lt, hok, hd]
  try simp (disch := omega) [-Prod.forall, -Prod.exists, -Prod.mk.injEq, -Int32.not_le, -Int32.not_lt, -Int64.not_le, -Int64.not_lt, i3lt, i6lt, hok, hd]
  intro v0 τ0 hv0 f0 h0
  subst hv0
  have w0 : jfr aTf bSc σ τ0 := f0.weak (fun a j q => by simp only [aTf, Bool.or_eq_false_iff] at q; simp only [aTg, q, Bool.or_false]) (fun _ q => q)
  have key := jloop (P := fun k => ∀ τ : jM, jfr aTf bSc σ τ → (∀ p, p < mN σ → τ.1 342 p = tgS σ p) → (∀ p, p < k → τ.1 341 p = iI (duP σ p)) → τ.1 341 10 = iI (- sI (duP σ) k) → jW g mX12_layTransfers (n + 4) post 14 [(0, .ref 322), (1, .int (nI k))] [] τ) (N := mN σ) (fun τ f h342 h341 h10 => by
    have e4 : τ.1 322 4 = nI (mN σ) := (f.2.2 322 4 rfl).trans hN4
    have hle : nI (mN σ) ≤ nI (mN σ) := nI_le (Nat.le_refl _) (by omega)
    have key2 := jloopF (P := fun k => ∀ τ : jM, jfr aTf bSc σ τ → (∀ p, p < mN σ → τ.1 342 p = tgS σ p) → (∀ p, p < k → τ.1 341 p = iI (duP σ p)) → τ.1 341 10 = iI (- sI (duP σ) k) → jW g mX12_layTransfers (n + 4) post 68 [(0, .ref 322), (1, .int (nI k))] [] τ) (N := 10) (i := mN σ) hN10 (fun τ f h342 h341 h10 => by
      have c1 : (10 : Int32) ≤ nI 10 := by decide
      refine jvk_ok TX12_layTransfers (V := [(244, 1, 12, oX12_layTargets), (128, 3, 12, oX12_of)]) (S := []) (List.forall_mem_cons.mpr ⟨⟨mX12_layTargets, n + 3, 0, TX12, 53, rfl, by omega, kX12_244, WX12_layTargets, rfl, CX12_layTargets g (n)⟩, (List.forall_mem_cons.mpr ⟨⟨mX12_of, n + 1, 2, TX12, 53, rfl, by omega, kX12_128, WX12_of, rfl, CX12_of g (n)⟩, (fun _ h => absurd h List.not_mem_nil)⟩)⟩) (fun _ h => absurd h List.not_mem_nil) [68, 94] 20 _ _ _ _ ?_
      simp (maxSteps := 1000000) [↓Bool.cond_eq_ite, -Prod.forall, -Prod.exists, -Prod.mk.injEq, jvk, tX12_layTransfers, jtb, jol, jst, jlk, jcmp, jbin, jfl, fX12, jc2, lX12, jcat, jel, lv_args, Value.category, jins, jsrt, jins2, jble, jblt, jf3, List.filter_cons, List.filter_nil, G_m, oX12_layTargets, oX12_of, joR, joRII, -Int32.not_le, -Int32.not_lt, -Int64.not_le, -Int64.not_lt, i3lt, i6lt, c1]
      try simp (disch := omega) [-Prod.forall, -Prod.exists, -Prod.mk.injEq, -Int32.not_le, -Int32.not_lt, -Int64.not_le, -Int64.not_lt, i3lt, i6lt, c1]
      refine jW.mono (CTf_loop g n (σ := σ) 11 0 (duI σ) _ hD (cn_le _ _) (by omega) (f.up _ rfl) (by simp [jup_1, nI_0]) (fun i hi => ?_) (fun τ' f' hs' ho => hp _ _ ⟨rfl, f', fun p hp => ?_, ho⟩)) (by simp)
      · rw [jup_1, if_neg (by omega)]
        unfold duI
        by_cases e : i < 10
        · rw [if_pos e]; exact h341 i e
        · rw [if_neg e, show i = 10 by omega]; exact h10
      · rw [hs' 342 p (Or.inl rfl), jup_1, if_neg (by omega)]
        exact h342 p hp) (fun k h1 h2 ih τ f h342 h341 h10 => by
      have c1 : ¬ (10 : Int32) ≤ nI k := nI_ge (b := 10) h2 (by decide)
      have hk1 : jin (nI k) 11 := jin_nI (by omega) (by decide)
      have eck : (nI k).toNatClampNeg = k := nI_clamp (by omega)
      have ez : duP σ k = 0 := by unfold duP; rw [if_neg (by omega)]
      have k1 := ih (jup τ 341 k 0) (f.up _ rfl) (fun p hp => by rw [jup_1, if_neg (by omega)]; exact h342 p hp) (fun p hp => by
        rw [jup_1]
        by_cases e : p = k
        · subst e
          rw [if_pos ⟨rfl, rfl⟩, ez]; rfl
        · rw [if_neg (by simp [e])]
          exact h341 p (by omega)) (by
        rw [jup_1, if_neg (by omega), h10]
        simp only [sI]
        rw [ez]
        simp)
      refine jvk_ok TX12_layTransfers (V := [(244, 1, 12, oX12_layTargets), (128, 3, 12, oX12_of)]) (S := []) (List.forall_mem_cons.mpr ⟨⟨mX12_layTargets, n + 3, 0, TX12, 53, rfl, by omega, kX12_244, WX12_layTargets, rfl, CX12_layTargets g (n)⟩, (List.forall_mem_cons.mpr ⟨⟨mX12_of, n + 1, 2, TX12, 53, rfl, by omega, kX12_128, WX12_of, rfl, CX12_of g (n)⟩, (fun _ h => absurd h List.not_mem_nil)⟩)⟩) (fun _ h => absurd h List.not_mem_nil) [68, 94] 20 _ _ _ _ ?_
      simp (maxSteps := 1000000) [↓Bool.cond_eq_ite, -Prod.forall, -Prod.exists, -Prod.mk.injEq, jvk, tX12_layTransfers, jtb, jol, jst, jlk, jcmp, jbin, jfl, fX12, jc2, lX12, jcat, jel, lv_args, Value.category, jins, jsrt, jins2, jble, jblt, jf3, List.filter_cons, List.filter_nil, G_m, oX12_layTargets, oX12_of, joR, joRII, -Int32.not_le, -Int32.not_lt, -Int64.not_le, -Int64.not_lt, i3lt, i6lt, c1, hk1, eck, nI_1]
      try simp (disch := omega) [-Prod.forall, -Prod.exists, -Prod.mk.injEq, -Int32.not_le, -Int32.not_lt, -Int64.not_le, -Int64.not_lt, i3lt, i6lt, c1, hk1, eck, nI_1]
      exact k1)
    have k0 := key2 τ f h342 h341 h10
    refine jvk_ok TX12_layTransfers (V := [(244, 1, 12, oX12_layTargets), (128, 3, 12, oX12_of)]) (S := []) (List.forall_mem_cons.mpr ⟨⟨mX12_layTargets, n + 3, 0, TX12, 53, rfl, by omega, kX12_244, WX12_layTargets, rfl, CX12_layTargets g (n)⟩, (List.forall_mem_cons.mpr ⟨⟨mX12_of, n + 1, 2, TX12, 53, rfl, by omega, kX12_128, WX12_of, rfl, CX12_of g (n)⟩, (fun _ h => absurd h List.not_mem_nil)⟩)⟩) (fun _ h => absurd h List.not_mem_nil) [14, 68] 20 _ _ _ _ ?_
    simp (maxSteps := 1000000) [↓Bool.cond_eq_ite, -Prod.forall, -Prod.exists, -Prod.mk.injEq, jvk, tX12_layTransfers, jtb, jol, jst, jlk, jcmp, jbin, jfl, fX12, jc2, lX12, jcat, jel, lv_args, Value.category, jins, jsrt, jins2, jble, jblt, jf3, List.filter_cons, List.filter_nil, G_m, oX12_layTargets, oX12_of, joR, joRII, -Int32.not_le, -Int32.not_lt, -Int64.not_le, -Int64.not_lt, i3lt, i6lt, e4, hle]
    try simp (disch := omega) [-Prod.forall, -Prod.exists, -Prod.mk.injEq, -Int32.not_le, -Int32.not_lt, -Int64.not_le, -Int64.not_lt, i3lt, i6lt, e4, hle]
    exact k0) (fun k hk ih τ f h342 h341 h10 => by
    have e4 : τ.1 322 4 = nI (mN σ) := (f.2.2 322 4 rfl).trans hN4
    have hlt : ¬ nI (mN σ) ≤ nI k := nI_ge hk (by omega)
    have hk1 : jin (nI k) 11 := jin_nI (by omega) (by decide)
    have hk2 : jin (nI k) 10 := jin_nI (by omega) (by decide)
    have eck : (nI k).toNatClampNeg = k := nI_clamp (by omega)
    have e323 : τ.1 323 = σ.1 323 := funext fun j => f.2.2 323 j rfl
    have emD : mD τ k 5 = mD σ k 5 := by unfold mD; rw [e323]
    have e342 := h342 k hk
    have eD : tgS σ k - mD σ k 5 = iI (duP σ k) := by
      unfold duP
      rw [if_pos hk, ← iI_sub, iI_of, iI_of]
    have e10' : iI (- sI (duP σ) k) - iI (duP σ k) = iI (- sI (duP σ) (k + 1)) := by
      rw [iI_sub]
      congr 1
      simp only [sI]
      omega
    have n10 : ¬ 10 = k := by omega
    have nk : ¬ k = 10 := by omega
    have j10 : jin 10 11 := by unfold jin; decide
    have k1 := ih (jup (jup τ 341 k (iI (duP σ k))) 341 10 (iI (- sI (duP σ) (k + 1)))) ((f.up _ rfl).up _ rfl) (fun p hp => by rw [jup_1, if_neg (by omega), jup_1, if_neg (by omega)]; exact h342 p hp) (fun p hp => by
      rw [jup_1, if_neg (by omega), jup_1]
      by_cases e : p = k
      · subst e
        rw [if_pos ⟨rfl, rfl⟩]
      · rw [if_neg (by simp [e])]
        exact h341 p (by omega)) (by rw [jup_1, if_pos ⟨rfl, rfl⟩])
    refine jvk_ok TX12_layTransfers (V := [(244, 1, 12, oX12_layTargets), (128, 3, 12, oX12_of)]) (S := []) (List.forall_mem_cons.mpr ⟨⟨mX12_layTargets, n + 3, 0, TX12, 53, rfl, by omega, kX12_244, WX12_layTargets, rfl, CX12_layTargets g (n)⟩, (List.forall_mem_cons.mpr ⟨⟨mX12_of, n + 1, 2, TX12, 53, rfl, by omega, kX12_128, WX12_of, rfl, CX12_of g (n)⟩, (fun _ h => absurd h List.not_mem_nil)⟩)⟩) (fun _ h => absurd h List.not_mem_nil) [14, 68] 40 _ _ _ _ ?_
    simp (maxSteps := 1000000) [↓Bool.cond_eq_ite, -Prod.forall, -Prod.exists, -Prod.mk.injEq, jvk, tX12_layTransfers, jtb, jol, jst, jlk, jcmp, jbin, jfl, fX12, jc2, lX12, jcat, jel, lv_args, Value.category, jins, jsrt, jins2, jble, jblt, jf3, List.filter_cons, List.filter_nil, G_m, oX12_layTargets, oX12_of, joR, joRII, -Int32.not_le, -Int32.not_lt, -Int64.not_le, -Int64.not_lt, i3lt, i6lt, e4, hlt, hk1, hk2, eck, e342, emD, eD, h10, e10', n10, nk, j10, jup_1, jin_c, tn_c, nI_1]
    try simp (disch := omega) [-Prod.forall, -Prod.exists, -Prod.mk.injEq, -Int32.not_le, -Int32.not_lt, -Int64.not_le, -Int64.not_lt, i3lt, i6lt, e4, hlt, hk1, hk2, eck, e342, emD, eD, h10, e10', n10, nk, j10, jup_1, jin_c, tn_c, nI_1]
    exact k1)
  have k0 := key (jup τ0 341 10 0) (w0.up _ rfl) (fun p hp => by rw [jup_1, if_neg (by omega)]; exact h0 p hp) (fun p hp => by omega) (by rw [jup_1, if_pos ⟨rfl, rfl⟩]; rfl)
  rw [nI_0] at k0
  have j10 : jin 10 11 := by unfold jin; decide
  refine jvk_ok TX12_layTransfers (V := [(244, 1, 12, oX12_layTargets), (128, 3, 12, oX12_of)]) (S := []) (List.forall_mem_cons.mpr ⟨⟨mX12_layTargets, n + 3, 0, TX12, 53, rfl, by omega, kX12_244, WX12_layTargets, rfl, CX12_layTargets g (n)⟩, (List.forall_mem_cons.mpr ⟨⟨mX12_of, n + 1, 2, TX12, 53, rfl, by omega, kX12_128, WX12_of, rfl, CX12_of g (n)⟩, (fun _ h => absurd h List.not_mem_nil)⟩)⟩) (fun _ h => absurd h List.not_mem_nil) [14] 20 _ _ _ _ ?_
  simp (maxSteps := 1000000) [↓Bool.cond_eq_ite, -Prod.forall, -Prod.exists, -Prod.mk.injEq, jvk, tX12_layTransfers, jtb, jol, jst, jlk, jcmp, jbin, jfl, fX12, jc2, lX12, jcat, jel, lv_args, Value.category, jins, jsrt, jins2, jble, jblt, jf3, List.filter_cons, List.filter_nil, G_m, oX12_layTargets, oX12_of, joR, joRII, -Int32.not_le, -Int32.not_lt, -Int64.not_le, -Int64.not_lt, i3lt, i6lt, j10, tn_c]
  try simp (disch := omega) [-Prod.forall, -Prod.exists, -Prod.mk.injEq, -Int32.not_le, -Int32.not_lt, -Int64.not_le, -Int64.not_lt, i3lt, i6lt, j10, tn_c]
  exact k0
