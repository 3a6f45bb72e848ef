/-! the reference: tokens -/
def tB (σ : jM) : Nat → Int32 := σ.1 346
def tL (σ : jM) : Nat := (σ.1 322 34).toNatClampNeg
def tE (σ : jM) : Nat := (σ.1 322 35).toNatClampNeg
def rT (σ : jM) : Prop := (0 ≤ σ.1 322 34 ∧ σ.1 322 34 ≤ 900) ∧ (0 ≤ σ.1 322 35 ∧ σ.1 322 35 ≤ 900) ∧ tE σ ≤ tL σ ∧ ∀ j, j < 900 → -128 ≤ σ.1 346 j ∧ σ.1 346 j ≤ 127
theorem rT_n {σ : jM} (h : rT σ) : tL σ ≤ 900 ∧ σ.1 322 34 = nI (tL σ) ∧ σ.1 322 35 = nI (tE σ) ∧ tE σ ≤ tL σ := by
  obtain ⟨n1, a1, a2, a3⟩ := nI_rng h.1.1 h.1.2 (by decide)
  obtain ⟨n2, b1, b2, b3⟩ := nI_rng h.2.1.1 h.2.1.2 (by decide)
  have := h.2.2.1
  unfold tE tL at *
  rw [a3, b3] at *
  exact ⟨a1, a2, b2, this⟩
theorem by_u {x : Int32} (h1 : -128 ≤ x) (h2 : x ≤ 127) : (0 ≤ x ∧ x &&& 255 = x) ∨ (x < 0 ∧ 128 ≤ x &&& 255 ∧ x &&& 255 ≤ 255) := by
  have key : ∀ k : Fin 256, (0 ≤ Int32.ofInt ((k.val : Int) - 128) ∧ Int32.ofInt ((k.val : Int) - 128) &&& 255 = Int32.ofInt ((k.val : Int) - 128)) ∨ (Int32.ofInt ((k.val : Int) - 128) < 0 ∧ 128 ≤ Int32.ofInt ((k.val : Int) - 128) &&& 255 ∧ Int32.ofInt ((k.val : Int) - 128) &&& 255 ≤ 255) := by decide +kernel
  rw [Int32.le_iff_toInt_le] at h1 h2
  have e1 : (-128 : Int32).toInt = -128 := by decide
  have e2 : (127 : Int32).toInt = 127 := by decide
  have e : x = Int32.ofInt ((((x.toInt + 128).toNat : Nat) : Int) - 128) := by
    rw [show (((x.toInt + 128).toNat : Nat) : Int) - 128 = x.toInt by omega]
    exact (Int32.ofInt_toInt x).symm
  have := key ⟨(x.toInt + 128).toNat, by omega⟩
  dsimp only at this
  rw [← e] at this
  exact this
def bA (σ : jM) : Int32 := if tE σ < tL σ then tB σ (tE σ) &&& 255 else -1
def oX12_byteAt : jO := joR fun a σ => (a = 322 ∧ rT σ, fun v τ => v = some (.int (bA σ)) ∧ τ = σ)
set_option maxRecDepth 100000 in
set_option maxHeartbeats 4000000 in
theorem CX12_byteAt (g : jG) (n : Nat) : jOk g (n + 0) mX12_byteAt oX12_byteAt := by
  refine joR_ok ?_
  rintro _ σ ⟨rfl, h⟩
  obtain ⟨h1, h2, h3, h4⟩ := rT_n h
  by_cases c : tE σ < tL σ
  · have c1 : ¬ nI (tL σ) ≤ nI (tE σ) := nI_ge c (by omega)
    have c2 : jin (nI (tE σ)) 900 := jin_nI (by omega) (by decide)
    have c3 : (nI (tE σ)).toNatClampNeg = tE σ := nI_clamp (by omega)
    refine jCon.ofP (by decide +kernel) (by simp [lg_sl, Value.category]) (fun post hp => ?_)
    refine jvk_ok TX12_byteAt (V := []) (S := []) (fun _ h => absurd h List.not_mem_nil) (fun _ h => absurd h List.not_mem_nil) [] 20 _ _ _ _ ?_
    simp (maxSteps := 1000000) [↓Bool.cond_eq_ite, -Prod.forall, -Prod.exists, -Prod.mk.injEq, jvk, tX12_byteAt, jtb, jol, jst, jlk, jcmp, jbin, jfl, fX12, jc2, lX12, jcat, jel, lv_args, Value.category, jins, jsrt, jins2, jble, jblt, jf3, List.filter_cons, List.filter_nil, G_m, -Int32.not_le, -Int32.not_lt, -Int64.not_le, -Int64.not_lt, i3lt, i6lt, h2, h3, c1, c2, c3]
    try simp (disch := omega) [-Prod.forall, -Prod.exists, -Prod.mk.injEq, -Int32.not_le, -Int32.not_lt, -Int64.not_le, -Int64.not_lt, i3lt, i6lt, h2, h3, c1, c2, c3]
    exact hp _ _ ⟨by unfold bA; rw [if_pos c]; rfl, rfl⟩
  · have c1 : nI (tL σ) ≤ nI (tE σ) := nI_le (by omega) (by omega)
    refine jCon.ofP (by decide +kernel) (by simp [lg_sl, Value.category]) (fun post hp => ?_)
    refine jvk_ok TX12_byteAt (V := []) (S := []) (fun _ h => absurd h List.not_mem_nil) (fun _ h => absurd h List.not_mem_nil) [] 20 _ _ _ _ ?_
    simp (maxSteps := 1000000) [↓Bool.cond_eq_ite, -Prod.forall, -Prod.exists, -Prod.mk.injEq, jvk, tX12_byteAt, jtb, jol, jst, jlk, jcmp, jbin, jfl, fX12, jc2, lX12, jcat, jel, lv_args, Value.category, jins, jsrt, jins2, jble, jblt, jf3, List.filter_cons, List.filter_nil, G_m, -Int32.not_le, -Int32.not_lt, -Int64.not_le, -Int64.not_lt, i3lt, i6lt, h2, h3, c1]
    try simp (disch := omega) [-Prod.forall, -Prod.exists, -Prod.mk.injEq, -Int32.not_le, -Int32.not_lt, -Int64.not_le, -Int64.not_lt, i3lt, i6lt, h2, h3, c1]
    exact hp _ _ ⟨by unfold bA; rw [if_neg c], rfl⟩
/-- what the sign that is next says -/
theorem bA_k {σ : jM} (h : rT σ) : (bA σ = -1 ↔ kn (tB σ) (tL σ) (tE σ) = 0) ∧ (mIn (bA σ) 97 122 = true ↔ kn (tB σ) (tL σ) (tE σ) = 2) ∧ (mIn (bA σ) 48 57 = true ↔ kn (tB σ) (tL σ) (tE σ) = 3) ∧ (bA σ = 59 ↔ kn (tB σ) (tL σ) (tE σ) = 4) ∧ ((bA σ = 32 ∨ bA σ = 10) ↔ kn (tB σ) (tL σ) (tE σ) = 1) ∧ (kn (tB σ) (tL σ) (tE σ) = 2 ∨ kn (tB σ) (tL σ) (tE σ) = 3 → bA σ = tB σ (tE σ)) := by
  obtain ⟨h1, h2, h3, h4⟩ := rT_n h
  by_cases c : tE σ < tL σ
  · rw [kn_0, kn_2 c, kn_3 c, kn_4 c, kn_1 c]
    obtain ⟨b1, b2⟩ := h.2.2.2 (tE σ) (by omega)
    have e : bA σ = tB σ (tE σ) &&& 255 := by unfold bA; rw [if_pos c]
    have eB : σ.1 346 (tE σ) = tB σ (tE σ) := rfl
    rw [eB] at b1 b2
    rw [e]
    unfold mIn
    simp only [decide_eq_true_eq]
    rcases by_u b1 b2 with ⟨a1, a2⟩ | ⟨a1, a2, a3⟩
    · rw [a2]
      refine ⟨⟨fun z => ?_, fun z => by omega⟩, Iff.rfl, Iff.rfl, Iff.rfl, Iff.rfl, fun _ => rfl⟩
      rw [z] at a1
      exact absurd a1 not_m1
    · refine ⟨⟨fun z => ?_, fun z => by omega⟩, ⟨fun z => ?_, fun z => ?_⟩, ⟨fun z => ?_, fun z => ?_⟩, ⟨fun z => ?_, fun z => ?_⟩, ⟨fun z => ?_, fun z => ?_⟩, fun z => ?_⟩
      · rw [z] at a2; exact absurd a2 (by decide)
      · have := z.2; grind
      · have := z.1; grind
      · have := z.2; grind
      · have := z.1; grind
      · rw [z] at a2; exact absurd a2 (by decide)
      · rw [z] at a1; exact absurd a1 (by decide)
      · rcases z with z | z <;> rw [z] at a2 <;> exact absurd a2 (by decide)
      · rcases z with z | z <;> rw [z] at a1 <;> exact absurd a1 (by decide)
      · rcases z with z | z
        · have := z.1; grind
        · have := z.1; grind
  · have e : bA σ = -1 := by unfold bA; rw [if_neg c]
    have k0 : kn (tB σ) (tL σ) (tE σ) = 0 := kn_0.mpr (by omega)
    rw [e, k0]
    exact ⟨by decide, by decide, by decide, by decide, by decide, fun z => by omega⟩
/-- the token's number -/
def tkc (k : Nat) : Int32 := if k = 0 then 0 else if k = 2 then 1 else if k = 3 then 2 else if k = 4 then 3 else 4
def tk (σ : jM) (s : Nat) : Prop := s ≤ tL σ ∧ σ.1 322 41 = 0 ∧ σ.1 322 36 = nI s ∧ σ.1 322 35 = nI (en (tB σ) (tL σ) s) ∧ σ.1 322 37 = tkc (kn (tB σ) (tL σ) s) ∧ (kn (tB σ) (tL σ) s = 3 → σ.1 322 38 = nI (nu (tB σ) (tL σ) s)) ∧ (¬ kn (tB σ) (tL σ) s = 3 → σ.1 322 38 = 0) ∧ (kn (tB σ) (tL σ) s = 2 → (en (tB σ) (tL σ) s ≤ s + 6 → σ.1 322 40 = nI (nm (tB σ) (tL σ) s)) ∧ σ.2.1 322 39 = wh (tB σ) s (en (tB σ) (tL σ) s - s))
def aTk (a j : Nat) : Bool := a == 322 && (j == 35 || j == 36 || j == 37 || j == 38 || j == 40)
def bTk (a : Nat) : Bool := a == 322
theorem tk_fr {σ τ : jM} (f : jfr aTk bTk σ τ) : tB τ = tB σ ∧ tL τ = tL σ := ⟨funext fun j => f.2.2 346 j rfl, by unfold tL; rw [f.2.2 322 34 rfl]⟩
theorem rT_fr {σ τ : jM} (h : rT σ) (f : jfr aTk bTk σ τ) {e : Nat} (he : τ.1 322 35 = nI e) (hl : e ≤ tL σ) : rT τ ∧ tE τ = e := by
  obtain ⟨h1, h2, h3, h4⟩ := rT_n h
  have e1 : tE τ = e := by unfold tE; rw [he, nI_clamp (by omega)]
  refine ⟨⟨?_, ?_, ?_, fun j hj => ?_⟩, e1⟩
  · rw [f.2.2 322 34 rfl]; exact h.1
  · rw [he]; exact ⟨nI_pos' (by omega), nI_le (b := 900) (by omega) (by decide)⟩
  · rw [e1, (tk_fr f).2]; exact hl
  · rw [f.2.2 346 j rfl]; exact h.2.2.2 j hj
theorem shl_n {c k : Nat} (hk : k ≤ 25) (hc : c < 32) : nI c <<< (nI k &&& 31) = nI (c * 2 ^ k) := by
  have e : ∀ q : Fin 32, ((nI q.val &&& 31).toBitVec.smod 32).toNat = q.val := by decide +kernel
  have h2 : 2 ^ k ≤ 2 ^ 25 := Nat.pow_le_pow_right (by decide) hk
  have h25 : (2 : Nat) ^ 25 = 33554432 := by decide
  refine pk_shlN _ k (e ⟨k, by omega⟩) ?_
  have : c * 2 ^ k ≤ 31 * 2 ^ 25 := Nat.mul_le_mul (by omega) h2
  omega
def oX12_advance : jO := joR fun a σ => (a = 322 ∧ rT σ, fun v τ => v = none ∧ (¬ σ.1 322 41 = 0 → τ = σ) ∧ (σ.1 322 41 = 0 → jfr aTk bTk σ τ ∧ rT τ ∧ tk τ (rn (tB σ) (tL σ) 1 (tE σ))))
/-! blanks -/
set_option maxRecDepth 100000 in
set_option maxHeartbeats 4000000 in
theorem CAd_1 (g : jG) (n : Nat) {post : Option Value → jM → Prop} {σ : jM} (h : rT σ) : ∀ (d p : Nat) (τ : jM), tL σ - p ≤ d → p ≤ tL σ → jfr aTk bTk σ τ → τ.1 322 35 = nI p →
    (∀ τ', jfr aTk bTk σ τ' → τ'.1 322 35 = nI (rn (tB σ) (tL σ) 1 p) → jW g mX12_advance (n + 1) post 39 [(0, .ref 322)] [] τ') → jW g mX12_advance (n + 1) post 8 [(0, .ref 322)] [] τ := by
  intro d
  induction d with
  | zero =>
    intro p τ hd hp f e35 k
    obtain ⟨r1, r2⟩ := rT_fr h f e35 hp
    obtain ⟨f1, f2⟩ := tk_fr f
    have hk := bA_k r1
    rw [f1, f2, r2] at hk
    have k0 : kn (tB σ) (tL σ) p = 0 := kn_0.mpr (by omega)
    have n1 : ¬ (bA τ = 32 ∨ bA τ = 10) := fun z => by have := hk.2.2.2.2.1.mp z; omega
    have k1 := k τ f (by rw [rn_stop (by omega)]; exact e35)
    refine jvk_ok TX12_advance (V := [(287, 1, 12, oX12_byteAt)]) (S := [(117, 3, 0, oX12_inRange)]) (List.forall_mem_cons.mpr ⟨⟨mX12_byteAt, n + 0, 0, TX12, 53, rfl, by omega, kX12_287, WX12_byteAt, rfl, CX12_byteAt g (n)⟩, (fun _ h => absurd h List.not_mem_nil)⟩) (List.forall_mem_cons.mpr ⟨⟨mX12_inRange, n + 0, by omega, Or.inl kX12_117, WX12_inRange, CX12_inRange g (n)⟩, (fun _ h => absurd h List.not_mem_nil)⟩) [8, 39] 20 _ _ _ _ ?_
    simp (maxSteps := 1000000) [↓Bool.cond_eq_ite, -Prod.forall, -Prod.exists, -Prod.mk.injEq, jvk, tX12_advance, jtb, jol, jst, jlk, jcmp, jbin, jfl, fX12, jc2, lX12, jcat, jel, lv_args, Value.category, jins, jsrt, jins2, jble, jblt, jf3, List.filter_cons, List.filter_nil, G_m, oX12_byteAt, oX12_inRange, joIII, joR, -Int32.not_le, -Int32.not_lt, -Int64.not_le, -Int64.not_lt, i3lt, i6lt, r1, (not_or.mp n1).1, (not_or.mp n1).2]
    try simp (disch := omega) [-Prod.forall, -Prod.exists, -Prod.mk.injEq, -Int32.not_le, -Int32.not_lt, -Int64.not_le, -Int64.not_lt, i3lt, i6lt, r1, (not_or.mp n1).1, (not_or.mp n1).2]
    exact k1
  | succ d ih =>
    intro p τ hd hp f e35 k
    obtain ⟨r1, r2⟩ := rT_fr h f e35 hp
    obtain ⟨f1, f2⟩ := tk_fr f
    have hk := bA_k r1
    rw [f1, f2, r2] at hk
    by_cases c : kn (tB σ) (tL σ) p = 1
    · have c1 := hk.2.2.2.2.1.mpr c
      have hpl : p < tL σ := by
        by_cases q : p < tL σ
        · exact q
        · have := (kn_0 (b := tB σ)).mpr (show tL σ ≤ p by omega)
          omega
      have k1 := ih (p + 1) (jup τ 322 35 (nI (p + 1))) (by omega) (by omega) (f.up _ rfl) (by simp [jup_1]) (fun τ' f' e' => k τ' f' (by rw [rn_step (by decide) c]; exact e'))
      by_cases c2 : bA τ = 32
      · refine jvk_ok TX12_advance (V := [(287, 1, 12, oX12_byteAt)]) (S := [(117, 3, 0, oX12_inRange)]) (List.forall_mem_cons.mpr ⟨⟨mX12_byteAt, n + 0, 0, TX12, 53, rfl, by omega, kX12_287, WX12_byteAt, rfl, CX12_byteAt g (n)⟩, (fun _ h => absurd h List.not_mem_nil)⟩) (List.forall_mem_cons.mpr ⟨⟨mX12_inRange, n + 0, by omega, Or.inl kX12_117, WX12_inRange, CX12_inRange g (n)⟩, (fun _ h => absurd h List.not_mem_nil)⟩) [8, 39] 20 _ _ _ _ ?_
        simp (maxSteps := 1000000) [↓Bool.cond_eq_ite, -Prod.forall, -Prod.exists, -Prod.mk.injEq, jvk, tX12_advance, jtb, jol, jst, jlk, jcmp, jbin, jfl, fX12, jc2, lX12, jcat, jel, lv_args, Value.category, jins, jsrt, jins2, jble, jblt, jf3, List.filter_cons, List.filter_nil, G_m, oX12_byteAt, oX12_inRange, joIII, joR, -Int32.not_le, -Int32.not_lt, -Int64.not_le, -Int64.not_lt, i3lt, i6lt, r1, c2, e35, nI_1]
        try simp (disch := omega) [-Prod.forall, -Prod.exists, -Prod.mk.injEq, -Int32.not_le, -Int32.not_lt, -Int64.not_le, -Int64.not_lt, i3lt, i6lt, r1, c2, e35, nI_1]
        exact k1
      · have c3 : bA τ = 10 := by rcases c1 with z | z
                                  · exact absurd z c2
                                  · exact z
        refine jvk_ok TX12_advance (V := [(287, 1, 12, oX12_byteAt)]) (S := [(117, 3, 0, oX12_inRange)]) (List.forall_mem_cons.mpr ⟨⟨mX12_byteAt, n + 0, 0, TX12, 53, rfl, by omega, kX12_287, WX12_byteAt, rfl, CX12_byteAt g (n)⟩, (fun _ h => absurd h List.not_mem_nil)⟩) (List.forall_mem_cons.mpr ⟨⟨mX12_inRange, n + 0, by omega, Or.inl kX12_117, WX12_inRange, CX12_inRange g (n)⟩, (fun _ h => absurd h List.not_mem_nil)⟩) [8, 39] 20 _ _ _ _ ?_
        simp (maxSteps := 1000000) [↓Bool.cond_eq_ite, -Prod.forall, -Prod.exists, -Prod.mk.injEq, jvk, tX12_advance, jtb, jol, jst, jlk, jcmp, jbin, jfl, fX12, jc2, lX12, jcat, jel, lv_args, Value.category, jins, jsrt, jins2, jble, jblt, jf3, List.filter_cons, List.filter_nil, G_m, oX12_byteAt, oX12_inRange, joIII, joR, -Int32.not_le, -Int32.not_lt, -Int64.not_le, -Int64.not_lt, i3lt, i6lt, r1, c3, e35, nI_1]
        try simp (disch := omega) [-Prod.forall, -Prod.exists, -Prod.mk.injEq, -Int32.not_le, -Int32.not_lt, -Int64.not_le, -Int64.not_lt, i3lt, i6lt, r1, c3, e35, nI_1]
        exact k1
    · have n1 : ¬ (bA τ = 32 ∨ bA τ = 10) := fun z => c (hk.2.2.2.2.1.mp z)
      have k1 := k τ f (by rw [rn_stop c]; exact e35)
      refine jvk_ok TX12_advance (V := [(287, 1, 12, oX12_byteAt)]) (S := [(117, 3, 0, oX12_inRange)]) (List.forall_mem_cons.mpr ⟨⟨mX12_byteAt, n + 0, 0, TX12, 53, rfl, by omega, kX12_287, WX12_byteAt, rfl, CX12_byteAt g (n)⟩, (fun _ h => absurd h List.not_mem_nil)⟩) (List.forall_mem_cons.mpr ⟨⟨mX12_inRange, n + 0, by omega, Or.inl kX12_117, WX12_inRange, CX12_inRange g (n)⟩, (fun _ h => absurd h List.not_mem_nil)⟩) [8, 39] 20 _ _ _ _ ?_
      simp (maxSteps := 1000000) [↓Bool.cond_eq_ite, -Prod.forall, -Prod.exists, -Prod.mk.injEq, jvk, tX12_advance, jtb, jol, jst, jlk, jcmp, jbin, jfl, fX12, jc2, lX12, jcat, jel, lv_args, Value.category, jins, jsrt, jins2, jble, jblt, jf3, List.filter_cons, List.filter_nil, G_m, oX12_byteAt, oX12_inRange, joIII, joR, -Int32.not_le, -Int32.not_lt, -Int64.not_le, -Int64.not_lt, i3lt, i6lt, r1, (not_or.mp n1).1, (not_or.mp n1).2]
      try simp (disch := omega) [-Prod.forall, -Prod.exists, -Prod.mk.injEq, -Int32.not_le, -Int32.not_lt, -Int64.not_le, -Int64.not_lt, i3lt, i6lt, r1, (not_or.mp n1).1, (not_or.mp n1).2]
      exact k1
/-! a word, from its letter i on -/
set_option maxRecDepth 100000 in
set_option maxHeartbeats 4000000 in
theorem CAd_2 (g : jG) (n : Nat) {post : Option Value → jM → Prop} {σ : jM} (h : rT σ) {s : Nat} (hs : kn (tB σ) (tL σ) s = 2) : ∀ (d i : Nat) (τ : jM), en (tB σ) (tL σ) s - s - i = d → s + i ≤ en (tB σ) (tL σ) s → jfr aTk bTk σ τ → τ.1 322 35 = nI (s + i) → τ.1 322 36 = nI s → τ.1 322 37 = 1 → τ.1 322 38 = 0 → τ.1 322 40 = nI (lrN (tB σ) s (min i 6)) → τ.2.1 322 39 = wh (tB σ) s i →
    (∀ τ', jfr aTk bTk σ τ' → τ'.1 322 35 = nI (en (tB σ) (tL σ) s) → τ'.1 322 36 = nI s → τ'.1 322 37 = 1 → τ'.1 322 38 = 0 → τ'.1 322 40 = nI (lrN (tB σ) s (min (en (tB σ) (tL σ) s - s) 6)) → τ'.2.1 322 39 = wh (tB σ) s (en (tB σ) (tL σ) s - s) → post none τ') → ∀ L, jW g mX12_advance (n + 1) post 97 ((0, .ref 322) :: L) [] τ := by
  have hsl := (cl_ok hs).1
  have hen := en_le (b := tB σ) (len := tL σ) (s := s) (by omega)
  obtain ⟨h1, h2, h3, h4⟩ := rT_n h
  have hstop : ¬ kn (tB σ) (tL σ) (en (tB σ) (tL σ) s) = 2 := by
    unfold en
    rw [if_pos (Or.inl hs), hs]
    exact rn_end (by decide) _ _ (Nat.le_refl _)
  intro d
  induction d with
  | zero =>
    intro i τ hd hi f e35 e36 e37 e38 e40 e39 k L
    have ei : s + i = en (tB σ) (tL σ) s := by omega
    rw [ei] at e35
    obtain ⟨r1, r2⟩ := rT_fr h f e35 hen.2.1
    obtain ⟨f1, f2⟩ := tk_fr f
    have hk := bA_k r1
    rw [f1, f2, r2] at hk
    have c : ¬ mIn (bA τ) 97 122 = true := fun z => hstop (hk.2.1.mp z)
    have k1 := k τ f e35 e36 e37 e38 (by rw [e40, show en (tB σ) (tL σ) s - s = i by omega]) (by rw [e39, show en (tB σ) (tL σ) s - s = i by omega])
    refine jW.mono (L' := [(0, .ref 322)]) ?_ (by simp)
    refine jvk_ok TX12_advance (V := [(287, 1, 12, oX12_byteAt)]) (S := [(117, 3, 0, oX12_inRange)]) (List.forall_mem_cons.mpr ⟨⟨mX12_byteAt, n + 0, 0, TX12, 53, rfl, by omega, kX12_287, WX12_byteAt, rfl, CX12_byteAt g (n)⟩, (fun _ h => absurd h List.not_mem_nil)⟩) (List.forall_mem_cons.mpr ⟨⟨mX12_inRange, n + 0, by omega, Or.inl kX12_117, WX12_inRange, CX12_inRange g (n)⟩, (fun _ h => absurd h List.not_mem_nil)⟩) [97] 20 _ _ _ _ ?_
    simp (maxSteps := 1000000) [↓Bool.cond_eq_ite, -Prod.forall, -Prod.exists, -Prod.mk.injEq, jvk, tX12_advance, jtb, jol, jst, jlk, jcmp, jbin, jfl, fX12, jc2, lX12, jcat, jel, lv_args, Value.category, jins, jsrt, jins2, jble, jblt, jf3, List.filter_cons, List.filter_nil, G_m, oX12_byteAt, oX12_inRange, joIII, joR, -Int32.not_le, -Int32.not_lt, -Int64.not_le, -Int64.not_lt, i3lt, i6lt, r1, c]
    try simp (disch := omega) [-Prod.forall, -Prod.exists, -Prod.mk.injEq, -Int32.not_le, -Int32.not_lt, -Int64.not_le, -Int64.not_lt, i3lt, i6lt, r1, c]
    exact k1
  | succ d ih =>
    intro i τ hd hi f e35 e36 e37 e38 e40 e39 k L
    obtain ⟨r1, r2⟩ := rT_fr h f e35 (by omega)
    obtain ⟨f1, f2⟩ := tk_fr f
    have hk := bA_k r1
    rw [f1, f2, r2] at hk
    have hki := en_cl hs (i := i) (by omega)
    have c : mIn (bA τ) 97 122 = true := hk.2.1.mpr hki
    obtain ⟨q1, q2, q3, q4⟩ := cl_ok hki
    have eb : bA τ = nI (96 + cl (tB σ) (s + i)) := (hk.2.2.2.2.2 (Or.inl hki)).trans q4
    have esub : nI (96 + cl (tB σ) (s + i)) - 96 = nI (cl (tB σ) (s + i)) := by
      have := pk_sub (a := 96 + cl (tB σ) (s + i)) (b := 96) (by omega)
      rw [show 96 + cl (tB σ) (s + i) - 96 = cl (tB σ) (s + i) by omega] at this
      exact this
    have c' : mIn (nI (96 + cl (tB σ) (s + i))) 97 122 = true := by rw [← eb]; exact c
    have ei : nI (s + i) - nI s = nI i := by rw [pk_sub (by omega), show s + i - s = i by omega]
    have el : (nI (cl (tB σ) (s + i))).toInt64 = lN (cl (tB σ) (s + i)) := nI_l (by omega)
    -- the word's number
    obtain ⟨w, hw⟩ : ∃ w, w = wh (tB σ) s (i + 1) := ⟨_, rfl⟩
    have hlt : ∀ j, j < i → cl (tB σ) (s + j) < 32 := fun j hj => by have := cl_ok (en_cl hs (i := j) (by omega)); omega
    obtain ⟨lt, hlet⟩ : ∃ lt, lt = nI (lrN (tB σ) s (min (i + 1) 6)) := ⟨_, rfl⟩
    have nxt : ∀ L', jW g mX12_advance (n + 1) post 97 ((0, .ref 322) :: L') [] (jup (jup (jupL τ 322 39 w) 322 40 lt) 322 35 (nI (s + (i + 1)))) := fun L' => by
      refine ih (i + 1) _ (by omega) (by omega) (((f.upL _ rfl).up _ rfl).up _ rfl) (by simp [jup_1]) ?_ ?_ ?_ ?_ ?_ k L'
      · simp only [jup_1, jupL_1]; simpa using e36
      · simp only [jup_1, jupL_1]; simpa using e37
      · simp only [jup_1, jupL_1]; simpa using e38
      · simp only [jup_1, jupL_1]; simpa using hlet
      · rw [jup_2, jup_2, jupL_2]
        simpa using hw
    have n1 : nI (s + i) + 1 = nI (s + (i + 1)) := nI_1 _
    refine jW.mono (L' := [(0, .ref 322)]) ?_ (by simp)
    by_cases c12 : i < 12
    · have cc : ¬ (12 : Int32) ≤ nI i := nI_ge (b := 12) c12 (by decide)
      have ew : 32 * τ.2.1 322 39 + lN (cl (tB σ) (s + i)) = w := by
        rw [e39, hw]
        unfold wh
        rw [if_pos (by omega), if_pos (by omega)]
        simp only [hN]
        have hb : hN (fun j => cl (tB σ) (s + j)) i < 2 ^ (5 * i) := hN_lt _ hlt
        rw [← lN_add, ← lN_mul]
        rfl
      by_cases c6 : i < 6
      · have c6' : ¬ (6 : Int32) ≤ nI i := nI_ge (b := 6) c6 (by decide)
        have e5 : 5 * nI i = nI (5 * i) := pk_mul 5 i
        have e25 : 25 - nI (5 * i) = nI (25 - 5 * i) := pk_sub (a := 25) (by omega)
        have eS := shl_n (c := cl (tB σ) (s + i)) (k := 25 - 5 * i) (by omega) (by omega)
        have eO : τ.1 322 40 ||| nI (cl (tB σ) (s + i) * 2 ^ (25 - 5 * i)) = lt := by
          rw [e40, hlet, show min i 6 = i by omega, show min (i + 1) 6 = i + 1 by omega]
          have := nmN_lr (b := tB σ) (s := s) (e := s + i) i (by omega) (by omega)
          rw [← this, Nat.mul_comm]
          have hp : cl (tB σ) (s + i) * 2 ^ (25 - 5 * i) < 2 ^ (30 - 5 * i) := by
            rw [show 30 - 5 * i = 5 + (25 - 5 * i) by omega, Nat.pow_add]
            exact (Nat.mul_lt_mul_right (Nat.pow_pos (by decide))).mpr (by omega)
          rw [nI_orS _ hp, Nat.mul_comm, this]
          rfl
        refine jvk_ok TX12_advance (V := [(287, 1, 12, oX12_byteAt)]) (S := [(117, 3, 0, oX12_inRange)]) (List.forall_mem_cons.mpr ⟨⟨mX12_byteAt, n + 0, 0, TX12, 53, rfl, by omega, kX12_287, WX12_byteAt, rfl, CX12_byteAt g (n)⟩, (fun _ h => absurd h List.not_mem_nil)⟩) (List.forall_mem_cons.mpr ⟨⟨mX12_inRange, n + 0, by omega, Or.inl kX12_117, WX12_inRange, CX12_inRange g (n)⟩, (fun _ h => absurd h List.not_mem_nil)⟩) [197, 97] 90 _ _ _ _ ?_
        simp (maxSteps := 1000000) [↓Bool.cond_eq_ite, -Prod.forall, -Prod.exists, -Prod.mk.injEq, jvk, tX12_advance, jtb, jol, jst, jlk, jcmp, jbin, jfl, fX12, jc2, lX12, jcat, jel, lv_args, Value.category, jins, jsrt, jins2, jble, jblt, jf3, List.filter_cons, List.filter_nil, G_m, oX12_byteAt, oX12_inRange, joIII, joR, -Int32.not_le, -Int32.not_lt, -Int64.not_le, -Int64.not_lt, i3lt, i6lt, r1, c', eb, esub, e35, e36, ei, el, cc, ew, c6', e5, e25, eS, eO, jupL_1, jup_1]
        try simp (disch := omega) [-Prod.forall, -Prod.exists, -Prod.mk.injEq, -Int32.not_le, -Int32.not_lt, -Int64.not_le, -Int64.not_lt, i3lt, i6lt, r1, c', eb, esub, e35, e36, ei, el, cc, ew, c6', e5, e25, eS, eO, jupL_1, jup_1]
        refine jvk_ok TX12_advance (V := [(287, 1, 12, oX12_byteAt)]) (S := [(117, 3, 0, oX12_inRange)]) (List.forall_mem_cons.mpr ⟨⟨mX12_byteAt, n + 0, 0, TX12, 53, rfl, by omega, kX12_287, WX12_byteAt, rfl, CX12_byteAt g (n)⟩, (fun _ h => absurd h List.not_mem_nil)⟩) (List.forall_mem_cons.mpr ⟨⟨mX12_inRange, n + 0, by omega, Or.inl kX12_117, WX12_inRange, CX12_inRange g (n)⟩, (fun _ h => absurd h List.not_mem_nil)⟩) [97] 40 _ _ _ _ ?_
        simp (maxSteps := 1000000) [↓Bool.cond_eq_ite, -Prod.forall, -Prod.exists, -Prod.mk.injEq, jvk, tX12_advance, jtb, jol, jst, jlk, jcmp, jbin, jfl, fX12, jc2, lX12, jcat, jel, lv_args, Value.category, jins, jsrt, jins2, jble, jblt, jf3, List.filter_cons, List.filter_nil, G_m, oX12_byteAt, oX12_inRange, joIII, joR, -Int32.not_le, -Int32.not_lt, -Int64.not_le, -Int64.not_lt, i3lt, i6lt, e35, n1, jupL_1, jup_1]
        try simp (disch := omega) [-Prod.forall, -Prod.exists, -Prod.mk.injEq, -Int32.not_le, -Int32.not_lt, -Int64.not_le, -Int64.not_lt, i3lt, i6lt, e35, n1, jupL_1, jup_1]
        exact nxt _
      · have c6' : (6 : Int32) ≤ nI i := nI_le (a := 6) (by omega) (by omega)
        have eO : τ.1 322 40 = lt := by rw [e40, hlet, show min i 6 = 6 by omega, show min (i + 1) 6 = 6 by omega]
        refine jvk_ok TX12_advance (V := [(287, 1, 12, oX12_byteAt)]) (S := [(117, 3, 0, oX12_inRange)]) (List.forall_mem_cons.mpr ⟨⟨mX12_byteAt, n + 0, 0, TX12, 53, rfl, by omega, kX12_287, WX12_byteAt, rfl, CX12_byteAt g (n)⟩, (fun _ h => absurd h List.not_mem_nil)⟩) (List.forall_mem_cons.mpr ⟨⟨mX12_inRange, n + 0, by omega, Or.inl kX12_117, WX12_inRange, CX12_inRange g (n)⟩, (fun _ h => absurd h List.not_mem_nil)⟩) [197, 97] 90 _ _ _ _ ?_
        simp (maxSteps := 1000000) [↓Bool.cond_eq_ite, -Prod.forall, -Prod.exists, -Prod.mk.injEq, jvk, tX12_advance, jtb, jol, jst, jlk, jcmp, jbin, jfl, fX12, jc2, lX12, jcat, jel, lv_args, Value.category, jins, jsrt, jins2, jble, jblt, jf3, List.filter_cons, List.filter_nil, G_m, oX12_byteAt, oX12_inRange, joIII, joR, -Int32.not_le, -Int32.not_lt, -Int64.not_le, -Int64.not_lt, i3lt, i6lt, r1, c', eb, esub, e35, e36, ei, el, cc, ew, c6', eO, jupL_1, jup_1]
        try simp (disch := omega) [-Prod.forall, -Prod.exists, -Prod.mk.injEq, -Int32.not_le, -Int32.not_lt, -Int64.not_le, -Int64.not_lt, i3lt, i6lt, r1, c', eb, esub, e35, e36, ei, el, cc, ew, c6', eO, jupL_1, jup_1]
        refine jvk_ok TX12_advance (V := [(287, 1, 12, oX12_byteAt)]) (S := [(117, 3, 0, oX12_inRange)]) (List.forall_mem_cons.mpr ⟨⟨mX12_byteAt, n + 0, 0, TX12, 53, rfl, by omega, kX12_287, WX12_byteAt, rfl, CX12_byteAt g (n)⟩, (fun _ h => absurd h List.not_mem_nil)⟩) (List.forall_mem_cons.mpr ⟨⟨mX12_inRange, n + 0, by omega, Or.inl kX12_117, WX12_inRange, CX12_inRange g (n)⟩, (fun _ h => absurd h List.not_mem_nil)⟩) [97] 40 _ _ _ _ ?_
        simp (maxSteps := 1000000) [↓Bool.cond_eq_ite, -Prod.forall, -Prod.exists, -Prod.mk.injEq, jvk, tX12_advance, jtb, jol, jst, jlk, jcmp, jbin, jfl, fX12, jc2, lX12, jcat, jel, lv_args, Value.category, jins, jsrt, jins2, jble, jblt, jf3, List.filter_cons, List.filter_nil, G_m, oX12_byteAt, oX12_inRange, joIII, joR, -Int32.not_le, -Int32.not_lt, -Int64.not_le, -Int64.not_lt, i3lt, i6lt, e35, n1, jupL_1, jup_1]
        try simp (disch := omega) [-Prod.forall, -Prod.exists, -Prod.mk.injEq, -Int32.not_le, -Int32.not_lt, -Int64.not_le, -Int64.not_lt, i3lt, i6lt, e35, n1, jupL_1, jup_1]
        exact nxt _
    · have cc : (12 : Int32) ≤ nI i := nI_le (a := 12) (by omega) (by omega)
      have ew : (-1 : Int64) = w := by rw [hw]; unfold wh; rw [if_neg (by omega)]
      have c6' : (6 : Int32) ≤ nI i := nI_le (a := 6) (by omega) (by omega)
      have eO : τ.1 322 40 = lt := by rw [e40, hlet, show min i 6 = 6 by omega, show min (i + 1) 6 = 6 by omega]
      rw [← ew] at nxt
      refine jvk_ok TX12_advance (V := [(287, 1, 12, oX12_byteAt)]) (S := [(117, 3, 0, oX12_inRange)]) (List.forall_mem_cons.mpr ⟨⟨mX12_byteAt, n + 0, 0, TX12, 53, rfl, by omega, kX12_287, WX12_byteAt, rfl, CX12_byteAt g (n)⟩, (fun _ h => absurd h List.not_mem_nil)⟩) (List.forall_mem_cons.mpr ⟨⟨mX12_inRange, n + 0, by omega, Or.inl kX12_117, WX12_inRange, CX12_inRange g (n)⟩, (fun _ h => absurd h List.not_mem_nil)⟩) [197, 97] 90 _ _ _ _ ?_
      simp (maxSteps := 1000000) [↓Bool.cond_eq_ite, -Prod.forall, -Prod.exists, -Prod.mk.injEq, jvk, tX12_advance, jtb, jol, jst, jlk, jcmp, jbin, jfl, fX12, jc2, lX12, jcat, jel, lv_args, Value.category, jins, jsrt, jins2, jble, jblt, jf3, List.filter_cons, List.filter_nil, G_m, oX12_byteAt, oX12_inRange, joIII, joR, -Int32.not_le, -Int32.not_lt, -Int64.not_le, -Int64.not_lt, i3lt, i6lt, r1, c', eb, esub, e35, e36, ei, el, cc, c6', eO, jupL_1, jup_1]
      try simp (disch := omega) [-Prod.forall, -Prod.exists, -Prod.mk.injEq, -Int32.not_le, -Int32.not_lt, -Int64.not_le, -Int64.not_lt, i3lt, i6lt, r1, c', eb, esub, e35, e36, ei, el, cc, c6', eO, jupL_1, jup_1]
      refine jvk_ok TX12_advance (V := [(287, 1, 12, oX12_byteAt)]) (S := [(117, 3, 0, oX12_inRange)]) (List.forall_mem_cons.mpr ⟨⟨mX12_byteAt, n + 0, 0, TX12, 53, rfl, by omega, kX12_287, WX12_byteAt, rfl, CX12_byteAt g (n)⟩, (fun _ h => absurd h List.not_mem_nil)⟩) (List.forall_mem_cons.mpr ⟨⟨mX12_inRange, n + 0, by omega, Or.inl kX12_117, WX12_inRange, CX12_inRange g (n)⟩, (fun _ h => absurd h List.not_mem_nil)⟩) [97] 40 _ _ _ _ ?_
      simp (maxSteps := 1000000) [↓Bool.cond_eq_ite, -Prod.forall, -Prod.exists, -Prod.mk.injEq, jvk, tX12_advance, jtb, jol, jst, jlk, jcmp, jbin, jfl, fX12, jc2, lX12, jcat, jel, lv_args, Value.category, jins, jsrt, jins2, jble, jblt, jf3, List.filter_cons, List.filter_nil, G_m, oX12_byteAt, oX12_inRange, joIII, joR, -Int32.not_le, -Int32.not_lt, -Int64.not_le, -Int64.not_lt, i3lt, i6lt, e35, n1, jupL_1, jup_1]
      try simp (disch := omega) [-Prod.forall, -Prod.exists, -Prod.mk.injEq, -Int32.not_le, -Int32.not_lt, -Int64.not_le, -Int64.not_lt, i3lt, i6lt, e35, n1, jupL_1, jup_1]
      exact nxt _
/-! a number, from its digit i on -/
set_option maxRecDepth 100000 in
set_option maxHeartbeats 4000000 in
theorem CAd_3 (g : jG) (n : Nat) {post : Option Value → jM → Prop} {σ : jM} (h : rT σ) {s : Nat} (hs : kn (tB σ) (tL σ) s = 3) : ∀ (d i : Nat) (τ : jM), en (tB σ) (tL σ) s - s - i = d → s + i ≤ en (tB σ) (tL σ) s → jfr aTk bTk σ τ → τ.1 322 35 = nI (s + i) → τ.1 322 36 = nI s → τ.1 322 37 = 2 → τ.1 322 38 = nI (nuN (tB σ) s i) →
    (∀ τ', jfr aTk bTk σ τ' → τ'.1 322 35 = nI (en (tB σ) (tL σ) s) → τ'.1 322 36 = nI s → τ'.1 322 37 = 2 → τ'.1 322 38 = nI (nuN (tB σ) s (en (tB σ) (tL σ) s - s)) → post none τ') → jW g mX12_advance (n + 1) post 232 [(0, .ref 322)] [] τ := by
  have hsl := (cd_ok hs).1
  have hen := en_le (b := tB σ) (len := tL σ) (s := s) (by omega)
  obtain ⟨h1, h2, h3, h4⟩ := rT_n h
  have hstop : ¬ kn (tB σ) (tL σ) (en (tB σ) (tL σ) s) = 3 := by
    unfold en
    rw [if_pos (Or.inr hs), hs]
    exact rn_end (by decide) _ _ (Nat.le_refl _)
  intro d
  induction d with
  | zero =>
    intro i τ hd hi f e35 e36 e37 e38 k
    have ei : s + i = en (tB σ) (tL σ) s := by omega
    rw [ei] at e35
    obtain ⟨r1, r2⟩ := rT_fr h f e35 hen.2.1
    obtain ⟨f1, f2⟩ := tk_fr f
    have hk := bA_k r1
    rw [f1, f2, r2] at hk
    have c : ¬ mIn (bA τ) 48 57 = true := fun z => hstop (hk.2.2.1.mp z)
    have k1 := k τ f e35 e36 e37 (by rw [e38, show en (tB σ) (tL σ) s - s = i by omega])
    refine jvk_ok TX12_advance (V := [(287, 1, 12, oX12_byteAt)]) (S := [(117, 3, 0, oX12_inRange)]) (List.forall_mem_cons.mpr ⟨⟨mX12_byteAt, n + 0, 0, TX12, 53, rfl, by omega, kX12_287, WX12_byteAt, rfl, CX12_byteAt g (n)⟩, (fun _ h => absurd h List.not_mem_nil)⟩) (List.forall_mem_cons.mpr ⟨⟨mX12_inRange, n + 0, by omega, Or.inl kX12_117, WX12_inRange, CX12_inRange g (n)⟩, (fun _ h => absurd h List.not_mem_nil)⟩) [232] 20 _ _ _ _ ?_
    simp (maxSteps := 1000000) [↓Bool.cond_eq_ite, -Prod.forall, -Prod.exists, -Prod.mk.injEq, jvk, tX12_advance, jtb, jol, jst, jlk, jcmp, jbin, jfl, fX12, jc2, lX12, jcat, jel, lv_args, Value.category, jins, jsrt, jins2, jble, jblt, jf3, List.filter_cons, List.filter_nil, G_m, oX12_byteAt, oX12_inRange, joIII, joR, -Int32.not_le, -Int32.not_lt, -Int64.not_le, -Int64.not_lt, i3lt, i6lt, r1, c]
    try simp (disch := omega) [-Prod.forall, -Prod.exists, -Prod.mk.injEq, -Int32.not_le, -Int32.not_lt, -Int64.not_le, -Int64.not_lt, i3lt, i6lt, r1, c]
    exact k1
  | succ d ih =>
    intro i τ hd hi f e35 e36 e37 e38 k
    obtain ⟨r1, r2⟩ := rT_fr h f e35 (by omega)
    obtain ⟨f1, f2⟩ := tk_fr f
    have hk := bA_k r1
    rw [f1, f2, r2] at hk
    have hki := en_cd hs (i := i) (by omega)
    have c : mIn (bA τ) 48 57 = true := hk.2.2.1.mpr hki
    obtain ⟨q1, q2, q4⟩ := cd_ok hki
    have eb : bA τ = nI (48 + cd (tB σ) (s + i)) := (hk.2.2.2.2.2 (Or.inr hki)).trans q4
    have c' : mIn (nI (48 + cd (tB σ) (s + i))) 48 57 = true := by rw [← eb]; exact c
    have hle := nuN_le (tB σ) s i
    have e10 : 10 * nI (nuN (tB σ) s i) = nI (10 * nuN (tB σ) s i) := pk_mul 10 _
    have eadd : nI (10 * nuN (tB σ) s i) + nI (48 + cd (tB σ) (s + i)) = nI (10 * nuN (tB σ) s i + (48 + cd (tB σ) (s + i))) := nI_add _ _
    have esub : nI (10 * nuN (tB σ) s i + (48 + cd (tB σ) (s + i))) - 48 = nI (10 * nuN (tB σ) s i + cd (tB σ) (s + i)) := by
      have := pk_sub (a := 10 * nuN (tB σ) s i + (48 + cd (tB σ) (s + i))) (b := 48) (by omega)
      rw [show 10 * nuN (tB σ) s i + (48 + cd (tB σ) (s + i)) - 48 = 10 * nuN (tB σ) s i + cd (tB σ) (s + i) by omega] at this
      exact this
    have n1 : nI (s + i) + 1 = nI (s + (i + 1)) := nI_1 _
    have nxt : ∀ y, jW g mX12_advance (n + 1) post 232 [(0, .ref 322)] [] (jup (jup (jup τ 322 38 y) 322 38 (nI (nuN (tB σ) s (i + 1)))) 322 35 (nI (s + (i + 1)))) := fun y => by
      refine ih (i + 1) _ (by omega) (by omega) (((f.up _ rfl).up _ rfl).up _ rfl) (by simp [jup_1]) ?_ ?_ (by simp [jup_1]) k
      · simp only [jup_1]; simpa using e36
      · simp only [jup_1]; simpa using e37
    have r1' : ∀ y, rT (jup τ 322 38 y) ∧ bA (jup τ 322 38 y) = bA τ := fun y => ⟨r1, rfl⟩
    by_cases cm : 10 * nuN (tB σ) s i + cd (tB σ) (s + i) ≤ 1000000
    · have c1 : nI (10 * nuN (tB σ) s i + cd (tB σ) (s + i)) ≤ 1000000 := nI_le (b := 1000000) cm (by decide)
      have eN : nuN (tB σ) s (i + 1) = 10 * nuN (tB σ) s i + cd (tB σ) (s + i) := by simp only [nuN]; omega
      rw [eN] at nxt
      refine jvk_ok TX12_advance (V := [(287, 1, 12, oX12_byteAt)]) (S := [(117, 3, 0, oX12_inRange)]) (List.forall_mem_cons.mpr ⟨⟨mX12_byteAt, n + 0, 0, TX12, 53, rfl, by omega, kX12_287, WX12_byteAt, rfl, CX12_byteAt g (n)⟩, (fun _ h => absurd h List.not_mem_nil)⟩) (List.forall_mem_cons.mpr ⟨⟨mX12_inRange, n + 0, by omega, Or.inl kX12_117, WX12_inRange, CX12_inRange g (n)⟩, (fun _ h => absurd h List.not_mem_nil)⟩) [286, 232] 90 _ _ _ _ ?_
      simp (maxSteps := 1000000) [↓Bool.cond_eq_ite, -Prod.forall, -Prod.exists, -Prod.mk.injEq, jvk, tX12_advance, jtb, jol, jst, jlk, jcmp, jbin, jfl, fX12, jc2, lX12, jcat, jel, lv_args, Value.category, jins, jsrt, jins2, jble, jblt, jf3, List.filter_cons, List.filter_nil, G_m, oX12_byteAt, oX12_inRange, joIII, joR, -Int32.not_le, -Int32.not_lt, -Int64.not_le, -Int64.not_lt, i3lt, i6lt, r1, c', eb, e38, e10, eadd, esub, c1, jup_1]
      try simp (disch := omega) [-Prod.forall, -Prod.exists, -Prod.mk.injEq, -Int32.not_le, -Int32.not_lt, -Int64.not_le, -Int64.not_lt, i3lt, i6lt, r1, c', eb, e38, e10, eadd, esub, c1, jup_1]
      refine jvk_ok TX12_advance (V := [(287, 1, 12, oX12_byteAt)]) (S := [(117, 3, 0, oX12_inRange)]) (List.forall_mem_cons.mpr ⟨⟨mX12_byteAt, n + 0, 0, TX12, 53, rfl, by omega, kX12_287, WX12_byteAt, rfl, CX12_byteAt g (n)⟩, (fun _ h => absurd h List.not_mem_nil)⟩) (List.forall_mem_cons.mpr ⟨⟨mX12_inRange, n + 0, by omega, Or.inl kX12_117, WX12_inRange, CX12_inRange g (n)⟩, (fun _ h => absurd h List.not_mem_nil)⟩) [232] 40 _ _ _ _ ?_
      simp (maxSteps := 1000000) [↓Bool.cond_eq_ite, -Prod.forall, -Prod.exists, -Prod.mk.injEq, jvk, tX12_advance, jtb, jol, jst, jlk, jcmp, jbin, jfl, fX12, jc2, lX12, jcat, jel, lv_args, Value.category, jins, jsrt, jins2, jble, jblt, jf3, List.filter_cons, List.filter_nil, G_m, oX12_byteAt, oX12_inRange, joIII, joR, -Int32.not_le, -Int32.not_lt, -Int64.not_le, -Int64.not_lt, i3lt, i6lt, e35, n1, jup_1]
      try simp (disch := omega) [-Prod.forall, -Prod.exists, -Prod.mk.injEq, -Int32.not_le, -Int32.not_lt, -Int64.not_le, -Int64.not_lt, i3lt, i6lt, e35, n1, jup_1]
      exact nxt _
    · have c1 : ¬ nI (10 * nuN (tB σ) s i + cd (tB σ) (s + i)) ≤ 1000000 := nI_ge (a := 1000000) (by omega) (by omega)
      have eN : nI (nuN (tB σ) s (i + 1)) = 1000000 := by
        rw [show nuN (tB σ) s (i + 1) = 1000000 by simp only [nuN]; omega]
        rfl
      rw [eN] at nxt
      refine jvk_ok TX12_advance (V := [(287, 1, 12, oX12_byteAt)]) (S := [(117, 3, 0, oX12_inRange)]) (List.forall_mem_cons.mpr ⟨⟨mX12_byteAt, n + 0, 0, TX12, 53, rfl, by omega, kX12_287, WX12_byteAt, rfl, CX12_byteAt g (n)⟩, (fun _ h => absurd h List.not_mem_nil)⟩) (List.forall_mem_cons.mpr ⟨⟨mX12_inRange, n + 0, by omega, Or.inl kX12_117, WX12_inRange, CX12_inRange g (n)⟩, (fun _ h => absurd h List.not_mem_nil)⟩) [286, 232] 90 _ _ _ _ ?_
      simp (maxSteps := 1000000) [↓Bool.cond_eq_ite, -Prod.forall, -Prod.exists, -Prod.mk.injEq, jvk, tX12_advance, jtb, jol, jst, jlk, jcmp, jbin, jfl, fX12, jc2, lX12, jcat, jel, lv_args, Value.category, jins, jsrt, jins2, jble, jblt, jf3, List.filter_cons, List.filter_nil, G_m, oX12_byteAt, oX12_inRange, joIII, joR, -Int32.not_le, -Int32.not_lt, -Int64.not_le, -Int64.not_lt, i3lt, i6lt, r1, c', eb, e38, e10, eadd, esub, c1, jup_1]
      try simp (disch := omega) [-Prod.forall, -Prod.exists, -Prod.mk.injEq, -Int32.not_le, -Int32.not_lt, -Int64.not_le, -Int64.not_lt, i3lt, i6lt, r1, c', eb, e38, e10, eadd, esub, c1, jup_1]
      refine jvk_ok TX12_advance (V := [(287, 1, 12, oX12_byteAt)]) (S := [(117, 3, 0, oX12_inRange)]) (List.forall_mem_cons.mpr ⟨⟨mX12_byteAt, n + 0, 0, TX12, 53, rfl, by omega, kX12_287, WX12_byteAt, rfl, CX12_byteAt g (n)⟩, (fun _ h => absurd h List.not_mem_nil)⟩) (List.forall_mem_cons.mpr ⟨⟨mX12_inRange, n + 0, by omega, Or.inl kX12_117, WX12_inRange, CX12_inRange g (n)⟩, (fun _ h => absurd h List.not_mem_nil)⟩) [232] 40 _ _ _ _ ?_
      simp (maxSteps := 1000000) [↓Bool.cond_eq_ite, -Prod.forall, -Prod.exists, -Prod.mk.injEq, jvk, tX12_advance, jtb, jol, jst, jlk, jcmp, jbin, jfl, fX12, jc2, lX12, jcat, jel, lv_args, Value.category, jins, jsrt, jins2, jble, jblt, jf3, List.filter_cons, List.filter_nil, G_m, oX12_byteAt, oX12_inRange, joIII, joR, -Int32.not_le, -Int32.not_lt, -Int64.not_le, -Int64.not_lt, i3lt, i6lt, e35, n1, jup_1]
      try simp (disch := omega) [-Prod.forall, -Prod.exists, -Prod.mk.injEq, -Int32.not_le, -Int32.not_lt, -Int64.not_le, -Int64.not_lt, i3lt, i6lt, e35, n1, jup_1]
      exact nxt _
set_option maxRecDepth 100000 in
set_option maxHeartbeats 4000000 in
theorem CX12_advance (g : jG) (n : Nat) : jOk g (n + 1) mX12_advance oX12_advance := by
  refine joR_ok ?_
  rintro _ σ ⟨rfl, h⟩
  obtain ⟨h1, h2, h3, h4⟩ := rT_n h
  by_cases hf : σ.1 322 41 = 0
  · refine jCon.ofP (by decide +kernel) (by simp [lg_sl, Value.category]) (fun post hp => ?_)
    refine jvk_ok TX12_advance (V := [(287, 1, 12, oX12_byteAt)]) (S := [(117, 3, 0, oX12_inRange)]) (List.forall_mem_cons.mpr ⟨⟨mX12_byteAt, n + 0, 0, TX12, 53, rfl, by omega, kX12_287, WX12_byteAt, rfl, CX12_byteAt g (n)⟩, (fun _ h => absurd h List.not_mem_nil)⟩) (List.forall_mem_cons.mpr ⟨⟨mX12_inRange, n + 0, by omega, Or.inl kX12_117, WX12_inRange, CX12_inRange g (n)⟩, (fun _ h => absurd h List.not_mem_nil)⟩) [8] 20 _ _ _ _ ?_
    simp (maxSteps := 1000000) [↓Bool.cond_eq_ite, -Prod.forall, -Prod.exists, -Prod.mk.injEq, jvk, tX12_advance, jtb, jol, jst, jlk, jcmp, jbin, jfl, fX12, jc2, lX12, jcat, jel, lv_args, Value.category, jins, jsrt, jins2, jble, jblt, jf3, List.filter_cons, List.filter_nil, G_m, oX12_byteAt, oX12_inRange, joIII, joR, -Int32.not_le, -Int32.not_lt, -Int64.not_le, -Int64.not_lt, i3lt, i6lt, hf]
    try simp (disch := omega) [-Prod.forall, -Prod.exists, -Prod.mk.injEq, -Int32.not_le, -Int32.not_lt, -Int64.not_le, -Int64.not_lt, i3lt, i6lt, hf]
    refine CAd_1 g n h _ (tE σ) σ (Nat.le_refl _) h4 jfr.rfl h3 (fun τ f e35 => ?_)
    have hs := rn_le (b := tB σ) (len := tL σ) (k := 1) (p := tE σ) h4
    have hs1 := rn_end (b := tB σ) (len := tL σ) (k := 1) (by decide) _ (tE σ) (Nat.le_refl _)
    obtain ⟨s, es⟩ : ∃ s, s = rn (tB σ) (tL σ) 1 (tE σ) := ⟨_, rfl⟩
    rw [← es] at hp hs hs1 e35
    have hen := en_le (b := tB σ) (len := tL σ) (s := s) hs.2
    have f41 : τ.1 322 41 = 0 := (f.2.2 322 41 rfl).trans hf
    obtain ⟨μ, eμ⟩ : ∃ μ, μ = jup (jup (jupL (jup τ 322 36 (nI s)) 322 39 0) 322 40 0) 322 38 0 := ⟨_, rfl⟩
    have fμ : jfr aTk bTk σ μ := by rw [eμ]; exact (((f.up _ rfl).upL _ rfl).up _ rfl).up _ rfl
    have m35 : μ.1 322 35 = nI s := by rw [eμ]; simpa [jup_1, jupL_1] using e35
    have m36 : μ.1 322 36 = nI s := by rw [eμ]; simp [jup_1, jupL_1]
    have m38 : μ.1 322 38 = 0 := by rw [eμ]; simp [jup_1]
    have m40 : μ.1 322 40 = 0 := by rw [eμ]; simp [jup_1]
    have m39 : μ.2.1 322 39 = 0 := by rw [eμ, jup_2, jup_2, jupL_2]; simp
    obtain ⟨r1, r2⟩ := rT_fr h fμ m35 hs.2
    obtain ⟨f1, f2⟩ := tk_fr fμ
    have hk := bA_k r1
    rw [f1, f2, r2] at hk
    have r3 : ∀ y, rT (jup μ 322 37 y) ∧ bA (jup μ 322 37 y) = bA μ := fun y => ⟨r1, rfl⟩
    refine jvk_ok TX12_advance (V := [(287, 1, 12, oX12_byteAt)]) (S := [(117, 3, 0, oX12_inRange)]) (List.forall_mem_cons.mpr ⟨⟨mX12_byteAt, n + 0, 0, TX12, 53, rfl, by omega, kX12_287, WX12_byteAt, rfl, CX12_byteAt g (n)⟩, (fun _ h => absurd h List.not_mem_nil)⟩) (List.forall_mem_cons.mpr ⟨⟨mX12_inRange, n + 0, by omega, Or.inl kX12_117, WX12_inRange, CX12_inRange g (n)⟩, (fun _ h => absurd h List.not_mem_nil)⟩) [62] 20 _ _ _ _ ?_
    simp (maxSteps := 1000000) [↓Bool.cond_eq_ite, -Prod.forall, -Prod.exists, -Prod.mk.injEq, jvk, tX12_advance, jtb, jol, jst, jlk, jcmp, jbin, jfl, fX12, jc2, lX12, jcat, jel, lv_args, Value.category, jins, jsrt, jins2, jble, jblt, jf3, List.filter_cons, List.filter_nil, G_m, oX12_byteAt, oX12_inRange, joIII, joR, -Int32.not_le, -Int32.not_lt, -Int64.not_le, -Int64.not_lt, i3lt, i6lt, e35, jup_1, jupL_1]
    try simp (disch := omega) [-Prod.forall, -Prod.exists, -Prod.mk.injEq, -Int32.not_le, -Int32.not_lt, -Int64.not_le, -Int64.not_lt, i3lt, i6lt, e35, jup_1, jupL_1]
    rw [← eμ]
    have fin : ∀ τ', jfr aTk bTk σ τ' → τ'.1 322 35 = nI (en (tB σ) (tL σ) s) → τ'.1 322 36 = nI s → τ'.1 322 37 = tkc (kn (tB σ) (tL σ) s) → (kn (tB σ) (tL σ) s = 3 → τ'.1 322 38 = nI (nu (tB σ) (tL σ) s)) → (¬ kn (tB σ) (tL σ) s = 3 → τ'.1 322 38 = 0) → (kn (tB σ) (tL σ) s = 2 → (en (tB σ) (tL σ) s ≤ s + 6 → τ'.1 322 40 = nI (nm (tB σ) (tL σ) s)) ∧ τ'.2.1 322 39 = wh (tB σ) s (en (tB σ) (tL σ) s - s)) → post none τ' := fun τ' f' a1 a2 a3 a4 a5 a6 => by
      obtain ⟨g1, g2⟩ := tk_fr f'
      refine hp _ _ ⟨rfl, fun z => absurd hf z, fun _ => ⟨f', (rT_fr h f' a1 hen.2.1).1, ?_⟩⟩
      unfold tk
      rw [g1, g2]
      exact ⟨hs.2, (f'.2.2 322 41 rfl).trans hf, a2, a1, a3, a4, a5, a6⟩
    by_cases k0 : kn (tB σ) (tL σ) s = 0
    · have c0 := hk.1.mpr k0
      have sl := kn_0.mp k0
      have ee : en (tB σ) (tL σ) s = s := by unfold en; rw [if_neg (by omega)]; omega
      have k1 := fin (jup μ 322 37 0) (fμ.up _ rfl) (by rw [ee]; simpa [jup_1] using m35) (by simpa [jup_1] using m36) (by rw [k0]; simp [jup_1, tkc]) (fun z => by omega) (fun _ => by simpa [jup_1] using m38) (fun z => by omega)
      refine jvk_ok TX12_advance (V := [(287, 1, 12, oX12_byteAt)]) (S := [(117, 3, 0, oX12_inRange)]) (List.forall_mem_cons.mpr ⟨⟨mX12_byteAt, n + 0, 0, TX12, 53, rfl, by omega, kX12_287, WX12_byteAt, rfl, CX12_byteAt g (n)⟩, (fun _ h => absurd h List.not_mem_nil)⟩) (List.forall_mem_cons.mpr ⟨⟨mX12_inRange, n + 0, by omega, Or.inl kX12_117, WX12_inRange, CX12_inRange g (n)⟩, (fun _ h => absurd h List.not_mem_nil)⟩) [97, 232] 30 _ _ _ _ ?_
      simp (maxSteps := 1000000) [↓Bool.cond_eq_ite, -Prod.forall, -Prod.exists, -Prod.mk.injEq, jvk, tX12_advance, jtb, jol, jst, jlk, jcmp, jbin, jfl, fX12, jc2, lX12, jcat, jel, lv_args, Value.category, jins, jsrt, jins2, jble, jblt, jf3, List.filter_cons, List.filter_nil, G_m, oX12_byteAt, oX12_inRange, joIII, joR, -Int32.not_le, -Int32.not_lt, -Int64.not_le, -Int64.not_lt, i3lt, i6lt, r1, c0]
      try simp (disch := omega) [-Prod.forall, -Prod.exists, -Prod.mk.injEq, -Int32.not_le, -Int32.not_lt, -Int64.not_le, -Int64.not_lt, i3lt, i6lt, r1, c0]
      exact k1
    · have c0 : ¬ bA μ = -1 := fun z => k0 (hk.1.mp z)
      by_cases k2 : kn (tB σ) (tL σ) s = 2
      · have c2 := hk.2.1.mpr k2
        have k1 := CAd_2 g n h k2 _ 0 (jup μ 322 37 1) (post := post) rfl (by omega) (fμ.up _ rfl) (by simpa [jup_1] using m35) (by simpa [jup_1] using m36) (by simp [jup_1]) (by simpa [jup_1] using m38) (by simpa [jup_1, lrN, nI_0] using m40) (by rw [jup_2]; exact m39) (fun τ' f' a1 a2 a3 a4 a5 a6 => fin τ' f' a1 a2 (by rw [k2]; exact a3) (fun z => by omega) (fun _ => a4) (fun _ => ⟨fun z => by rw [a5, nm_lr z hen.1, show min (en (tB σ) (tL σ) s - s) 6 = en (tB σ) (tL σ) s - s by omega], a6⟩)) []
        refine jvk_ok TX12_advance (V := [(287, 1, 12, oX12_byteAt)]) (S := [(117, 3, 0, oX12_inRange)]) (List.forall_mem_cons.mpr ⟨⟨mX12_byteAt, n + 0, 0, TX12, 53, rfl, by omega, kX12_287, WX12_byteAt, rfl, CX12_byteAt g (n)⟩, (fun _ h => absurd h List.not_mem_nil)⟩) (List.forall_mem_cons.mpr ⟨⟨mX12_inRange, n + 0, by omega, Or.inl kX12_117, WX12_inRange, CX12_inRange g (n)⟩, (fun _ h => absurd h List.not_mem_nil)⟩) [97, 232] 30 _ _ _ _ ?_
        simp (maxSteps := 1000000) [↓Bool.cond_eq_ite, -Prod.forall, -Prod.exists, -Prod.mk.injEq, jvk, tX12_advance, jtb, jol, jst, jlk, jcmp, jbin, jfl, fX12, jc2, lX12, jcat, jel, lv_args, Value.category, jins, jsrt, jins2, jble, jblt, jf3, List.filter_cons, List.filter_nil, G_m, oX12_byteAt, oX12_inRange, joIII, joR, -Int32.not_le, -Int32.not_lt, -Int64.not_le, -Int64.not_lt, i3lt, i6lt, r1, c0, c2]
        try simp (disch := omega) [-Prod.forall, -Prod.exists, -Prod.mk.injEq, -Int32.not_le, -Int32.not_lt, -Int64.not_le, -Int64.not_lt, i3lt, i6lt, r1, c0, c2]
        exact k1
      · have c2 : ¬ mIn (bA μ) 97 122 = true := fun z => k2 (hk.2.1.mp z)
        by_cases k3 : kn (tB σ) (tL σ) s = 3
        · have c3 := hk.2.2.1.mpr k3
          have k1 := CAd_3 g n h k3 _ 0 (jup μ 322 37 2) (post := post) rfl (by omega) (fμ.up _ rfl) (by simpa [jup_1] using m35) (by simpa [jup_1] using m36) (by simp [jup_1]) (by simpa [jup_1, nuN, nI_0] using m38) (fun τ' f' a1 a2 a3 a4 => fin τ' f' a1 a2 (by rw [k3]; exact a3) (fun _ => a4) (fun z => absurd k3 z) (fun z => by omega))
          refine jvk_ok TX12_advance (V := [(287, 1, 12, oX12_byteAt)]) (S := [(117, 3, 0, oX12_inRange)]) (List.forall_mem_cons.mpr ⟨⟨mX12_byteAt, n + 0, 0, TX12, 53, rfl, by omega, kX12_287, WX12_byteAt, rfl, CX12_byteAt g (n)⟩, (fun _ h => absurd h List.not_mem_nil)⟩) (List.forall_mem_cons.mpr ⟨⟨mX12_inRange, n + 0, by omega, Or.inl kX12_117, WX12_inRange, CX12_inRange g (n)⟩, (fun _ h => absurd h List.not_mem_nil)⟩) [97, 232] 30 _ _ _ _ ?_
          simp (maxSteps := 1000000) [↓Bool.cond_eq_ite, -Prod.forall, -Prod.exists, -Prod.mk.injEq, jvk, tX12_advance, jtb, jol, jst, jlk, jcmp, jbin, jfl, fX12, jc2, lX12, jcat, jel, lv_args, Value.category, jins, jsrt, jins2, jble, jblt, jf3, List.filter_cons, List.filter_nil, G_m, oX12_byteAt, oX12_inRange, joIII, joR, -Int32.not_le, -Int32.not_lt, -Int64.not_le, -Int64.not_lt, i3lt, i6lt, r1, c0, c2, c3]
          try simp (disch := omega) [-Prod.forall, -Prod.exists, -Prod.mk.injEq, -Int32.not_le, -Int32.not_lt, -Int64.not_le, -Int64.not_lt, i3lt, i6lt, r1, c0, c2, c3]
          exact k1
        · have c3 : ¬ mIn (bA μ) 48 57 = true := fun z => k3 (hk.2.2.1.mp z)
          have sl : s < tL σ := by
            by_cases q : s < tL σ
            · exact q
            · exact absurd (kn_0.mpr (show tL σ ≤ s by omega)) k0
          have ee : en (tB σ) (tL σ) s = s + 1 := by unfold en; rw [if_neg (by omega)]; omega
          have n1 : nI s + 1 = nI (s + 1) := nI_1 _
          by_cases k4 : kn (tB σ) (tL σ) s = 4
          · have c4 := hk.2.2.2.1.mpr k4
            have k1 := fin (jup (jup μ 322 37 3) 322 35 (nI (s + 1))) ((fμ.up _ rfl).up _ rfl) (by rw [ee]; simp [jup_1]) (by simpa [jup_1] using m36) (by rw [k4]; simp [jup_1, tkc]) (fun z => by omega) (fun _ => by simpa [jup_1] using m38) (fun z => by omega)
            have d2 : ¬ mIn 59 97 122 = true := by decide
            have d3 : ¬ mIn 59 48 57 = true := by decide
            refine jvk_ok TX12_advance (V := [(287, 1, 12, oX12_byteAt)]) (S := [(117, 3, 0, oX12_inRange)]) (List.forall_mem_cons.mpr ⟨⟨mX12_byteAt, n + 0, 0, TX12, 53, rfl, by omega, kX12_287, WX12_byteAt, rfl, CX12_byteAt g (n)⟩, (fun _ h => absurd h List.not_mem_nil)⟩) (List.forall_mem_cons.mpr ⟨⟨mX12_inRange, n + 0, by omega, Or.inl kX12_117, WX12_inRange, CX12_inRange g (n)⟩, (fun _ h => absurd h List.not_mem_nil)⟩) [97, 232] 40 _ _ _ _ ?_
            simp (maxSteps := 1000000) [↓Bool.cond_eq_ite, -Prod.forall, -Prod.exists, -Prod.mk.injEq, jvk, tX12_advance, jtb, jol, jst, jlk, jcmp, jbin, jfl, fX12, jc2, lX12, jcat, jel, lv_args, Value.category, jins, jsrt, jins2, jble, jblt, jf3, List.filter_cons, List.filter_nil, G_m, oX12_byteAt, oX12_inRange, joIII, joR, -Int32.not_le, -Int32.not_lt, -Int64.not_le, -Int64.not_lt, i3lt, i6lt, r1, c0, d2, d3, c4, m35, n1, jup_1]
            try simp (disch := omega) [-Prod.forall, -Prod.exists, -Prod.mk.injEq, -Int32.not_le, -Int32.not_lt, -Int64.not_le, -Int64.not_lt, i3lt, i6lt, r1, c0, d2, d3, c4, m35, n1, jup_1]
            exact k1
          · have c4 : ¬ bA μ = 59 := fun z => k4 (hk.2.2.2.1.mp z)
            have k1 := fin (jup (jup μ 322 37 4) 322 35 (nI (s + 1))) ((fμ.up _ rfl).up _ rfl) (by rw [ee]; simp [jup_1]) (by simpa [jup_1] using m36) (by simp [jup_1, tkc, k0, k2, k3, k4]) (fun z => absurd z k3) (fun _ => by simpa [jup_1] using m38) (fun z => absurd z k2)
            refine jvk_ok TX12_advance (V := [(287, 1, 12, oX12_byteAt)]) (S := [(117, 3, 0, oX12_inRange)]) (List.forall_mem_cons.mpr ⟨⟨mX12_byteAt, n + 0, 0, TX12, 53, rfl, by omega, kX12_287, WX12_byteAt, rfl, CX12_byteAt g (n)⟩, (fun _ h => absurd h List.not_mem_nil)⟩) (List.forall_mem_cons.mpr ⟨⟨mX12_inRange, n + 0, by omega, Or.inl kX12_117, WX12_inRange, CX12_inRange g (n)⟩, (fun _ h => absurd h List.not_mem_nil)⟩) [97, 232] 40 _ _ _ _ ?_
            simp (maxSteps := 1000000) [↓Bool.cond_eq_ite, -Prod.forall, -Prod.exists, -Prod.mk.injEq, jvk, tX12_advance, jtb, jol, jst, jlk, jcmp, jbin, jfl, fX12, jc2, lX12, jcat, jel, lv_args, Value.category, jins, jsrt, jins2, jble, jblt, jf3, List.filter_cons, List.filter_nil, G_m, oX12_byteAt, oX12_inRange, joIII, joR, -Int32.not_le, -Int32.not_lt, -Int64.not_le, -Int64.not_lt, i3lt, i6lt, r1, c0, c2, c3, c4, m35, n1, jup_1]
            try simp (disch := omega) [-Prod.forall, -Prod.exists, -Prod.mk.injEq, -Int32.not_le, -Int32.not_lt, -Int64.not_le, -Int64.not_lt, i3lt, i6lt, r1, c0, c2, c3, c4, m35, n1, jup_1]
            exact k1
  · refine jCon.ofP (by decide +kernel) (by simp [lg_sl, Value.category]) (fun post hp => ?_)
    refine jvk_ok TX12_advance (V := [(287, 1, 12, oX12_byteAt)]) (S := [(117, 3, 0, oX12_inRange)]) (List.forall_mem_cons.mpr ⟨⟨mX12_byteAt, n + 0, 0, TX12, 53, rfl, by omega, kX12_287, WX12_byteAt, rfl, CX12_byteAt g (n)⟩, (fun _ h => absurd h List.not_mem_nil)⟩) (List.forall_mem_cons.mpr ⟨⟨mX12_inRange, n + 0, by omega, Or.inl kX12_117, WX12_inRange, CX12_inRange g (n)⟩, (fun _ h => absurd h List.not_mem_nil)⟩) [8] 20 _ _ _ _ ?_
    simp (maxSteps := 1000000) [↓Bool.cond_eq_ite, -Prod.forall, -Prod.exists, -Prod.mk.injEq, jvk, tX12_advance, jtb, jol, jst, jlk, jcmp, jbin, jfl, fX12, jc2, lX12, jcat, jel, lv_args, Value.category, jins, jsrt, jins2, jble, jblt, jf3, List.filter_cons, List.filter_nil, G_m, oX12_byteAt, oX12_inRange, joIII, joR, -Int32.not_le, -Int32.not_lt, -Int64.not_le, -Int64.not_lt, i3lt, i6lt, hf]
    try simp (disch := omega) [-Prod.forall, -Prod.exists, -Prod.mk.injEq, -Int32.not_le, -Int32.not_lt, -Int64.not_le, -Int64.not_lt, i3lt, i6lt, hf]
    exact hp _ _ ⟨rfl, fun _ => rfl, fun z => absurd z hf⟩
def oX12_check : jO := joRII fun a x c σ => (a = 322 ∧ (x = 0 ∨ x = 1), fun v τ => v = none ∧ τ = if σ.1 322 41 = 0 ∧ x = 0 then jup σ 322 41 c else σ)
set_option maxRecDepth 100000 in
set_option maxHeartbeats 4000000 in
theorem CX12_check (g : jG) (n : Nat) : jOk g (n + 0) mX12_check oX12_check := by
  refine joRII_ok ?_
  rintro _ x c σ ⟨rfl, hx⟩
  by_cases h : σ.1 322 41 = 0
  · rcases hx with rfl | rfl
    · refine jCon.ofP (by decide +kernel) (by simp [lg_sl, Value.category]) (fun post hp => ?_)
      refine jvk_ok TX12_check (V := []) (S := []) (fun _ h => absurd h List.not_mem_nil) (fun _ h => absurd h List.not_mem_nil) [] 20 _ _ _ _ ?_
      simp (maxSteps := 1000000) [↓Bool.cond_eq_ite, -Prod.forall, -Prod.exists, -Prod.mk.injEq, jvk, tX12_check, jtb, jol, jst, jlk, jcmp, jbin, jfl, fX12, jc2, lX12, jcat, jel, lv_args, Value.category, jins, jsrt, jins2, jble, jblt, jf3, List.filter_cons, List.filter_nil, G_m, -Int32.not_le, -Int32.not_lt, -Int64.not_le, -Int64.not_lt, i3lt, i6lt, h]
      try simp (disch := omega) [-Prod.forall, -Prod.exists, -Prod.mk.injEq, -Int32.not_le, -Int32.not_lt, -Int64.not_le, -Int64.not_lt, i3lt, i6lt, h]
      exact hp _ _ ⟨rfl, by rw [if_pos ⟨h, rfl⟩]⟩
    · refine jCon.ofP (by decide +kernel) (by simp [lg_sl, Value.category]) (fun post hp => ?_)
      refine jvk_ok TX12_check (V := []) (S := []) (fun _ h => absurd h List.not_mem_nil) (fun _ h => absurd h List.not_mem_nil) [] 20 _ _ _ _ ?_
      simp (maxSteps := 1000000) [↓Bool.cond_eq_ite, -Prod.forall, -Prod.exists, -Prod.mk.injEq, jvk, tX12_check, jtb, jol, jst, jlk, jcmp, jbin, jfl, fX12, jc2, lX12, jcat, jel, lv_args, Value.category, jins, jsrt, jins2, jble, jblt, jf3, List.filter_cons, List.filter_nil, G_m, -Int32.not_le, -Int32.not_lt, -Int64.not_le, -Int64.not_lt, i3lt, i6lt, h]
      try simp (disch := omega) [-Prod.forall, -Prod.exists, -Prod.mk.injEq, -Int32.not_le, -Int32.not_lt, -Int64.not_le, -Int64.not_lt, i3lt, i6lt, h]
      exact hp _ _ ⟨rfl, by rw [if_neg (by simp)]⟩
  · refine jCon.ofP (by decide +kernel) (by simp [lg_sl, Value.category]) (fun post hp => ?_)
    refine jvk_ok TX12_check (V := []) (S := []) (fun _ h => absurd h List.not_mem_nil) (fun _ h => absurd h List.not_mem_nil) [] 20 _ _ _ _ ?_
    simp (maxSteps := 1000000) [↓Bool.cond_eq_ite, -Prod.forall, -Prod.exists, -Prod.mk.injEq, jvk, tX12_check, jtb, jol, jst, jlk, jcmp, jbin, jfl, fX12, jc2, lX12, jcat, jel, lv_args, Value.category, jins, jsrt, jins2, jble, jblt, jf3, List.filter_cons, List.filter_nil, G_m, -Int32.not_le, -Int32.not_lt, -Int64.not_le, -Int64.not_lt, i3lt, i6lt, h]
    try simp (disch := omega) [-Prod.forall, -Prod.exists, -Prod.mk.injEq, -Int32.not_le, -Int32.not_lt, -Int64.not_le, -Int64.not_lt, i3lt, i6lt, h]
    exact hp _ _ ⟨rfl, by rw [if_neg (fun z => h z.1)]⟩
def oX12_isWord : jO := joRJ fun a w σ => (a = 322, fun v τ => v = some (.int (if σ.1 322 41 = 0 ∧ σ.1 322 37 = 1 ∧ σ.2.1 322 39 = w then 1 else 0)) ∧ τ = σ)
set_option maxRecDepth 100000 in
set_option maxHeartbeats 4000000 in
theorem CX12_isWord (g : jG) (n : Nat) : jOk g (n + 0) mX12_isWord oX12_isWord := by
  refine joRJ_ok ?_
  rintro _ w σ rfl
  by_cases h : σ.1 322 41 = 0
  · by_cases h2 : σ.1 322 37 = 1
    · by_cases h3 : σ.2.1 322 39 = w
      · refine jCon.ofP (by decide +kernel) (by simp [lg_sl, Value.category]) (fun post hp => ?_)
        refine jvk_ok TX12_isWord (V := []) (S := []) (fun _ h => absurd h List.not_mem_nil) (fun _ h => absurd h List.not_mem_nil) [] 20 _ _ _ _ ?_
        simp (maxSteps := 1000000) [↓Bool.cond_eq_ite, -Prod.forall, -Prod.exists, -Prod.mk.injEq, jvk, tX12_isWord, jtb, jol, jst, jlk, jcmp, jbin, jfl, fX12, jc2, lX12, jcat, jel, lv_args, Value.category, jins, jsrt, jins2, jble, jblt, jf3, List.filter_cons, List.filter_nil, G_m, -Int32.not_le, -Int32.not_lt, -Int64.not_le, -Int64.not_lt, i3lt, i6lt, h, h2, h3, lg_cmp_eq]
        try simp (disch := omega) [-Prod.forall, -Prod.exists, -Prod.mk.injEq, -Int32.not_le, -Int32.not_lt, -Int64.not_le, -Int64.not_lt, i3lt, i6lt, h, h2, h3, lg_cmp_eq]
        exact hp _ _ ⟨by rw [if_pos ⟨h, h2, h3⟩], rfl⟩
      · refine jCon.ofP (by decide +kernel) (by simp [lg_sl, Value.category]) (fun post hp => ?_)
        refine jvk_ok TX12_isWord (V := []) (S := []) (fun _ h => absurd h List.not_mem_nil) (fun _ h => absurd h List.not_mem_nil) [] 20 _ _ _ _ ?_
        simp (maxSteps := 1000000) [↓Bool.cond_eq_ite, -Prod.forall, -Prod.exists, -Prod.mk.injEq, jvk, tX12_isWord, jtb, jol, jst, jlk, jcmp, jbin, jfl, fX12, jc2, lX12, jcat, jel, lv_args, Value.category, jins, jsrt, jins2, jble, jblt, jf3, List.filter_cons, List.filter_nil, G_m, -Int32.not_le, -Int32.not_lt, -Int64.not_le, -Int64.not_lt, i3lt, i6lt, h, h2, h3, lg_cmp_eq]
        try simp (disch := omega) [-Prod.forall, -Prod.exists, -Prod.mk.injEq, -Int32.not_le, -Int32.not_lt, -Int64.not_le, -Int64.not_lt, i3lt, i6lt, h, h2, h3, lg_cmp_eq]
        exact hp _ _ ⟨by rw [if_neg (fun z => h3 z.2.2)], rfl⟩
    · refine jCon.ofP (by decide +kernel) (by simp [lg_sl, Value.category]) (fun post hp => ?_)
      refine jvk_ok TX12_isWord (V := []) (S := []) (fun _ h => absurd h List.not_mem_nil) (fun _ h => absurd h List.not_mem_nil) [] 20 _ _ _ _ ?_
      simp (maxSteps := 1000000) [↓Bool.cond_eq_ite, -Prod.forall, -Prod.exists, -Prod.mk.injEq, jvk, tX12_isWord, jtb, jol, jst, jlk, jcmp, jbin, jfl, fX12, jc2, lX12, jcat, jel, lv_args, Value.category, jins, jsrt, jins2, jble, jblt, jf3, List.filter_cons, List.filter_nil, G_m, -Int32.not_le, -Int32.not_lt, -Int64.not_le, -Int64.not_lt, i3lt, i6lt, h, h2]
      try simp (disch := omega) [-Prod.forall, -Prod.exists, -Prod.mk.injEq, -Int32.not_le, -Int32.not_lt, -Int64.not_le, -Int64.not_lt, i3lt, i6lt, h, h2]
      exact hp _ _ ⟨by rw [if_neg (fun z => h2 z.2.1)], rfl⟩
  · refine jCon.ofP (by decide +kernel) (by simp [lg_sl, Value.category]) (fun post hp => ?_)
    refine jvk_ok TX12_isWord (V := []) (S := []) (fun _ h => absurd h List.not_mem_nil) (fun _ h => absurd h List.not_mem_nil) [] 20 _ _ _ _ ?_
    simp (maxSteps := 1000000) [↓Bool.cond_eq_ite, -Prod.forall, -Prod.exists, -Prod.mk.injEq, jvk, tX12_isWord, jtb, jol, jst, jlk, jcmp, jbin, jfl, fX12, jc2, lX12, jcat, jel, lv_args, Value.category, jins, jsrt, jins2, jble, jblt, jf3, List.filter_cons, List.filter_nil, G_m, -Int32.not_le, -Int32.not_lt, -Int64.not_le, -Int64.not_lt, i3lt, i6lt, h]
    try simp (disch := omega) [-Prod.forall, -Prod.exists, -Prod.mk.injEq, -Int32.not_le, -Int32.not_lt, -Int64.not_le, -Int64.not_lt, i3lt, i6lt, h]
    exact hp _ _ ⟨by rw [if_neg (fun z => h z.1)], rfl⟩
