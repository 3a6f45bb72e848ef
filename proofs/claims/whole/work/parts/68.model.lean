/-! the reference: the buffer that is fed, the text that is written -/
/-- a byte of an int -/
def by8 (x : Int32) (s : Nat) : Int32 := (x >>> (nI s &&& 31)).toInt8.toInt32
/-- four bytes more, in the cell c, their number in the field k of o -/
def apS (c o k : Nat) (σ : jM) (x : Int32) (n : Nat) : jM := (fun a j => if a = c ∧ n ≤ j ∧ j < n + 4 then by8 x (24 - 8 * (j - n)) else if a = o ∧ j = k then nI (n + 4) else σ.1 a j, σ.2)
theorem apS_1 (c o k : Nat) (σ : jM) (x : Int32) (n a j : Nat) : (apS c o k σ x n).1 a j = if a = c ∧ n ≤ j ∧ j < n + 4 then by8 x (24 - 8 * (j - n)) else if a = o ∧ j = k then nI (n + 4) else σ.1 a j := rfl
theorem apS_eq {c o k : Nat} (hco : c ≠ o) (σ : jM) (x : Int32) (n : Nat) (y1 y2 y3 : Int32) : jup (jup (jup (jup (jup (jup (jup (jup σ c n (by8 x 24)) o k y1) c (n + 1) (by8 x 16)) o k y2) c (n + 2) (by8 x 8)) o k y3) c (n + 3) (by8 x 0)) o k (nI (n + 4)) = apS c o k σ x n := by
  unfold jup apS
  congr 1
  funext a j
  dsimp only
  by_cases e : a = c
  · subst e
    have e2 : ¬ (a = o ∧ j = k) := fun z => hco z.1
    simp only [e2, if_false, true_and]
    by_cases h : n ≤ j ∧ j < n + 4
    · rw [if_pos h]
      obtain ⟨i, hi, rfl⟩ : ∃ i, i < 4 ∧ j = n + i := ⟨j - n, by omega, by omega⟩
      rcases i with _ | _ | _ | _ | i
      · simp
      · simp
      · simp
      · simp
      · omega
    · rw [if_neg h, if_neg (by omega), if_neg (by omega), if_neg (by omega), if_neg (by omega)]
  · simp only [e, false_and, if_false]
    by_cases h : a = o ∧ j = k
    · simp [h]
    · simp [h]
def oX12_append : jO := joRI fun a x σ => (a = 322 ∧ ∃ n, σ.1 322 32 = nI n ∧ n + 4 ≤ 900, fun v τ => v = none ∧ τ = apS 346 322 32 σ x (σ.1 322 32).toNatClampNeg)
set_option maxRecDepth 100000 in
set_option maxHeartbeats 4000000 in
theorem CX12_append (g : jG) (n : Nat) : jOk g (n + 0) mX12_append oX12_append := by
  refine joRI_ok ?_
  rintro _ x σ ⟨rfl, m, hm, hm4⟩
  have a0 : jin (nI m) 900 ∧ (nI m).toNatClampNeg = m := ⟨jin_nI (by omega) (by decide), nI_clamp (by omega)⟩
  have a1 : jin (nI (m + 1)) 900 ∧ (nI (m + 1)).toNatClampNeg = m + 1 := ⟨jin_nI (by omega) (by decide), nI_clamp (by omega)⟩
  have a2 : jin (nI (m + 1 + 1)) 900 ∧ (nI (m + 1 + 1)).toNatClampNeg = m + 2 := ⟨jin_nI (by omega) (by decide), nI_clamp (by omega)⟩
  have a3 : jin (nI (m + 1 + 1 + 1)) 900 ∧ (nI (m + 1 + 1 + 1)).toNatClampNeg = m + 3 := ⟨jin_nI (by omega) (by decide), nI_clamp (by omega)⟩
  have b0 : ∀ z : Int32, vp_nar .byte z.toInt8.toInt32 = z.toInt8.toInt32 := pk_vb
  have c24 : (x >>> ((24 : Int32) &&& 31)).toInt8.toInt32 = by8 x 24 := rfl
  have c16 : (x >>> ((24 + -8 : Int32) &&& 31)).toInt8.toInt32 = by8 x 16 := rfl
  have c8 : (x >>> ((24 + -8 + -8 : Int32) &&& 31)).toInt8.toInt32 = by8 x 8 := rfl
  have c0 : (x >>> ((24 + -8 + -8 + -8 : Int32) &&& 31)).toInt8.toInt32 = by8 x 0 := rfl
  have key : ∀ (σ : jM) (m : Nat) (s t : Int32) (y : Int32), σ.1 322 32 = nI m → m < 900 → ¬ s < 0 → (x >>> (s &&& 31)).toInt8.toInt32 = y → s + -8 = t → ∀ post : Option Value → jM → Prop, jW g mX12_append n post 3 [(0, .ref 322), (1, .int x), (2, .int t)] [] (jup (jup σ 346 m y) 322 32 (nI (m + 1))) → jW g mX12_append n post 3 [(0, .ref 322), (1, .int x), (2, .int s)] [] σ := by
    intro σ m s t y h1 h2 h3 h4 h5 post k
    have j1 : jin (nI m) 900 := jin_nI h2 (by decide)
    have j2 : (nI m).toNatClampNeg = m := nI_clamp (by omega)
    have hy : vp_nar .byte y = y := by rw [← h4]; exact b0 _
    refine jvk_ok TX12_append (V := []) (S := []) (fun _ h => absurd h List.not_mem_nil) (fun _ h => absurd h List.not_mem_nil) [3] 20 _ _ _ _ ?_
    simp (maxSteps := 1000000) [↓Bool.cond_eq_ite, -Prod.forall, -Prod.exists, -Prod.mk.injEq, jvk, tX12_append, jtb, jol, jst, jlk, jcmp, jbin, jfl, fX12, jc2, lX12, jcat, jel, lv_args, Value.category, jins, jsrt, jins2, jble, jblt, jf3, List.filter_cons, List.filter_nil, G_m, -Int32.not_le, -Int32.not_lt, -Int64.not_le, -Int64.not_lt, i3lt, i6lt, h1, h3, h4, h5, j1, j2, hy, jup_1, nI_1]
    try simp (disch := omega) [-Prod.forall, -Prod.exists, -Prod.mk.injEq, -Int32.not_le, -Int32.not_lt, -Int64.not_le, -Int64.not_lt, i3lt, i6lt, h1, h3, h4, h5, j1, j2, hy, jup_1, nI_1]
    exact k
  refine jCon.ofP (by decide +kernel) (by simp [lg_sl, Value.category]) (fun post hp => ?_)
  refine jvk_ok TX12_append (V := []) (S := []) (fun _ h => absurd h List.not_mem_nil) (fun _ h => absurd h List.not_mem_nil) [3] 10 _ _ _ _ ?_
  simp (maxSteps := 1000000) [↓Bool.cond_eq_ite, -Prod.forall, -Prod.exists, -Prod.mk.injEq, jvk, tX12_append, jtb, jol, jst, jlk, jcmp, jbin, jfl, fX12, jc2, lX12, jcat, jel, lv_args, Value.category, jins, jsrt, jins2, jble, jblt, jf3, List.filter_cons, List.filter_nil, G_m, -Int32.not_le, -Int32.not_lt, -Int64.not_le, -Int64.not_lt, i3lt, i6lt]
  try simp (disch := omega) [-Prod.forall, -Prod.exists, -Prod.mk.injEq, -Int32.not_le, -Int32.not_lt, -Int64.not_le, -Int64.not_lt, i3lt, i6lt]
  refine key σ m 24 16 (by8 x 24) hm (by omega) (by decide) rfl (by decide) _ ?_
  refine key _ (m + 1) 16 8 (by8 x 16) (by simp [jup_1]) (by omega) (by decide) rfl (by decide) _ ?_
  refine key _ (m + 2) 8 0 (by8 x 8) (by simp [jup_1]) (by omega) (by decide) rfl (by decide) _ ?_
  refine key _ (m + 3) 0 (-8) (by8 x 0) (by simp [jup_1]) (by omega) (by decide) rfl (by decide) _ ?_
  have eS := apS_eq (c := 346) (o := 322) (k := 32) (by decide) σ x m (nI (m + 1)) (nI (m + 2)) (nI (m + 3))
  have n8 : (-8 : Int32) < 0 := by decide
  rw [show m + 1 + 1 = m + 2 from rfl, show m + 2 + 1 = m + 3 from rfl, show m + 3 + 1 = m + 4 from rfl, eS]
  refine jvk_ok TX12_append (V := []) (S := []) (fun _ h => absurd h List.not_mem_nil) (fun _ h => absurd h List.not_mem_nil) [] 10 _ _ _ _ ?_
  simp (maxSteps := 1000000) [↓Bool.cond_eq_ite, -Prod.forall, -Prod.exists, -Prod.mk.injEq, jvk, tX12_append, jtb, jol, jst, jlk, jcmp, jbin, jfl, fX12, jc2, lX12, jcat, jel, lv_args, Value.category, jins, jsrt, jins2, jble, jblt, jf3, List.filter_cons, List.filter_nil, G_m, -Int32.not_le, -Int32.not_lt, -Int64.not_le, -Int64.not_lt, i3lt, i6lt, n8]
  try simp (disch := omega) [-Prod.forall, -Prod.exists, -Prod.mk.injEq, -Int32.not_le, -Int32.not_lt, -Int64.not_le, -Int64.not_lt, i3lt, i6lt, n8]
  exact hp _ _ ⟨rfl, by rw [hm, nI_clamp (by omega)]⟩
/-- twenty bytes more -/
def fdS (c o k : Nat) (σ : jM) (x1 x2 x3 x4 x5 : Int32) (n : Nat) : jM := apS c o k (apS c o k (apS c o k (apS c o k (apS c o k σ x1 n) x2 (n + 4)) x3 (n + 8)) x4 (n + 12)) x5 (n + 16)
def bfN (σ : jM) : Nat := (σ.1 322 32).toNatClampNeg
def bOK (σ : jM) : Prop := 0 ≤ σ.1 322 32 ∧ σ.1 322 32 ≤ 900
theorem bf_ok {σ : jM} (h : bOK σ) : bfN σ ≤ 900 ∧ σ.1 322 32 = nI (bfN σ) := by
  obtain ⟨s, h1, h2, h3⟩ := nI_rng h.1 h.2 (by decide)
  unfold bfN
  rw [h3]
  exact ⟨h1, h2⟩
def oX12_feed : jO := joRIIIII fun a x1 x2 x3 x4 x5 σ => (a = 322 ∧ bOK σ, fun v τ => (¬ bfN σ + 20 ≤ 900 ∧ v = some (.int (-3)) ∧ τ = jup σ 322 11 0) ∨ (bfN σ + 20 ≤ 900 ∧ v = some (.int (nI (bfN σ + 20))) ∧ τ = fdS 346 322 32 (jup σ 322 11 0) x1 x2 x3 x4 x5 (bfN σ)))
set_option maxRecDepth 100000 in
set_option maxHeartbeats 4000000 in
theorem CX12_feed (g : jG) (n : Nat) : jOk g (n + 1) mX12_feed oX12_feed := by
  refine joRIIIII_ok ?_
  rintro _ x1 x2 x3 x4 x5 σ ⟨rfl, hb⟩
  obtain ⟨m, h1, h2⟩ : ∃ m, m ≤ 900 ∧ σ.1 322 32 = nI m := ⟨_, bf_ok hb⟩
  have em : bfN σ = m := by unfold bfN; rw [h2, nI_clamp (by omega)]
  have e20 : nI m + 20 = nI (m + 20) := nI_add m 20
  by_cases h : m + 20 ≤ 900
  · have c1 : nI (m + 20) ≤ 900 := nI_le (b := 900) h (by decide)
    have ap : ∀ (ρ : jM) (x : Int32) (q : Nat), (apS 346 322 32 ρ x q).1 322 32 = nI (q + 4) := fun ρ x q => by
      rw [apS_1, if_neg (fun z => by omega), if_pos ⟨rfl, rfl⟩]
    have p0 : ∃ q, nI m = nI q ∧ q ≤ 896 := ⟨m, rfl, by omega⟩
    have p1 : ∃ q, nI (m + 4) = nI q ∧ q ≤ 896 := ⟨m + 4, rfl, by omega⟩
    have p2 : ∃ q, nI (m + 8) = nI q ∧ q ≤ 896 := ⟨m + 8, rfl, by omega⟩
    have p3 : ∃ q, nI (m + 12) = nI q ∧ q ≤ 896 := ⟨m + 12, rfl, by omega⟩
    have p4 : ∃ q, nI (m + 16) = nI q ∧ q ≤ 896 := ⟨m + 16, rfl, by omega⟩
    have ap0 := fun (ρ : jM) (x : Int32) => ap ρ x m
    have ap1 : ∀ (ρ : jM) (x : Int32), (apS 346 322 32 ρ x (m + 4)).1 322 32 = nI (m + 8) := fun ρ x => ap ρ x (m + 4)
    have ap2 : ∀ (ρ : jM) (x : Int32), (apS 346 322 32 ρ x (m + 8)).1 322 32 = nI (m + 12) := fun ρ x => ap ρ x (m + 8)
    have ap3 : ∀ (ρ : jM) (x : Int32), (apS 346 322 32 ρ x (m + 12)).1 322 32 = nI (m + 16) := fun ρ x => ap ρ x (m + 12)
    have ap4 : ∀ (ρ : jM) (x : Int32), (apS 346 322 32 ρ x (m + 16)).1 322 32 = nI (m + 20) := fun ρ x => ap ρ x (m + 16)
    have k0 : (nI m).toNatClampNeg = m := nI_clamp (by omega)
    have k1 : (nI (m + 4)).toNatClampNeg = m + 4 := nI_clamp (by omega)
    have k2 : (nI (m + 8)).toNatClampNeg = m + 8 := nI_clamp (by omega)
    have k3 : (nI (m + 12)).toNatClampNeg = m + 12 := nI_clamp (by omega)
    have k4 : (nI (m + 16)).toNatClampNeg = m + 16 := nI_clamp (by omega)
    refine jCon.ofP (by decide +kernel) (by simp [lg_sl, Value.category]) (fun post hp => ?_)
    refine jvk_ok TX12_feed (V := [(275, 2, 12, oX12_append)]) (S := []) (List.forall_mem_cons.mpr ⟨⟨mX12_append, n + 0, 1, TX12, 53, rfl, by omega, kX12_275, WX12_append, rfl, CX12_append g (n)⟩, (fun _ h => absurd h List.not_mem_nil)⟩) (fun _ h => absurd h List.not_mem_nil) [] 60 _ _ _ _ ?_
    simp (maxSteps := 1000000) [↓Bool.cond_eq_ite, -Prod.forall, -Prod.exists, -Prod.mk.injEq, jvk, tX12_feed, jtb, jol, jst, jlk, jcmp, jbin, jfl, fX12, jc2, lX12, jcat, jel, lv_args, Value.category, jins, jsrt, jins2, jble, jblt, jf3, List.filter_cons, List.filter_nil, G_m, oX12_append, joRI, -Int32.not_le, -Int32.not_lt, -Int64.not_le, -Int64.not_lt, i3lt, i6lt, h2, e20, c1, jup_1, p0, p1, p2, p3, p4, ap0, ap1, ap2, ap3, ap4, k0, k1, k2, k3, k4]
    try simp (disch := omega) [-Prod.forall, -Prod.exists, -Prod.mk.injEq, -Int32.not_le, -Int32.not_lt, -Int64.not_le, -Int64.not_lt, i3lt, i6lt, h2, e20, c1, jup_1, p0, p1, p2, p3, p4, ap0, ap1, ap2, ap3, ap4, k0, k1, k2, k3, k4]
    exact hp _ _ (Or.inr ⟨by rw [em]; exact h, by rw [em], by rw [em]; rfl⟩)
  · have c1 : ¬ nI (m + 20) ≤ 900 := nI_ge (a := 900) (by omega) (by omega)
    refine jCon.ofP (by decide +kernel) (by simp [lg_sl, Value.category]) (fun post hp => ?_)
    refine jvk_ok TX12_feed (V := [(275, 2, 12, oX12_append)]) (S := []) (List.forall_mem_cons.mpr ⟨⟨mX12_append, n + 0, 1, TX12, 53, rfl, by omega, kX12_275, WX12_append, rfl, CX12_append g (n)⟩, (fun _ h => absurd h List.not_mem_nil)⟩) (fun _ h => absurd h List.not_mem_nil) [] 60 _ _ _ _ ?_
    simp (maxSteps := 1000000) [↓Bool.cond_eq_ite, -Prod.forall, -Prod.exists, -Prod.mk.injEq, jvk, tX12_feed, jtb, jol, jst, jlk, jcmp, jbin, jfl, fX12, jc2, lX12, jcat, jel, lv_args, Value.category, jins, jsrt, jins2, jble, jblt, jf3, List.filter_cons, List.filter_nil, G_m, oX12_append, joRI, -Int32.not_le, -Int32.not_lt, -Int64.not_le, -Int64.not_lt, i3lt, i6lt, h2, e20, c1, jup_1]
    try simp (disch := omega) [-Prod.forall, -Prod.exists, -Prod.mk.injEq, -Int32.not_le, -Int32.not_lt, -Int64.not_le, -Int64.not_lt, i3lt, i6lt, h2, e20, c1, jup_1]
    exact hp _ _ (Or.inl ⟨by rw [em]; exact h, rfl, rfl⟩)
/-! the text that is written -/
/-- signs behind those that were written: the cell c, their number in the field k of o -/
def ouS (c o k : Nat) (σ : jM) (s : Nat) (L : List Int32) : jM := (fun a j => if a = c ∧ s ≤ j ∧ j < s + L.length then L.getD (j - s) 0 else if a = o ∧ j = k then nI (s + L.length) else σ.1 a j, σ.2)
theorem ouS_1 (c o k : Nat) (σ : jM) (s : Nat) (L : List Int32) (a j : Nat) : (ouS c o k σ s L).1 a j = if a = c ∧ s ≤ j ∧ j < s + L.length then L.getD (j - s) 0 else if a = o ∧ j = k then nI (s + L.length) else σ.1 a j := rfl
theorem gd_r (L L' : List Int32) (i : Nat) (h : L.length ≤ i) : (L ++ L').getD i 0 = L'.getD (i - L.length) 0 := by
  rw [List.getD_eq_getElem?_getD, List.getD_eq_getElem?_getD, List.getElem?_append_right h]
theorem gd_l (L L' : List Int32) (i : Nat) (h : i < L.length) : (L ++ L').getD i 0 = L.getD i 0 := by
  rw [List.getD_eq_getElem?_getD, List.getD_eq_getElem?_getD, List.getElem?_append_left h]
theorem ouS_app (c o k : Nat) (σ : jM) (s : Nat) (L L' : List Int32) (hco : c ≠ o) : ouS c o k (ouS c o k σ s L) (s + L.length) L' = ouS c o k σ s (L ++ L') := by
  unfold ouS
  congr 1
  funext a j
  dsimp only
  simp only [List.length_append]
  by_cases e : a = c
  · have e2 : ¬ (a = o ∧ j = k) := fun z => hco (e ▸ z.1)
    simp only [e, true_and] at *
    by_cases h1 : s + L.length ≤ j ∧ j < s + L.length + L'.length
    · rw [if_pos h1, if_pos (by omega), gd_r _ _ _ (by omega)]
      congr 1
      omega
    · rw [if_neg h1, if_neg e2]
      by_cases h2 : s ≤ j ∧ j < s + L.length
      · rw [if_pos h2, if_pos (by omega), gd_l _ _ _ (by omega)]
      · rw [if_neg h2, if_neg e2, if_neg (by omega), if_neg e2]
  · simp only [e, false_and, if_false]
    by_cases h : a = o ∧ j = k
    · rw [if_pos h, if_pos h, Nat.add_assoc]
    · rw [if_neg h, if_neg h, if_neg h]
theorem ouS_nil (c o k : Nat) (σ : jM) (s : Nat) (h : σ.1 o k = nI s) : ouS c o k σ s [] = σ := by
  unfold ouS
  have : (fun a j => if a = c ∧ s ≤ j ∧ j < s + ([] : List Int32).length then ([] : List Int32).getD (j - s) 0 else if a = o ∧ j = k then nI (s + ([] : List Int32).length) else σ.1 a j) = σ.1 := by
    funext a j
    simp only [List.length_nil, Nat.add_zero]
    rw [if_neg (by omega)]
    by_cases e : a = o ∧ j = k
    · rw [if_pos e, e.1, e.2, h]
    · rw [if_neg e]
  rw [this]
theorem ouS_up (c o k : Nat) (σ : jM) (s : Nat) (x : Int32) (hco : c ≠ o) : jup (jup σ c s x) o k (nI (s + 1)) = ouS c o k σ s [x] := by
  unfold ouS jup
  congr 1
  funext a j
  dsimp only
  simp only [List.length_cons, List.length_nil]
  by_cases e : a = c
  · have e2 : ¬ (a = o ∧ j = k) := fun z => hco (e ▸ z.1)
    rw [if_neg e2, if_neg e2]
    by_cases h : j = s
    · subst h
      rw [if_pos ⟨e, rfl⟩, if_pos ⟨e, by omega, by omega⟩, Nat.sub_self]
      rfl
    · rw [if_neg (fun z => h z.2), if_neg (by omega)]
  · simp [e]
abbrev uM (σ : jM) (s : Nat) (L : List Int32) : jM := ouS 351 322 52 σ s L
theorem uM_app (σ : jM) (s : Nat) (L L' : List Int32) : uM (uM σ s L) (s + L.length) L' = uM σ s (L ++ L') := ouS_app _ _ _ _ _ _ _ (by decide)
def oX12_lay : jO := joRI fun a x σ => (a = 322 ∧ ∃ s, σ.1 322 52 = nI s ∧ s < 400, fun v τ => v = none ∧ τ = uM σ (σ.1 322 52).toNatClampNeg [x])
set_option maxRecDepth 100000 in
set_option maxHeartbeats 4000000 in
theorem CX12_lay (g : jG) (n : Nat) : jOk g (n + 0) mX12_lay oX12_lay := by
  refine joRI_ok ?_
  rintro _ x σ ⟨rfl, s, hs, hs4⟩
  have a1 : jin (nI s) 400 := jin_nI hs4 (by decide)
  have a2 : (nI s).toNatClampNeg = s := nI_clamp (by omega)
  have eS := ouS_up 351 322 52 σ s x (by decide)
  refine jCon.ofP (by decide +kernel) (by simp [lg_sl, Value.category]) (fun post hp => ?_)
  refine jvk_ok TX12_lay (V := []) (S := []) (fun _ h => absurd h List.not_mem_nil) (fun _ h => absurd h List.not_mem_nil) [] 20 _ _ _ _ ?_
  simp (maxSteps := 1000000) [↓Bool.cond_eq_ite, -Prod.forall, -Prod.exists, -Prod.mk.injEq, jvk, tX12_lay, jtb, jol, jst, jlk, jcmp, jbin, jfl, fX12, jc2, lX12, jcat, jel, lv_args, Value.category, jins, jsrt, jins2, jble, jblt, jf3, List.filter_cons, List.filter_nil, G_m, -Int32.not_le, -Int32.not_lt, -Int64.not_le, -Int64.not_lt, i3lt, i6lt, hs, a1, a2, jup_1, nI_1, eS]
  try simp (disch := omega) [-Prod.forall, -Prod.exists, -Prod.mk.injEq, -Int32.not_le, -Int32.not_lt, -Int64.not_le, -Int64.not_lt, i3lt, i6lt, hs, a1, a2, jup_1, nI_1, eS]
  exact hp _ _ ⟨rfl, by rw [hs, a2]⟩
/-- a letter of a name -/
def ltr (x : Int32) (i : Nat) : Int32 := (x >>> (iI (25 - 5 * (i : Int)) &&& 31)) &&& 31
def nmL (x : Int32) : Nat → List Int32
  | 0 => []
  | i + 1 => nmL x i ++ if ltr x i ≤ 0 then [] else [96 + ltr x i]
theorem nmL_len (x : Int32) : ∀ i, (nmL x i).length ≤ i
  | 0 => Nat.le_refl _
  | i + 1 => by
    have := nmL_len x i
    simp only [nmL, List.length_append]
    split <;> simp <;> omega
def oX12_layName : jO := joRI fun a x σ => (a = 322 ∧ ∃ s, σ.1 322 52 = nI s ∧ s ≤ 394, fun v τ => v = none ∧ τ = uM σ (σ.1 322 52).toNatClampNeg (nmL x 6))
theorem uM_52 (σ : jM) (s : Nat) (L : List Int32) : (uM σ s L).1 322 52 = nI (s + L.length) := by
  rw [ouS_1, if_neg (fun z => by omega), if_pos ⟨rfl, rfl⟩]
set_option maxRecDepth 100000 in
set_option maxHeartbeats 4000000 in
theorem CX12_layName (g : jG) (n : Nat) : jOk g (n + 1) mX12_layName oX12_layName := by
  refine joRI_ok ?_
  rintro _ x σ ⟨rfl, s, hs, hs4⟩
  have a2 : (nI s).toNatClampNeg = s := nI_clamp (by omega)
  refine jCon.ofP (by decide +kernel) (by simp [lg_sl, Value.category]) (fun post hp => ?_)
  refine jvk_ok TX12_layName (V := [(390, 2, 12, oX12_lay)]) (S := []) (List.forall_mem_cons.mpr ⟨⟨mX12_lay, n + 0, 1, TX12, 53, rfl, by omega, kX12_390, WX12_lay, rfl, CX12_lay g (n)⟩, (fun _ h => absurd h List.not_mem_nil)⟩) (fun _ h => absurd h List.not_mem_nil) [3] 20 _ _ _ _ ?_
  simp (maxSteps := 1000000) [↓Bool.cond_eq_ite, -Prod.forall, -Prod.exists, -Prod.mk.injEq, jvk, tX12_layName, jtb, jol, jst, jlk, jcmp, jbin, jfl, fX12, jc2, lX12, jcat, jel, lv_args, Value.category, jins, jsrt, jins2, jble, jblt, jf3, List.filter_cons, List.filter_nil, G_m, oX12_lay, joRI, -Int32.not_le, -Int32.not_lt, -Int64.not_le, -Int64.not_lt, i3lt, i6lt]
  try simp (disch := omega) [-Prod.forall, -Prod.exists, -Prod.mk.injEq, -Int32.not_le, -Int32.not_lt, -Int64.not_le, -Int64.not_lt, i3lt, i6lt]
  have key := jloop (P := fun i => jW g mX12_layName (n + 1) post 3 [(0, .ref 322), (1, .int x), (2, .int (iI (25 - 5 * (i : Int))))] [] (uM σ s (nmL x i))) (N := 6) (by
    have n5 : ¬ 0 ≤ iI (-5) := by decide
    refine jvk_ok TX12_layName (V := [(390, 2, 12, oX12_lay)]) (S := []) (List.forall_mem_cons.mpr ⟨⟨mX12_lay, n + 0, 1, TX12, 53, rfl, by omega, kX12_390, WX12_lay, rfl, CX12_lay g (n)⟩, (fun _ h => absurd h List.not_mem_nil)⟩) (fun _ h => absurd h List.not_mem_nil) [3] 20 _ _ _ _ ?_
    simp (maxSteps := 1000000) [↓Bool.cond_eq_ite, -Prod.forall, -Prod.exists, -Prod.mk.injEq, jvk, tX12_layName, jtb, jol, jst, jlk, jcmp, jbin, jfl, fX12, jc2, lX12, jcat, jel, lv_args, Value.category, jins, jsrt, jins2, jble, jblt, jf3, List.filter_cons, List.filter_nil, G_m, oX12_lay, joRI, -Int32.not_le, -Int32.not_lt, -Int64.not_le, -Int64.not_lt, i3lt, i6lt, n5]
    try simp (disch := omega) [-Prod.forall, -Prod.exists, -Prod.mk.injEq, -Int32.not_le, -Int32.not_lt, -Int64.not_le, -Int64.not_lt, i3lt, i6lt, n5]
    exact hp _ _ ⟨rfl, by rw [hs, a2]⟩) (fun i hi ih => by
    have hl := nmL_len x i
    have n5 : ¬ iI (25 - 5 * (i : Int)) < 0 := fun z => by
      have := (iI_lt (y := 0) ⟨by omega, by omega⟩ (by decide)).mp z
      omega
    have e5 : iI (25 - 5 * (i : Int)) + -5 = iI (25 - 5 * ((i + 1 : Nat) : Int)) := by
      have := iI_add (25 - 5 * (i : Int)) (-5)
      rw [show (25 - 5 * (i : Int)) + -5 = 25 - 5 * ((i + 1 : Nat) : Int) by omega] at this
      exact this
    have eL : (x >>> (iI (25 - 5 * (i : Int)) &&& 31)) &&& 31 = ltr x i := rfl
    have e52 := uM_52 σ s (nmL x i)
    have hpre : ∃ q, nI (s + (nmL x i).length) = nI q ∧ q < 400 := ⟨_, rfl, by omega⟩
    have ecl : (nI (s + (nmL x i).length)).toNatClampNeg = s + (nmL x i).length := nI_clamp (by omega)
    simp only [nmL] at ih
    by_cases c : ltr x i ≤ 0
    · rw [if_pos c, List.append_nil] at ih
      refine jvk_ok TX12_layName (V := [(390, 2, 12, oX12_lay)]) (S := []) (List.forall_mem_cons.mpr ⟨⟨mX12_lay, n + 0, 1, TX12, 53, rfl, by omega, kX12_390, WX12_lay, rfl, CX12_lay g (n)⟩, (fun _ h => absurd h List.not_mem_nil)⟩) (fun _ h => absurd h List.not_mem_nil) [3] 20 _ _ _ _ ?_
      simp (maxSteps := 1000000) [↓Bool.cond_eq_ite, -Prod.forall, -Prod.exists, -Prod.mk.injEq, jvk, tX12_layName, jtb, jol, jst, jlk, jcmp, jbin, jfl, fX12, jc2, lX12, jcat, jel, lv_args, Value.category, jins, jsrt, jins2, jble, jblt, jf3, List.filter_cons, List.filter_nil, G_m, oX12_lay, joRI, -Int32.not_le, -Int32.not_lt, -Int64.not_le, -Int64.not_lt, i3lt, i6lt, n5, e5, eL, c]
      try simp (disch := omega) [-Prod.forall, -Prod.exists, -Prod.mk.injEq, -Int32.not_le, -Int32.not_lt, -Int64.not_le, -Int64.not_lt, i3lt, i6lt, n5, e5, eL, c]
      exact jW.mono ih (by simp)
    · rw [if_neg c, ← uM_app] at ih
      refine jvk_ok TX12_layName (V := [(390, 2, 12, oX12_lay)]) (S := []) (List.forall_mem_cons.mpr ⟨⟨mX12_lay, n + 0, 1, TX12, 53, rfl, by omega, kX12_390, WX12_lay, rfl, CX12_lay g (n)⟩, (fun _ h => absurd h List.not_mem_nil)⟩) (fun _ h => absurd h List.not_mem_nil) [3] 20 _ _ _ _ ?_
      simp (maxSteps := 1000000) [↓Bool.cond_eq_ite, -Prod.forall, -Prod.exists, -Prod.mk.injEq, jvk, tX12_layName, jtb, jol, jst, jlk, jcmp, jbin, jfl, fX12, jc2, lX12, jcat, jel, lv_args, Value.category, jins, jsrt, jins2, jble, jblt, jf3, List.filter_cons, List.filter_nil, G_m, oX12_lay, joRI, -Int32.not_le, -Int32.not_lt, -Int64.not_le, -Int64.not_lt, i3lt, i6lt, n5, e5, eL, c, e52, hpre, ecl]
      try simp (disch := omega) [-Prod.forall, -Prod.exists, -Prod.mk.injEq, -Int32.not_le, -Int32.not_lt, -Int64.not_le, -Int64.not_lt, i3lt, i6lt, n5, e5, eL, c, e52, hpre, ecl]
      exact jW.mono ih (by simp))
  have e0 : iI (25 - 5 * ((0 : Nat) : Int)) = 25 := by decide
  have e1 : uM σ s (nmL x 0) = σ := ouS_nil _ _ _ _ _ hs
  rw [e0, e1] at key
  exact key
/-- digits, those of the powers below 10^k -/
def dgL (m : Nat) : Nat → List Int32
  | 0 => []
  | k + 1 => (if 10 ^ k ≤ m ∨ k = 0 then [nI (48 + m / 10 ^ k % 10)] else []) ++ dgL m k
theorem dgL_len (m : Nat) : ∀ k, (dgL m k).length ≤ k
  | 0 => Nat.le_refl _
  | k + 1 => by
    have := dgL_len m k
    simp only [dgL, List.length_append]
    split <;> simp <;> omega
theorem dgL_top {m : Nat} : ∀ (d k : Nat), m < 10 ^ (k + 1) → dgL m (k + 1 + d) = dgL m (k + 1)
  | 0, _, _ => rfl
  | d + 1, k, h => by
    have e : k + 1 + (d + 1) = (k + 1 + d) + 1 := by omega
    have h1 : 10 ^ (k + 1) ≤ 10 ^ (k + 1 + d) := Nat.pow_le_pow_right (by decide) (by omega)
    rw [e]
    simp only [dgL]
    rw [if_neg (by omega), List.nil_append]
    exact dgL_top d k h
def nbL (z : Int) : List Int32 := (if z < 0 then [45] else []) ++ dgL z.natAbs 10
theorem nbL_len (z : Int) : (nbL z).length ≤ 11 := by
  have := dgL_len z.natAbs 10
  unfold nbL
  simp only [List.length_append]
  split <;> simp <;> omega
def oX12_layNumber : jO := joRI fun a x σ => (a = 322 ∧ (∃ s, σ.1 322 52 = nI s ∧ s ≤ 380) ∧ ∃ z, x = iI z ∧ -1000000000 < z ∧ z < 1000000000, fun v τ => v = none ∧ τ = uM σ (σ.1 322 52).toNatClampNeg (nbL x.toInt))
set_option maxRecDepth 100000 in
set_option maxHeartbeats 4000000 in
theorem CX12_layNumber (g : jG) (n : Nat) : jOk g (n + 1) mX12_layNumber oX12_layNumber := by
  refine joRI_ok ?_
  rintro _ _ σ ⟨rfl, ⟨s, hs, hs4⟩, z, rfl, hz1, hz2⟩
  have a2 : (nI s).toNatClampNeg = s := nI_clamp (by omega)
  have ez : (iI z).toInt = z := iI_toInt ⟨by omega, by omega⟩
  obtain ⟨m, em⟩ : ∃ m, m = z.natAbs := ⟨_, rfl⟩
  have hm : m < 1000000000 := by omega
  -- the digits
  have digits : ∀ (post : Option Value → jM → Prop) (j : Nat) (ρ : jM) (t : Nat), j ≤ 8 → ρ.1 322 52 = nI t → t + j ≤ 395 → (∀ k, k ≤ j → 10 ^ k ≤ m ∨ k = 0) → post none (uM ρ t (dgL m (j + 1))) → jW g mX12_layNumber (n + 1) post 39 [(0, .ref 322), (2, .int (nI m)), (3, .int (nI (10 ^ j)))] [] ρ := by
    intro post j
    induction j with
    | zero =>
      intro ρ t _ ht htb hk k
      have hpre : ∃ q, nI t = nI q ∧ q < 400 := ⟨t, rfl, by omega⟩
      have ecl : (nI t).toNatClampNeg = t := nI_clamp (by omega)
      have e1 : nI (10 ^ 0) = 1 := rfl
      have er : nI m - nI m / 10 * 10 = nI (m % 10) := pk_rem (d := 10) (by omega) (by decide) (by decide)
      have ea : 48 + nI (m % 10) = nI (48 + m % 10) := nI_add 48 _
      have c1 : ¬ (1 : Int32) ≤ 0 := by decide
      have c2 : (1 : Int32) / 10 = 0 := by decide
      have c3 : (0 : Int32) ≤ 0 := by decide
      have c4 : ¬ (1 : Int32) = 0 := by decide
      have eD : dgL m (0 + 1) = [nI (48 + m % 10)] := by
        simp [dgL]
      rw [eD] at k
      rw [e1]
      refine jvk_ok TX12_layNumber (V := [(390, 2, 12, oX12_lay)]) (S := []) (List.forall_mem_cons.mpr ⟨⟨mX12_lay, n + 0, 1, TX12, 53, rfl, by omega, kX12_390, WX12_lay, rfl, CX12_lay g (n)⟩, (fun _ h => absurd h List.not_mem_nil)⟩) (fun _ h => absurd h List.not_mem_nil) [39] 40 _ _ _ _ ?_
      simp (maxSteps := 1000000) [↓Bool.cond_eq_ite, -Prod.forall, -Prod.exists, -Prod.mk.injEq, jvk, tX12_layNumber, jtb, jol, jst, jlk, jcmp, jbin, jfl, fX12, jc2, lX12, jcat, jel, lv_args, Value.category, jins, jsrt, jins2, jble, jblt, jf3, List.filter_cons, List.filter_nil, G_m, oX12_lay, joRI, -Int32.not_le, -Int32.not_lt, -Int64.not_le, -Int64.not_lt, i3lt, i6lt, c1, c2, c3, c4, er, ea, ht, hpre, ecl]
      try simp (disch := omega) [-Prod.forall, -Prod.exists, -Prod.mk.injEq, -Int32.not_le, -Int32.not_lt, -Int64.not_le, -Int64.not_lt, i3lt, i6lt, c1, c2, c3, c4, er, ea, ht, hpre, ecl]
      refine jvk_ok TX12_layNumber (V := [(390, 2, 12, oX12_lay)]) (S := []) (List.forall_mem_cons.mpr ⟨⟨mX12_lay, n + 0, 1, TX12, 53, rfl, by omega, kX12_390, WX12_lay, rfl, CX12_lay g (n)⟩, (fun _ h => absurd h List.not_mem_nil)⟩) (fun _ h => absurd h List.not_mem_nil) [] 40 _ _ _ _ ?_
      simp (maxSteps := 1000000) [↓Bool.cond_eq_ite, -Prod.forall, -Prod.exists, -Prod.mk.injEq, jvk, tX12_layNumber, jtb, jol, jst, jlk, jcmp, jbin, jfl, fX12, jc2, lX12, jcat, jel, lv_args, Value.category, jins, jsrt, jins2, jble, jblt, jf3, List.filter_cons, List.filter_nil, G_m, oX12_lay, joRI, -Int32.not_le, -Int32.not_lt, -Int64.not_le, -Int64.not_lt, i3lt, i6lt, c3]
      try simp (disch := omega) [-Prod.forall, -Prod.exists, -Prod.mk.injEq, -Int32.not_le, -Int32.not_lt, -Int64.not_le, -Int64.not_lt, i3lt, i6lt, c3]
      exact k
    | succ j ih =>
      intro ρ t hj ht htb hk k
      have hpre : ∃ q, nI t = nI q ∧ q < 400 := ⟨t, rfl, by omega⟩
      have ecl : (nI t).toNatClampNeg = t := nI_clamp (by omega)
      have hp9 : 10 ^ (j + 1) ≤ 10 ^ 8 := Nat.pow_le_pow_right (by decide) (by omega)
      have hp0 : 0 < 10 ^ (j + 1) := Nat.pos_of_ne_zero (by simp)
      have hp8 : (10 : Nat) ^ 8 = 100000000 := by decide
      have ed : nI m / nI (10 ^ (j + 1)) = nI (m / 10 ^ (j + 1)) := pk_div (by omega) hp0 (by omega)
      have hdl : m / 10 ^ (j + 1) ≤ m := Nat.div_le_self _ _
      have er : nI (m / 10 ^ (j + 1)) - nI (m / 10 ^ (j + 1)) / 10 * 10 = nI (m / 10 ^ (j + 1) % 10) := pk_rem (d := 10) (by omega) (by decide) (by decide)
      have ea : 48 + nI (m / 10 ^ (j + 1) % 10) = nI (48 + m / 10 ^ (j + 1) % 10) := nI_add 48 _
      have c1 : ¬ nI (10 ^ (j + 1)) ≤ 0 := nI_nle hp0 (by omega)
      have c4 : ¬ nI (10 ^ (j + 1)) = 0 := nI_ne0 hp0 (by omega)
      have c2 : nI (10 ^ (j + 1)) / 10 = nI (10 ^ j) := by
        have := pk_div (a := 10 ^ (j + 1)) (d := 10) (by omega) (by decide) (by decide)
        rw [Nat.pow_succ, Nat.mul_div_cancel _ (by decide)] at this
        rw [Nat.pow_succ]
        exact this
      have eD : dgL m (j + 1 + 1) = [nI (48 + m / 10 ^ (j + 1) % 10)] ++ dgL m (j + 1) := by
        show (if 10 ^ (j + 1) ≤ m ∨ j + 1 = 0 then [nI (48 + m / 10 ^ (j + 1) % 10)] else []) ++ dgL m (j + 1) = _
        rw [if_pos (hk (j + 1) (Nat.le_refl _))]
      rw [eD, ← uM_app] at k
      have k1 := ih (uM ρ t [nI (48 + m / 10 ^ (j + 1) % 10)]) (t + 1) (by omega) (uM_52 _ _ _) (by omega) (fun q hq => hk q (by omega)) k
      refine jvk_ok TX12_layNumber (V := [(390, 2, 12, oX12_lay)]) (S := []) (List.forall_mem_cons.mpr ⟨⟨mX12_lay, n + 0, 1, TX12, 53, rfl, by omega, kX12_390, WX12_lay, rfl, CX12_lay g (n)⟩, (fun _ h => absurd h List.not_mem_nil)⟩) (fun _ h => absurd h List.not_mem_nil) [39] 40 _ _ _ _ ?_
      simp (maxSteps := 1000000) [↓Bool.cond_eq_ite, -Prod.forall, -Prod.exists, -Prod.mk.injEq, jvk, tX12_layNumber, jtb, jol, jst, jlk, jcmp, jbin, jfl, fX12, jc2, lX12, jcat, jel, lv_args, Value.category, jins, jsrt, jins2, jble, jblt, jf3, List.filter_cons, List.filter_nil, G_m, oX12_lay, joRI, -Int32.not_le, -Int32.not_lt, -Int64.not_le, -Int64.not_lt, i3lt, i6lt, c1, c2, c4, ed, er, ea, ht, hpre, ecl]
      try simp (disch := omega) [-Prod.forall, -Prod.exists, -Prod.mk.injEq, -Int32.not_le, -Int32.not_lt, -Int64.not_le, -Int64.not_lt, i3lt, i6lt, c1, c2, c4, ed, er, ea, ht, hpre, ecl]
      exact k1
  -- the greatest power
  have powers : ∀ (post : Option Value → jM → Prop) (ρ : jM) (t : Nat), ρ.1 322 52 = nI t → t ≤ 381 → post none (uM ρ t (dgL m 10)) → ∀ (d k : Nat), k + d = 8 → (∀ q, q ≤ k → 10 ^ q ≤ m ∨ q = 0) → jW g mX12_layNumber (n + 1) post 23 [(0, .ref 322), (2, .int (nI m)), (3, .int (nI (10 ^ k)))] [] ρ := by
    intro post ρ t ht htb kk d
    induction d with
    | zero =>
      intro k hk hq
      have hp9 : 10 ^ k = 100000000 := by rw [show k = 8 by omega]
      have ed : nI m / nI (10 ^ k) = nI (m / 10 ^ k) := pk_div (by omega) (by omega) (by omega)
      have c4 : ¬ nI (10 ^ k) = 0 := nI_ne0 (by omega) (by omega)
      have c9 : nI (m / 10 ^ k) ≤ 9 := nI_le (b := 9) (by rw [hp9]; omega) (by decide)
      have k1 := digits post k ρ t (by omega) ht (by omega) hq (by
        have e := dgL_top (m := m) 1 k (by rw [Nat.pow_succ, hp9]; omega)
        rw [show k + 1 + 1 = 10 by omega] at e
        rw [← e]; exact kk)
      refine jvk_ok TX12_layNumber (V := [(390, 2, 12, oX12_lay)]) (S := []) (List.forall_mem_cons.mpr ⟨⟨mX12_lay, n + 0, 1, TX12, 53, rfl, by omega, kX12_390, WX12_lay, rfl, CX12_lay g (n)⟩, (fun _ h => absurd h List.not_mem_nil)⟩) (fun _ h => absurd h List.not_mem_nil) [23, 39] 40 _ _ _ _ ?_
      simp (maxSteps := 1000000) [↓Bool.cond_eq_ite, -Prod.forall, -Prod.exists, -Prod.mk.injEq, jvk, tX12_layNumber, jtb, jol, jst, jlk, jcmp, jbin, jfl, fX12, jc2, lX12, jcat, jel, lv_args, Value.category, jins, jsrt, jins2, jble, jblt, jf3, List.filter_cons, List.filter_nil, G_m, oX12_lay, joRI, -Int32.not_le, -Int32.not_lt, -Int64.not_le, -Int64.not_lt, i3lt, i6lt, c4, ed, c9]
      try simp (disch := omega) [-Prod.forall, -Prod.exists, -Prod.mk.injEq, -Int32.not_le, -Int32.not_lt, -Int64.not_le, -Int64.not_lt, i3lt, i6lt, c4, ed, c9]
      exact k1
    | succ d ih =>
      intro k hk hq
      have hp9 : 10 ^ k ≤ 10 ^ 7 := Nat.pow_le_pow_right (by decide) (by omega)
      have hp7 : (10 : Nat) ^ 7 = 10000000 := by decide
      have hp0 : 0 < 10 ^ k := Nat.pos_of_ne_zero (by simp)
      have ed : nI m / nI (10 ^ k) = nI (m / 10 ^ k) := pk_div (by omega) hp0 (by omega)
      have hdl : m / 10 ^ k ≤ m := Nat.div_le_self _ _
      have c4 : ¬ nI (10 ^ k) = 0 := nI_ne0 hp0 (by omega)
      by_cases c : m / 10 ^ k ≤ 9
      · have c9 : nI (m / 10 ^ k) ≤ 9 := nI_le (b := 9) c (by decide)
        have hlt : m < 10 ^ (k + 1) := by
          rw [Nat.pow_succ]
          have := Nat.div_add_mod m (10 ^ k)
          have := Nat.mod_lt m hp0
          have h3 : 10 ^ k * (m / 10 ^ k) ≤ 10 ^ k * 9 := Nat.mul_le_mul_left _ c
          omega
        have k1 := digits post k ρ t (by omega) ht (by omega) hq (by
          have e := dgL_top (m := m) (9 - k) k hlt
          rw [show k + 1 + (9 - k) = 10 by omega] at e
          rw [← e]; exact kk)
        refine jvk_ok TX12_layNumber (V := [(390, 2, 12, oX12_lay)]) (S := []) (List.forall_mem_cons.mpr ⟨⟨mX12_lay, n + 0, 1, TX12, 53, rfl, by omega, kX12_390, WX12_lay, rfl, CX12_lay g (n)⟩, (fun _ h => absurd h List.not_mem_nil)⟩) (fun _ h => absurd h List.not_mem_nil) [23, 39] 40 _ _ _ _ ?_
        simp (maxSteps := 1000000) [↓Bool.cond_eq_ite, -Prod.forall, -Prod.exists, -Prod.mk.injEq, jvk, tX12_layNumber, jtb, jol, jst, jlk, jcmp, jbin, jfl, fX12, jc2, lX12, jcat, jel, lv_args, Value.category, jins, jsrt, jins2, jble, jblt, jf3, List.filter_cons, List.filter_nil, G_m, oX12_lay, joRI, -Int32.not_le, -Int32.not_lt, -Int64.not_le, -Int64.not_lt, i3lt, i6lt, c4, ed, c9]
        try simp (disch := omega) [-Prod.forall, -Prod.exists, -Prod.mk.injEq, -Int32.not_le, -Int32.not_lt, -Int64.not_le, -Int64.not_lt, i3lt, i6lt, c4, ed, c9]
        exact k1
      · have c9 : ¬ nI (m / 10 ^ k) ≤ 9 := nI_ge (a := 9) (by omega) (by omega)
        have em10 : nI (10 ^ k) * 10 = nI (10 ^ (k + 1)) := by rw [Nat.pow_succ]; exact pk_mul _ 10
        have hle : 10 ^ (k + 1) ≤ m := by
          rw [Nat.pow_succ]
          have h1 : 10 ≤ m / 10 ^ k := by omega
          have := Nat.div_mul_le_self m (10 ^ k)
          have h3 : 10 ^ k * 10 ≤ 10 ^ k * (m / 10 ^ k) := Nat.mul_le_mul_left _ h1
          rw [Nat.mul_comm (m / 10 ^ k)] at this
          omega
        have k1 := ih (k + 1) (by omega) (fun q hq2 => by
          by_cases e : q = k + 1
          · subst e; exact Or.inl hle
          · exact hq q (by omega))
        refine jvk_ok TX12_layNumber (V := [(390, 2, 12, oX12_lay)]) (S := []) (List.forall_mem_cons.mpr ⟨⟨mX12_lay, n + 0, 1, TX12, 53, rfl, by omega, kX12_390, WX12_lay, rfl, CX12_lay g (n)⟩, (fun _ h => absurd h List.not_mem_nil)⟩) (fun _ h => absurd h List.not_mem_nil) [23, 39] 40 _ _ _ _ ?_
        simp (maxSteps := 1000000) [↓Bool.cond_eq_ite, -Prod.forall, -Prod.exists, -Prod.mk.injEq, jvk, tX12_layNumber, jtb, jol, jst, jlk, jcmp, jbin, jfl, fX12, jc2, lX12, jcat, jel, lv_args, Value.category, jins, jsrt, jins2, jble, jblt, jf3, List.filter_cons, List.filter_nil, G_m, oX12_lay, joRI, -Int32.not_le, -Int32.not_lt, -Int64.not_le, -Int64.not_lt, i3lt, i6lt, c4, ed, c9, em10]
        try simp (disch := omega) [-Prod.forall, -Prod.exists, -Prod.mk.injEq, -Int32.not_le, -Int32.not_lt, -Int64.not_le, -Int64.not_lt, i3lt, i6lt, c4, ed, c9, em10]
        exact k1
  have e1 : nI (10 ^ 0) = 1 := rfl
  refine jCon.ofP (by decide +kernel) (by simp [lg_sl, Value.category]) (fun post hp => ?_)
  refine jvk_ok TX12_layNumber (V := [(390, 2, 12, oX12_lay)]) (S := []) (List.forall_mem_cons.mpr ⟨⟨mX12_lay, n + 0, 1, TX12, 53, rfl, by omega, kX12_390, WX12_lay, rfl, CX12_lay g (n)⟩, (fun _ h => absurd h List.not_mem_nil)⟩) (fun _ h => absurd h List.not_mem_nil) [10] 1 _ _ _ _ ?_
  simp (maxSteps := 1000000) [↓Bool.cond_eq_ite, -Prod.forall, -Prod.exists, -Prod.mk.injEq, jvk, tX12_layNumber, jtb, jol, jst, jlk, jcmp, jbin, jfl, fX12, jc2, lX12, jcat, jel, lv_args, Value.category, jins, jsrt, jins2, jble, jblt, jf3, List.filter_cons, List.filter_nil, G_m, oX12_lay, joRI, -Int32.not_le, -Int32.not_lt, -Int64.not_le, -Int64.not_lt, i3lt, i6lt]
  try simp (disch := omega) [-Prod.forall, -Prod.exists, -Prod.mk.injEq, -Int32.not_le, -Int32.not_lt, -Int64.not_le, -Int64.not_lt, i3lt, i6lt]
  rw [ez, hs, a2] at hp
  by_cases c : z < 0
  · have c1 : iI z < 0 := (iI_lt (y := 0) ⟨by omega, by omega⟩ (by decide)).mpr c
    have c1' : ¬ 0 ≤ iI z := by grind
    have eneg : - iI z = nI m := by
      rw [← Int32.zero_sub]
      have := iI_sub 0 z
      rw [show (0 : Int) - z = (m : Int) by omega] at this
      exact this
    have hpre : ∃ q, nI s = nI q ∧ q < 400 := ⟨s, rfl, by omega⟩
    have eL : nbL z = [45] ++ dgL m 10 := by unfold nbL; rw [if_pos c, ← em]
    rw [eL, ← uM_app] at hp
    have k1 := powers post (uM σ s [45]) (s + 1) (uM_52 _ _ _) (by omega) (hp _ _ ⟨rfl, rfl⟩) 8 0 (by omega) (fun q hq => Or.inr (by omega))
    rw [e1] at k1
    refine jvk_ok TX12_layNumber (V := [(390, 2, 12, oX12_lay)]) (S := []) (List.forall_mem_cons.mpr ⟨⟨mX12_lay, n + 0, 1, TX12, 53, rfl, by omega, kX12_390, WX12_lay, rfl, CX12_lay g (n)⟩, (fun _ h => absurd h List.not_mem_nil)⟩) (fun _ h => absurd h List.not_mem_nil) [10] 40 _ _ _ _ ?_
    simp (maxSteps := 1000000) [↓Bool.cond_eq_ite, -Prod.forall, -Prod.exists, -Prod.mk.injEq, jvk, tX12_layNumber, jtb, jol, jst, jlk, jcmp, jbin, jfl, fX12, jc2, lX12, jcat, jel, lv_args, Value.category, jins, jsrt, jins2, jble, jblt, jf3, List.filter_cons, List.filter_nil, G_m, oX12_lay, joRI, -Int32.not_le, -Int32.not_lt, -Int64.not_le, -Int64.not_lt, i3lt, i6lt, c1, c1', hs, hpre, a2]
    try simp (disch := omega) [-Prod.forall, -Prod.exists, -Prod.mk.injEq, -Int32.not_le, -Int32.not_lt, -Int64.not_le, -Int64.not_lt, i3lt, i6lt, c1, c1', hs, hpre, a2]
    refine jvk_ok TX12_layNumber (V := [(390, 2, 12, oX12_lay)]) (S := []) (List.forall_mem_cons.mpr ⟨⟨mX12_lay, n + 0, 1, TX12, 53, rfl, by omega, kX12_390, WX12_lay, rfl, CX12_lay g (n)⟩, (fun _ h => absurd h List.not_mem_nil)⟩) (fun _ h => absurd h List.not_mem_nil) [23] 40 _ _ _ _ ?_
    simp (maxSteps := 1000000) [↓Bool.cond_eq_ite, -Prod.forall, -Prod.exists, -Prod.mk.injEq, jvk, tX12_layNumber, jtb, jol, jst, jlk, jcmp, jbin, jfl, fX12, jc2, lX12, jcat, jel, lv_args, Value.category, jins, jsrt, jins2, jble, jblt, jf3, List.filter_cons, List.filter_nil, G_m, oX12_lay, joRI, -Int32.not_le, -Int32.not_lt, -Int64.not_le, -Int64.not_lt, i3lt, i6lt, c1, c1', eneg]
    try simp (disch := omega) [-Prod.forall, -Prod.exists, -Prod.mk.injEq, -Int32.not_le, -Int32.not_lt, -Int64.not_le, -Int64.not_lt, i3lt, i6lt, c1, c1', eneg]
    exact jW.mono k1 (by simp)
  · have c1 : ¬ iI z < 0 := fun w => c ((iI_lt (y := 0) ⟨by omega, by omega⟩ (by decide)).mp w)
    have c1' : 0 ≤ iI z := by grind
    have ezm : iI z = nI m := by rw [show z = (m : Int) by omega]; rfl
    have eL : nbL z = dgL m 10 := by unfold nbL; rw [if_neg c, ← em]; rfl
    rw [eL] at hp
    have k1 := powers post σ s hs (by omega) (hp _ _ ⟨rfl, rfl⟩) 8 0 (by omega) (fun q hq => Or.inr (by omega))
    rw [e1, ← ezm] at k1
    refine jvk_ok TX12_layNumber (V := [(390, 2, 12, oX12_lay)]) (S := []) (List.forall_mem_cons.mpr ⟨⟨mX12_lay, n + 0, 1, TX12, 53, rfl, by omega, kX12_390, WX12_lay, rfl, CX12_lay g (n)⟩, (fun _ h => absurd h List.not_mem_nil)⟩) (fun _ h => absurd h List.not_mem_nil) [23, 10] 40 _ _ _ _ ?_
    simp (maxSteps := 1000000) [↓Bool.cond_eq_ite, -Prod.forall, -Prod.exists, -Prod.mk.injEq, jvk, tX12_layNumber, jtb, jol, jst, jlk, jcmp, jbin, jfl, fX12, jc2, lX12, jcat, jel, lv_args, Value.category, jins, jsrt, jins2, jble, jblt, jf3, List.filter_cons, List.filter_nil, G_m, oX12_lay, joRI, -Int32.not_le, -Int32.not_lt, -Int64.not_le, -Int64.not_lt, i3lt, i6lt, c1, c1']
    try simp (disch := omega) [-Prod.forall, -Prod.exists, -Prod.mk.injEq, -Int32.not_le, -Int32.not_lt, -Int64.not_le, -Int64.not_lt, i3lt, i6lt, c1, c1']
    refine jvk_ok TX12_layNumber (V := [(390, 2, 12, oX12_lay)]) (S := []) (List.forall_mem_cons.mpr ⟨⟨mX12_lay, n + 0, 1, TX12, 53, rfl, by omega, kX12_390, WX12_lay, rfl, CX12_lay g (n)⟩, (fun _ h => absurd h List.not_mem_nil)⟩) (fun _ h => absurd h List.not_mem_nil) [23] 40 _ _ _ _ ?_
    simp (maxSteps := 1000000) [↓Bool.cond_eq_ite, -Prod.forall, -Prod.exists, -Prod.mk.injEq, jvk, tX12_layNumber, jtb, jol, jst, jlk, jcmp, jbin, jfl, fX12, jc2, lX12, jcat, jel, lv_args, Value.category, jins, jsrt, jins2, jble, jblt, jf3, List.filter_cons, List.filter_nil, G_m, oX12_lay, joRI, -Int32.not_le, -Int32.not_lt, -Int64.not_le, -Int64.not_lt, i3lt, i6lt, c1, c1']
    try simp (disch := omega) [-Prod.forall, -Prod.exists, -Prod.mk.injEq, -Int32.not_le, -Int32.not_lt, -Int64.not_le, -Int64.not_lt, i3lt, i6lt, c1, c1']
    exact jW.mono k1 (by simp)
