/-! twenty letters: packed into five numbers, and fed -/
theorem i8_mod (n : Nat) : (nI n).toInt8 = (nI (n % 256)).toInt8 := by
  apply Int8.toBitVec_inj.mp
  rw [Int32.toBitVec_toInt8, Int32.toBitVec_toInt8]
  apply BitVec.eq_of_toNat_eq
  show (BitVec.signExtend 8 (BitVec.ofNat 32 n)).toNat = (BitVec.signExtend 8 (BitVec.ofNat 32 (n % 256))).toNat
  rw [BitVec.signExtend_eq_setWidth_of_le _ (by decide), BitVec.signExtend_eq_setWidth_of_le _ (by decide)]
  simp only [BitVec.toNat_setWidth, BitVec.toNat_ofNat]
  omega
/-- what a word holds of its first t letters -/
def wdv (c : Nat → Nat) : Nat → Nat
  | 0 => 0
  | t + 1 => wdv c t + c t * 2 ^ (24 - 8 * t)
theorem wdv_1 (c : Nat → Nat) : wdv c 0 = 0 ∧ wdv c 1 = c 0 * 2 ^ 24 ∧ wdv c 2 = c 0 * 2 ^ 24 + c 1 * 2 ^ 16 ∧ wdv c 3 = c 0 * 2 ^ 24 + c 1 * 2 ^ 16 + c 2 * 2 ^ 8 ∧ wdv c 4 = c 0 * 2 ^ 24 + c 1 * 2 ^ 16 + c 2 * 2 ^ 8 + c 3 := by
  simp [wdv]
theorem nI_or8 {a b k : Nat} (ha : a % 2 ^ k = 0) (hb : b < 2 ^ k) : nI a ||| nI b = nI (a + b) := by
  have e : a ||| b = a + b := by
    have h := Nat.two_pow_add_eq_or_of_lt hb (a / 2 ^ k)
    have h2 := Nat.div_add_mod a (2 ^ k)
    rw [ha, Nat.add_zero] at h2
    rw [h2] at h
    exact h.symm
  rw [← e]
  apply Int32.toBitVec_inj.mp
  rw [Int32.toBitVec_or]
  show BitVec.ofNat 32 a ||| BitVec.ofNat 32 b = BitVec.ofNat 32 (a ||| b)
  exact BitVec.ofNat_or.symm
/-- one letter more -/
theorem wdv_s {c : Nat → Nat} {t : Nat} (ht : t < 4) (hc : ∀ t, c t < 128) : nI (wdv c t) ||| (nI (c t) <<< (nI (24 - 8 * t) &&& 31)) = nI (wdv c (t + 1)) := by
  have h0 := hc 0
  have h1 := hc 1
  have h2 := hc 2
  have h3 := hc 3
  obtain ⟨w0, w1, w2, w3, w4⟩ := wdv_1 c
  have ht' : t = 0 ∨ t = 1 ∨ t = 2 ∨ t = 3 := by omega
  rcases ht' with rfl | rfl | rfl | rfl
  · rw [pk_shlN (n := c 0) (nI (24 - 8 * 0) &&& 31) 24 (by decide) (by omega), w0, w1, nI_or8 (k := 31) (by decide) (by omega), Nat.zero_add]
  · rw [pk_shlN (n := c 1) (nI (24 - 8 * 1) &&& 31) 16 (by decide) (by omega), w1, w2, nI_or8 (k := 24) (by omega) (by omega)]
  · rw [pk_shlN (n := c 2) (nI (24 - 8 * 2) &&& 31) 8 (by decide) (by omega), w2, w3, nI_or8 (k := 16) (by omega) (by omega)]
  · rw [pk_shlN (n := c 3) (nI (24 - 8 * 3) &&& 31) 0 (by decide) (by omega), w3, w4, nI_or8 (k := 8) (by omega) (by omega), Nat.pow_zero, Nat.mul_one]
theorem by8_w {c : Nat → Nat} {i : Nat} (hi : i < 4) (hc : ∀ t, c t < 128) : by8 (nI (wdv c 4)) (24 - 8 * i) = nI (c i) := by
  have h0 := hc 0
  have h1 := hc 1
  have h2 := hc 2
  have h3 := hc 3
  obtain ⟨-, -, -, -, w4⟩ := wdv_1 c
  unfold by8
  have fin : ∀ q, q % 256 = c i → (nI q).toInt8.toInt32 = nI (c i) := fun q hq => by
    rw [i8_mod, hq]
    exact (bf_t (c i) (hc i)).2.2.1
  have hi' : i = 0 ∨ i = 1 ∨ i = 2 ∨ i = 3 := by omega
  rcases hi' with rfl | rfl | rfl | rfl
  · rw [pk_shrN (by omega) (nI (24 - 8 * 0) &&& 31) 24 (by decide)]
    exact fin _ (by omega)
  · rw [pk_shrN (by omega) (nI (24 - 8 * 1) &&& 31) 16 (by decide)]
    exact fin _ (by omega)
  · rw [pk_shrN (by omega) (nI (24 - 8 * 2) &&& 31) 8 (by decide)]
    exact fin _ (by omega)
  · rw [pk_shrN (by omega) (nI (24 - 8 * 3) &&& 31) 0 (by decide)]
    exact fin _ (by omega)
/-- the five words behind i of the letters -/
def pkW (c : Nat → Nat) (i m : Nat) : Int32 := nI (wdv (fun t => c (4 * m + t)) (min 4 (i - 4 * m)))
theorem pkW_0 (c : Nat → Nat) : pkW c 0 = fun _ => 0 := by
  funext m
  unfold pkW
  rw [Nat.zero_sub, Nat.min_eq_right (by omega)]
  rfl
theorem pkW_s {c : Nat → Nat} {i : Nat} (hc : ∀ t, c t < 128) : (fun m => if m = i / 4 then pkW c i (i / 4) ||| (nI (c i) <<< (nI (24 - 8 * (i % 4)) &&& 31)) else pkW c i m) = pkW c (i + 1) := by
  funext m
  by_cases q : m = i / 4
  · rw [if_pos q]
    unfold pkW
    have e1 : min 4 (i - 4 * (i / 4)) = i % 4 := by omega
    have e2 : min 4 (i + 1 - 4 * m) = i % 4 + 1 := by omega
    have e3 := wdv_s (c := fun t => c (4 * (i / 4) + t)) (t := i % 4) (by omega) (fun t => hc _)
    have e4 : 4 * (i / 4) + i % 4 = i := by omega
    rw [e4] at e3
    rw [e1, e2, q]
    exact e3
  · rw [if_neg q]
    unfold pkW
    have e1 : min 4 (i - 4 * m) = min 4 (i + 1 - 4 * m) := by omega
    rw [e1]
theorem pkW_20 (c : Nat → Nat) {m i : Nat} (hm : m < 5) (hi : i < 4) (hc : ∀ t, c t < 128) : by8 (pkW c 20 m) (24 - 8 * i) = nI (c (4 * m + i)) := by
  unfold pkW
  have e1 : min 4 (20 - 4 * m) = 4 := by omega
  rw [e1]
  exact by8_w (c := fun t => c (4 * m + t)) hi (fun t => hc _)
/-! feed, by a snapshot that nothing has been loaded into -/
def xFd (s0 : jM) (n : Nat) (f : Nat → Nat) : Prop := xRk s0 0 0 0 ∧ s0.1 322 32 = nI n ∧ ∀ j, j < n → s0.1 346 j = nI (f j)
theorem apS_in {c o k : Nat} {σ : jM} {x : Int32} {n i : Nat} (hi : i < 4) : (apS c o k σ x n).1 c (n + i) = by8 x (24 - 8 * i) := by
  rw [apS_1, if_pos ⟨rfl, by omega, by omega⟩, show n + i - n = i by omega]
theorem apS_out {c o k : Nat} {σ : jM} {x : Int32} {n j : Nat} (hc : c ≠ o) (hj : j < n ∨ n + 4 ≤ j) : (apS c o k σ x n).1 c j = σ.1 c j := by
  rw [apS_1, if_neg (fun z => by omega), if_neg (fun z => hc z.1)]
theorem xFd_fd {τ : jM} {n : Nat} {f : Nat → Nat} {c : Nat → Nat} (hc : ∀ t, c t < 128) (hcf : ∀ t, t < 20 → c t = f (n + t)) (h : ∀ j, j < n → τ.1 346 j = nI (f j)) : ∀ j, j < n + 20 → (fdS 346 322 32 τ (pkW c 20 0) (pkW c 20 1) (pkW c 20 2) (pkW c 20 3) (pkW c 20 4) n).1 346 j = nI (f j) := by
  intro j hj
  unfold fdS
  by_cases q : j < n
  · rw [apS_out (by decide) (by omega), apS_out (by decide) (by omega), apS_out (by decide) (by omega), apS_out (by decide) (by omega), apS_out (by decide) (by omega)]
    exact h j q
  · obtain ⟨t, rfl⟩ : ∃ t, j = n + t := ⟨j - n, by omega⟩
    have ht : t < 20 := by omega
    rw [← hcf t ht]
    have key : ∀ m i, m < 5 → i < 4 → t = 4 * m + i → by8 (pkW c 20 m) (24 - 8 * i) = nI (c t) := fun m i hm hi e => by
      rw [e]
      exact pkW_20 c hm hi hc
    have cs : t < 4 ∨ (4 ≤ t ∧ t < 8) ∨ (8 ≤ t ∧ t < 12) ∨ (12 ≤ t ∧ t < 16) ∨ (16 ≤ t ∧ t < 20) := by omega
    rcases cs with a | a | a | a | a
    · rw [apS_out (by decide) (by omega), apS_out (by decide) (by omega), apS_out (by decide) (by omega), apS_out (by decide) (by omega), apS_in a]
      exact key 0 t (by omega) a (by omega)
    · rw [apS_out (by decide) (by omega), apS_out (by decide) (by omega), apS_out (by decide) (by omega), show n + t = n + 4 + (t - 4) by omega, apS_in (by omega)]
      exact key 1 (t - 4) (by omega) (by omega) (by omega)
    · rw [apS_out (by decide) (by omega), apS_out (by decide) (by omega), show n + t = n + 8 + (t - 8) by omega, apS_in (by omega)]
      exact key 2 (t - 8) (by omega) (by omega) (by omega)
    · rw [apS_out (by decide) (by omega), show n + t = n + 12 + (t - 12) by omega, apS_in (by omega)]
      exact key 3 (t - 12) (by omega) (by omega) (by omega)
    · rw [show n + t = n + 16 + (t - 16) by omega, apS_in (by omega)]
      exact key 4 (t - 16) (by omega) (by omega) (by omega)
def qX11_feed (n : Nat) (f c : Nat → Nat) : jO := joRIIIII fun a x1 x2 x3 x4 x5 σ => (a = 0 ∧ (x1 = pkW c 20 0 ∧ x2 = pkW c 20 1 ∧ x3 = pkW c 20 2 ∧ x4 = pkW c 20 3 ∧ x5 = pkW c 20 4) ∧ n + 20 ≤ 900 ∧ (∀ t, c t < 128) ∧ (∀ t, t < 20 → c t = f (n + t)) ∧ xFd σ n f, fun v τ => (∃ x, v = some (.int x)) ∧ ∃ s1, gE9 τ s1 ∧ xFd s1 (n + 20) f)
theorem xFd_feed (g : jG) (k n : Nat) (x1 x2 x3 x4 x5 : Int32) {σ : jM} (hn : n + 20 ≤ 900) (hx : xRk σ 0 0 0) (h2 : σ.1 322 32 = nI n) : jCon g (k + 1) mX11_feed [.ref 0, .int x1, .int x2, .int x3, .int x4, .int x5] σ (fun v τ => (∃ x, v = some (.int x)) ∧ ∃ s1, gE9 τ s1 ∧ xRk s1 0 0 0 ∧ s1.1 322 32 = nI (n + 20) ∧ s1.1 346 = (fdS 346 322 32 σ x1 x2 x3 x4 x5 n).1 346) := by
  obtain ⟨p1, p2⟩ := xs_feed x1 x2 x3 x4 x5 σ ⟨0, 0, 0, hx⟩
  refine (CX11_feed g k [.ref 0, .int x1, .int x2, .int x3, .int x4, .int x5] σ p1).imp (fun v τ hv => ?_)
  obtain ⟨o1, o2⟩ := p2 v τ hv
  have cl : (nI n).toNatClampNeg = n := nI_clamp (by omega)
  have mq : mQ σ τ := by
    rcases hv with ⟨_, _, e⟩ | ⟨_, _, e⟩
    · intro a _
      rw [e]
    · intro a ha
      funext j
      rw [e]
      exact fdS_o (by omega) (by omega)
  have bt : bfN τ = n := by
    unfold bfN
    rw [mq 322 (by omega), h2, cl]
  obtain ⟨υ, eυ⟩ : ∃ υ, υ = fdS 346 322 32 (jup τ 322 11 0) x1 x2 x3 x4 x5 n := ⟨_, rfl⟩
  obtain ⟨w1, w2, R', N', K', w3⟩ := o2 (some (.int (nI (n + 20)))) υ (Or.inr ⟨by rw [bt]; exact hn, by rw [bt], by rw [bt]; exact eυ⟩)
  refine ⟨w1, υ, fun a ha => ⟨funext fun j => ?_, by rw [eυ]; rfl, by rw [eυ]; rfl⟩, ?_, ?_, ?_⟩
  · rw [eυ, fdS_o (by omega) (by omega), jup_1, if_neg (by omega)]
  · have u : ∀ j, j = 3 ∨ j = 4 ∨ j = 5 → υ.1 322 j = σ.1 322 j := fun j hj => by
      rw [eυ, fdS_o (by omega) (by omega), jup_1, if_neg (by omega), mq 322 (by omega)]
    obtain ⟨-, -, a3, a4, a5, -⟩ := xv_n hx
    obtain ⟨-, -, b3, b4, b9, -⟩ := xv_n w3
    have c3 : mN υ = mN σ := by unfold mN; rw [u 4 (by omega)]
    have c4 : mRo υ = mRo σ := by unfold mRo; rw [u 3 (by omega)]
    have c5 : mPl υ = mPl σ := by unfold mPl; rw [u 5 (by omega)]
    rw [b3, a3] at c3
    rw [b4, a4] at c4
    rw [b9, a5] at c5
    subst c3 c4 c5
    exact w3
  · rw [eυ]
    exact fdS_k (by decide)
  · have e346 : (jup τ 322 11 0).1 346 = σ.1 346 := funext fun j => by rw [jup_1, if_neg (by omega), mq 346 (by omega)]
    rw [eυ]
    unfold fdS
    exact apS_two _ _ (by decide) (by decide) (apS_two _ _ (by decide) (by decide) (apS_two _ _ (by decide) (by decide) (apS_two _ _ (by decide) (by decide) (apS_two _ _ (by decide) (by decide) e346))))
theorem QX11_feed (g : jG) (k : Nat) (n : Nat) (f c : Nat → Nat) : jOk g (k + 1) mX11_feed (qX11_feed n f c) := by
  refine joRIIIII_ok ?_
  rintro a x1 x2 x3 x4 x5 σ ⟨e0, ⟨e1, e2, e3, e4, e5⟩, hn, hc, hcf, hx, h2, h3⟩
  subst e0
  refine (xFd_feed g k n x1 x2 x3 x4 x5 hn hx h2).imp (fun v τ hv => ?_)
  obtain ⟨w1, s1, w2, w3, w4, w5⟩ := hv
  refine ⟨w1, s1, w2, w3, w4, fun j hj => ?_⟩
  rw [w5, e1, e2, e3, e4, e5]
  exact xFd_fd hc hcf h3 j hj
