/-! the law's text read: a person, lease, deposit, a plan -/
theorem u1_ne {μ : pM} {a k i j : Nat} {x : Int32} (h : ¬ (i = a ∧ j = k)) : u1 μ a k x i j = μ i j := if_neg h
theorem u1_eq {μ : pM} {a k : Nat} {x : Int32} : u1 μ a k x a k = x := if_pos ⟨rfl, rfl⟩
section NJ9
variable {b : Nat → Int32} {len : Nat} {f : Nat → Nat}
theorem st_pers (h : tfx b len f) {s c v w M P : Nat} {y : Int32} {μ : pM} (h1 : sg f s 19 7) (h2 : f (s + 7) = c) (hc : 97 ≤ c ∧ c ≤ 122) (h3 : f (s + 8) = 32) (hv : v < 10000) (h4 : ∀ i, i < sb_dg v → f (s + 9 + i) = sb_dec v i) (ew : w = s + 9 + sb_dg v) (h5 : vaAt f w M y) (h6 : f (w + vsN y M) = 59) (hs : w + vsN y M + 1 ≤ len) (h7 : nb f len (w + vsN y M + 1)) (hM : 1 ≤ M ∧ M ≤ 4) (rM : rm μ = M) (pP : pe μ = P) (hP : P < 10) (hd : ∀ p, p < P → ¬ μ 349 p = nI ((c - 96) * 33554432)) (h0 : ∀ r, r < M → μ 347 (8 + 20 * P + (7 + r)) = 0) :
    ¬ kn b len s = 0 ∧ ∃ μ', pStmt b len s μ = .inr (w + vsN y M + 1, μ') ∧ (μ' 322 44 = nI (P + 1) ∧ μ' 349 P = nI ((c - 96) * 33554432) ∧ μ' 347 (8 + 20 * P + 1) = nI v) ∧ (∀ a j, ¬ (a = 347 ∧ (j = 8 + 20 * P + 1 ∨ ∃ r', r' < M ∧ (j = 8 + 20 * P + (7 + r') ∨ j = 8 + 20 * P + (13 + r')))) → ¬ (a = 349 ∧ j = P) → ¬ (a = 322 ∧ j = 44) → μ' a j = μ a j) ∧ ∀ r, r < M → μ' 347 (8 + 20 * P + (7 + r)) = nI (vzX y r) ∧ μ' 347 (8 + 20 * P + (13 + r)) = if rzX y r = true then 1 else 0 := by
  have hd9 := sbdg4 hv
  obtain ⟨w1, w2⟩ := sgW (l := wPerson) h1 (by decide +kernel) (by decide +kernel)
  obtain ⟨a1, a2, a3, a4⟩ := tok_w h (l := wPerson) (by decide) (by decide) w1 (by show s + 6 + 1 < len; omega) w2 (not_blank ⟨2, by omega, by show kd (f (s + 7)) = 2; rw [h2]; exact kd_l hc⟩)
  have a3 : nx b len s = s + 7 := a3
  obtain ⟨b1, b2, b3⟩ := nm_one h (s := s + 7) (by omega) (by rw [h2]; exact kd_l hc) (fun _ => by
    rw [show s + 7 + 1 = s + 8 by omega, h3]
    decide)
  rw [h2] at b3
  have b4 : nx b len (s + 7) = s + 9 := nx_1 b2 (by
    rw [show s + 7 + 1 = s + 8 by omega, kn_at h (by omega), h3]
    decide) (kn_nb h (not_blank ⟨3, by omega, by
      have := h4 0 (by omega)
      rw [Nat.add_zero] at this
      rw [show s + 7 + 1 + 1 = s + 9 by omega, this]
      exact kd_d (sb_dec_rng _ _)⟩))
  have q0 := (h5 0 (by omega)).1
  have q0 : f w = 32 := q0
  obtain ⟨c1, c2, c3⟩ := pInt_ok h (s := s + 9) (v := v) (hi := 99999) hv (by omega) h4 (fun _ => by
    rw [← ew, q0]
    decide) (by omega)
  rw [← ew] at c2
  have c4 : nx b len (s + 9) = vst w M 0 y := by
    have e0 : vst w M 0 y = w + 1 := by
      unfold vst
      rw [if_pos (by omega)]
      rfl
    rw [e0]
    refine nx_1 c2 (by rw [kn_at h (by omega), q0]; decide) (kn_nb h ?_)
    have q1 := (h5 0 (by omega)).2
    have e1 : vsN y 1 = vaN (rzX y 0) (vzX y 0) := Nat.zero_add _
    by_cases d : rzX y 0 = true
    · rw [if_pos d] at q1
      have q2 : f (w + 1) = 110 := q1.1
      exact not_blank ⟨2, by omega, by rw [q2]; decide⟩
    · rw [if_neg d] at q1
      have v8 := vzX_lt y 0
      have d8 := sbdg4 (v := vzX y 0) (by omega)
      have q2 : f (w + 1) = sb_dec (vzX y 0) 0 := q1 0 (by omega)
      exact not_blank ⟨3, by omega, by rw [q2]; exact kd_d (sb_dec_rng _ _)⟩
  obtain ⟨μ', m1, m2, m3, m4⟩ := st_vals h (P := P) (show w + vsN y M < len by omega) h5 h6 hM.2 M 0 (u1 (u1 μ 349 P (nI ((c - 96) * 33554432))) 347 (8 + 20 * P + 1) (nI v)) (by omega) (fun r' x1 x2 => by
    rw [u1_ne (by omega), u1_ne (by omega)]
    exact h0 r' x2)
  obtain ⟨d1, d2⟩ := tok_s h (s := w + vsN y M) (by omega) h6 h7
  have dd : dup b len μ 349 P (s + 7) = false := by
    unfold dup
    rw [b3, Bool.not_eq_false']
    rw [al_iff _]
    exact fun r hr => decide_eq_true (hd r hr)
  refine ⟨by omega, u1 μ' 322 44 (nI (P + 1)), ?_, ⟨u1_eq, ?_, ?_⟩, fun a j x1 x2 x3 => ?_, fun r hr => ?_⟩
  · have nR : isW b len s wRoom = false := isW_at (i := 0) (by decide) (by rw [a4 0 (by decide)]; decide)
    unfold pStmt
    rw [if_neg (by rw [nR]; decide), if_pos (isW_y a1 a2 a4)]
    unfold pPers
    rw [pP, rM, if_neg (by omega), a3, if_neg (fun z => z b1), if_neg (by rw [dd]; decide), b4, c1, c4, b3]
    simp only [m1]
    rw [if_pos d1, d2]
  · rw [u1_ne (by omega), m2 349 P (by omega), u1_ne (by omega), u1_eq]
  · rw [u1_ne (by omega), m2 347 (8 + 20 * P + 1) (fun z => by obtain ⟨-, r', z1, z2⟩ := z; omega), u1_eq]
  · rw [u1_ne x3, m2 a j (fun z => x1 ⟨z.1, Or.inr z.2⟩), u1_ne (fun z => x1 ⟨z.1, Or.inl z.2⟩), u1_ne x2]
  · obtain ⟨y1, y2⟩ := m4 r (Nat.zero_le _) hr
    rw [u1_ne (by omega), u1_ne (by omega)]
    exact ⟨y1, y2⟩
theorem st_once (h : tfx b len f) {s v k n i : Nat} {l : List Nat} {μ : pM} {g0 : Int32} (hk : (k = 3 ∧ l = wLease ∧ g0 = 0 ∧ i = 22 ∧ n = 5) ∨ (k = 4 ∧ l = wDeposit ∧ g0 = 8 ∧ n = 7)) (h1 : (∀ j, j < l.length → f (s + j) = 96 + l.getD j 0) ∧ f (s + n) = 32) (hv : v < 10000) (h4 : ∀ i, i < sb_dg v → f (s + n + 1 + i) = sb_dec v i) (h6 : f (s + n + 1 + sb_dg v) = 59) (hs : s + n + 1 + sb_dg v + 1 ≤ len) (h7 : nb f len (s + n + 1 + sb_dg v + 1)) (hg : μ 322 49 = g0) :
    ¬ kn b len s = 0 ∧ pStmt b len s μ = .inr (s + n + 1 + sb_dg v + 1, u1 (u1 μ 322 49 (if k = 3 then 8 else 24)) 347 k (nI v)) := by
  have hd9 := sbdg4 hv
  have hl : l.length = n := by
    rcases hk with ⟨-, rfl, -, -, rfl⟩ | ⟨-, rfl, -, rfl⟩ <;> rfl
  have hl0 : 0 < l.length := by
    rcases hk with ⟨-, rfl, -⟩ | ⟨-, rfl, -⟩ <;> decide
  have hla : ∀ i, i < l.length → 1 ≤ l.getD i 0 ∧ l.getD i 0 ≤ 26 := by
    rcases hk with ⟨-, rfl, -⟩ | ⟨-, rfl, -⟩ <;> decide
  have hn : n = 5 ∨ n = 7 := by omega
  have d0 : nb f len (s + n + 1) := not_blank ⟨3, by omega, by
    have := h4 0 (by omega)
    rw [Nat.add_zero] at this
    rw [this]
    exact kd_d (sb_dec_rng _ _)⟩
  obtain ⟨a1, a2, a3, a4⟩ := tok_w h (l := l) hl0 hla h1.1 (by omega) (by rw [hl]; exact h1.2) (by rw [hl]; exact d0)
  rw [hl] at a2 a3
  obtain ⟨c1, c2, c3⟩ := pInt_ok h (s := s + n + 1) (v := v) (hi := 99999) hv (by omega) h4 (fun _ => by
    rw [h6]
    decide) (by omega)
  have c4 : nx b len (s + n + 1) = s + n + 1 + sb_dg v := nx_0 c2 (by rw [kn_at h (by omega), h6]; decide)
  obtain ⟨d1, d2⟩ := tok_s h (s := s + n + 1 + sb_dg v) (by omega) h6 h7
  have g1 : gv μ k = false := by
    unfold gv
    rw [hg]
    rcases hk with ⟨rfl, -, rfl, -⟩ | ⟨rfl, -, rfl, -⟩ <;> decide +kernel
  have g2 : gvS μ k = u1 μ 322 49 (if k = 3 then 8 else 24) := by
    unfold gvS
    rw [hg]
    rcases hk with ⟨rfl, -, rfl, -⟩ | ⟨rfl, -, rfl, -⟩ <;> rfl
  have c0 := a4 0 hl0
  refine ⟨by omega, ?_⟩
  have on : pOnce b len k k s μ = .inr (s + n + 1 + sb_dg v, u1 (gvS μ k) 347 k (nI v)) := by
    unfold pOnce
    rw [if_neg (by rw [g1]; decide), a3, c1, c4]
  have fl : ∀ l9 : List Nat, 0 < l9.length → l.getD 0 0 ≠ l9.getD 0 0 → isW b len s l9 = false := fun l9 x1 x2 => isW_at (i := 0) x1 (by rw [c0]; exact x2)
  have me := isW_y a1 (by rw [a2, hl]) a4
  unfold pStmt
  rcases hk with ⟨rfl, rfl, -, -, rfl⟩ | ⟨rfl, rfl, -, rfl⟩
  · rw [if_neg (by rw [fl wRoom (by decide) (by decide)]; decide), if_neg (by rw [fl wPerson (by decide) (by decide)]; decide), if_pos me, on]
    show (if kn b len _ = 4 then _ else _) = _
    rw [if_pos d1, d2, g2]
  · rw [if_neg (by rw [fl wRoom (by decide) (by decide)]; decide), if_neg (by rw [fl wPerson (by decide) (by decide)]; decide), if_neg (by rw [fl wLease (by decide) (by decide)]; decide), if_pos me, on]
    show (if kn b len _ = 4 then _ else _) = _
    rw [if_pos d1, d2, g2]
theorem lm_is {p : Nat → Bool} {k : Nat} (hk : p k = true) : ∀ N, k < N → (∀ q, q < N → q ≠ k → p q = false) → lm p N = nI k := by
  intro N
  induction N with
  | zero => intro h; omega
  | succ N ih =>
    intro h1 h2
    simp only [lm]
    by_cases c : N = k
    · subst c
      rw [if_pos hk]
    · rw [if_neg (by rw [h2 N (by omega) c]; decide)]
      exact ih (by omega) (fun q q1 q2 => h2 q (by omega) q2)
theorem st_plan (h : tfx b len f) {s c v m P N k : Nat} {μ : pM} (h1 : sg f s 24 5) (h2 : f (s + 5) = c) (hc : 97 ≤ c ∧ c ≤ 122) (h3 : f (s + 6) = 32) (hm : m < 1000) (hv : v < 10000) (h4 : ∀ i, i < sb_dg m → f (s + 7 + i) = sb_dec m i) (h5 : f (s + 7 + sb_dg m) = 32) (h6 : ∀ i, i < sb_dg v → f (s + 7 + sb_dg m + 1 + i) = sb_dec v i) (h7 : f (s + 7 + sb_dg m + 1 + sb_dg v) = 59) (hs : s + 7 + sb_dg m + 1 + sb_dg v + 1 ≤ len) (h8 : nb f len (s + 7 + sb_dg m + 1 + sb_dg v + 1)) (pN : pe μ = N) (kK : pn μ = k) (hk : k < 20) (hP : P < N) (hn : μ 349 P = nI ((c - 96) * 33554432)) (hd : ∀ q, q < N → q ≠ P → ¬ μ 349 q = nI ((c - 96) * 33554432)) :
    ¬ kn b len s = 0 ∧ pStmt b len s μ = .inr (s + 7 + sb_dg m + 1 + sb_dg v + 1, u1 (u1 (u1 (u1 μ 350 (3 * k) (nI P)) 350 (3 * k + 1) (nI m)) 350 (3 * k + 2) (nI v)) 322 45 (nI (k + 1))) := by
  have hd8 := sbdg4 (v := m) (by omega)
  have hd9 := sbdg4 hv
  obtain ⟨w1, w2⟩ := sgW (l := wPlan) h1 (by decide +kernel) (by decide +kernel)
  obtain ⟨a1, a2, a3, a4⟩ := tok_w h (l := wPlan) (by decide) (by decide) w1 (by show s + 4 + 1 < len; omega) w2 (not_blank ⟨2, by omega, by show kd (f (s + 5)) = 2; rw [h2]; exact kd_l hc⟩)
  have a3 : nx b len s = s + 5 := a3
  have a2 : en b len s = s + 4 := a2
  obtain ⟨b1, b2, b3⟩ := nm_one h (s := s + 5) (by omega) (by rw [h2]; exact kd_l hc) (fun _ => by
    rw [show s + 5 + 1 = s + 6 by omega, h3]
    decide)
  rw [h2] at b3
  have b4 : nx b len (s + 5) = s + 7 := nx_1 b2 (by
    rw [show s + 5 + 1 = s + 6 by omega, kn_at h (by omega), h3]
    decide) (kn_nb h (not_blank ⟨3, by omega, by
      have := h4 0 (by omega)
      rw [Nat.add_zero] at this
      rw [show s + 5 + 1 + 1 = s + 7 by omega, this]
      exact kd_d (sb_dec_rng _ _)⟩))
  obtain ⟨c1, c2, c3⟩ := pInt_ok h (s := s + 7) (v := m) (hi := 999) (by omega) (by omega) h4 (fun _ => by
    rw [h5]
    decide) (by omega)
  have c4 : nx b len (s + 7) = s + 7 + sb_dg m + 1 := nx_1 c2 (by rw [kn_at h (by omega), h5]; decide) (kn_nb h (not_blank ⟨3, by omega, by
      have := h6 0 (by omega)
      rw [Nat.add_zero] at this
      rw [this]
      exact kd_d (sb_dec_rng _ _)⟩))
  obtain ⟨e1, e2, e3⟩ := pInt_ok h (s := s + 7 + sb_dg m + 1) (v := v) (hi := 99999) hv (by omega) h6 (fun _ => by
    rw [h7]
    decide) (by omega)
  have e4 : nx b len (s + 7 + sb_dg m + 1) = s + 7 + sb_dg m + 1 + sb_dg v := nx_0 e2 (by rw [kn_at h (by omega), h7]; decide)
  obtain ⟨d1, d2⟩ := tok_s h (s := s + 7 + sb_dg m + 1 + sb_dg v) (by omega) h7 h8
  have hlm : lm (fun p => decide (μ 349 p = nI ((c - 96) * 33554432))) N = nI P := lm_is (decide_eq_true hn) N hP (fun q q1 q2 => decide_eq_false (hd q q1 q2))
  have fl : ∀ l9 : List Nat, 0 < l9.length → 16 ≠ l9.getD 0 0 → isW b len s l9 = false := fun l9 x1 x2 => isW_at (i := 0) x1 (by rw [a4 0 (by decide)]; exact x2)
  have nP : isW b len s wPerson = false := isW_len (by rw [a2, show s + 4 - s = 4 by omega]; decide)
  refine ⟨by omega, ?_⟩
  have pm1 : ¬ nI P = -1 := fun z => (nI_m1 (by
    have : P < 2 ^ 31 := by
      have hpe : pe μ < 2 ^ 31 := by
        unfold pe
        have := (μ 322 44).toInt_lt
        have e : (μ 322 44).toNatClampNeg = (μ 322 44).toInt.toNat := rfl
        omega
      omega
    exact this)).mp z
  unfold pStmt
  rw [if_neg (by rw [fl wRoom (by decide) (by decide)]; decide), if_neg (by rw [nP]; decide), if_neg (by rw [fl wLease (by decide) (by decide)]; decide), if_neg (by rw [fl wDeposit (by decide) (by decide)]; decide), if_pos (isW_y (l := wPlan) a1 a2 a4)]
  unfold pPlan
  rw [pN, kK, if_neg (by omega), a3, if_neg (fun z => z b1), b3, hlm, if_neg pm1, b4, c1, c4]
  simp only [e1, e4]
  rw [if_pos d1, d2]
end NJ9
