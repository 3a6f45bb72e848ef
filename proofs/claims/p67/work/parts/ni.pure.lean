/-! the law's text read: rooms, values, persons -/
def nb (f : Nat → Nat) (len e : Nat) : Prop := e < len → ¬ kd (f e) = 1
/-- a constant text at s -/
def sg (f : Nat → Nat) (s i n : Nat) : Prop := ∀ j, j < n → f (s + j) = stN i j
section NI9
variable {b : Nat → Int32} {len : Nat} {f : Nat → Nat}
theorem kn_nb (h : tfx b len f) {e : Nat} (hb : nb f len e) : ¬ kn b len e = 1 := by
  by_cases c : e < len
  · rw [kn_at h c]
    exact hb c
  · rw [kn_out (by omega)]
    omega
theorem tok_w (h : tfx b len f) {s : Nat} {l : List Nat} (hl : 0 < l.length) (ha : ∀ i, i < l.length → 1 ≤ l.getD i 0 ∧ l.getD i 0 ≤ 26) (h1 : ∀ i, i < l.length → f (s + i) = 96 + l.getD i 0) (hs : s + l.length + 1 < len) (h2 : f (s + l.length) = 32) (h3 : nb f len (s + l.length + 1)) : kn b len s = 2 ∧ en b len s = s + l.length ∧ nx b len s = s + l.length + 1 ∧ (∀ i, i < l.length → cl b (s + i) = l.getD i 0) := by
  obtain ⟨a1, a2⟩ := en_run h (k := 2) (s := s) (n := l.length - 1) (Or.inl rfl) (by omega) (fun i hi => by
    rw [h1 i (by omega)]
    have := ha i (by omega)
    unfold kd
    rw [if_pos (by omega)]) (by
    rw [show s + (l.length - 1) + 1 = s + l.length by omega, h2]
    intro _
    decide)
  rw [show s + (l.length - 1) + 1 = s + l.length by omega] at a2
  refine ⟨a1, a2, nx_1 a2 ?_ (kn_nb h h3), fun i hi => ?_⟩
  · rw [kn_at h (by omega), h2]
    decide
  · rw [cl_at h (by omega), h1 i hi]
    omega
theorem tok_s (h : tfx b len f) {s : Nat} (hs : s < len) (h1 : f s = 59) (h2 : nb f len (s + 1)) : kn b len s = 4 ∧ nx b len s = s + 1 := by
  have e : kn b len s = 4 := by
    rw [kn_at h hs, h1]
    decide
  exact ⟨e, nx_0 (en_semi e) (kn_nb h h2)⟩
theorem sgW {s i : Nat} {l : List Nat} (hg : sg f s i (l.length + 1)) (hw : ∀ j, j < l.length → stN i j = 96 + l.getD j 0) (h9 : stN i l.length = 32) : (∀ j, j < l.length → f (s + j) = 96 + l.getD j 0) ∧ f (s + l.length) = 32 := ⟨fun j hj => by rw [hg j (by omega), hw j hj], by rw [hg _ (by omega), h9]⟩
theorem not_blank {e : Nat} (h : ∃ k, (k = 2 ∨ k = 3 ∨ k = 4) ∧ kd (f e) = k) : nb f len e := fun _ => by
  obtain ⟨k, h1, h2⟩ := h
  omega
theorem kd_l {c : Nat} (h : 97 ≤ c ∧ c ≤ 122) : kd c = 2 := by
  unfold kd
  rw [if_pos h]
theorem kd_d {c : Nat} (h : 48 ≤ c ∧ c ≤ 57) : kd c = 3 := by
  unfold kd
  rw [if_neg (by omega), if_pos h]
/-- a room -/
theorem st_room (h : tfx b len f) {s c : Nat} {μ : pM} (hs : s + 7 ≤ len) (h1 : sg f s 17 5) (h2 : f (s + 5) = c) (hc : 97 ≤ c ∧ c ≤ 122) (h3 : f (s + 6) = 59) (h4 : nb f len (s + 7)) (p0 : pe μ = 0) (r6 : rm μ < 6) (hd : ∀ r, r < rm μ → ¬ μ 348 r = nI ((c - 96) * 33554432)) :
    ¬ kn b len s = 0 ∧ pStmt b len s μ = .inr (s + 7, u1 (u1 μ 348 (rm μ) (nI ((c - 96) * 33554432))) 322 43 (nI (rm μ + 1))) := by
  obtain ⟨w1, w2⟩ := sgW (l := wRoom) h1 (by decide +kernel) (by decide +kernel)
  obtain ⟨a1, a2, a3, a4⟩ := tok_w h (l := wRoom) (by decide) (by decide) w1 (by show s + 4 + 1 < len; omega) w2 (not_blank ⟨2, by omega, by show kd (f (s + 5)) = 2; rw [h2]; exact kd_l hc⟩)
  have a3 : nx b len s = s + 5 := a3
  obtain ⟨b1, b2, b3⟩ := nm_one h (s := s + 5) (by omega) (by rw [h2]; exact kd_l hc) (fun _ => by
    rw [show s + 5 + 1 = s + 6 by omega, h3]
    decide)
  have b4 : nx b len (s + 5) = s + 6 := nx_0 b2 (by
    rw [show s + 5 + 1 = s + 6 by omega, kn_at h (by omega), h3]
    decide)
  obtain ⟨c1, c2⟩ := tok_s h (s := s + 6) (by omega) h3 h4
  rw [h2] at b3
  refine ⟨by omega, ?_⟩
  have dd : dup b len μ 348 (rm μ) (s + 5) = false := by
    unfold dup
    rw [b3, Bool.not_eq_false']
    rw [al_iff _]
    exact fun r hr => decide_eq_true (hd r hr)
  unfold pStmt
  rw [if_pos (isW_y a1 a2 a4)]
  unfold pRoom
  rw [if_neg (by omega), if_neg (by omega), a3, if_neg (fun z => z b1), if_neg (by rw [dd]; decide), b4, b3]
  show (if kn b len (s + 6) = 4 then _ else _) = _
  rw [if_pos c1, c2]
/-- where the token of value r starts -/
def vst (w M r : Nat) (y : Int32) : Nat := w + vsN y r + (if r < M then 1 else 0)
/-- the values' text stands from w -/
def vaAt (f : Nat → Nat) (w M : Nat) (y : Int32) : Prop := ∀ r, r < M → f (w + vsN y r) = 32 ∧ if rzX y r = true then f (w + vsN y r + 1) = 110 ∧ f (w + vsN y r + 1 + 1) = 111 else ∀ k, k < sb_dg (vzX y r) → f (w + vsN y r + 1 + k) = sb_dec (vzX y r) k
theorem vsN_mo (y : Int32) (a d : Nat) : vsN y a ≤ vsN y (a + d) := by
  induction d with
  | zero => exact Nat.le_refl _
  | succ d ih =>
    have : vsN y (a + (d + 1)) = vsN y (a + d) + vaN (rzX y (a + d)) (vzX y (a + d)) := rfl
    omega
theorem st_vals (h : tfx b len f) {w M P : Nat} {y : Int32} (hs : w + vsN y M < len) (h1 : vaAt f w M y) (h2 : f (w + vsN y M) = 59) (hM : M ≤ 4) : ∀ (d r : Nat) (μ : pM), r + d = M → (∀ r', r ≤ r' → r' < M → μ 347 (8 + 20 * P + (7 + r')) = 0) → ∃ μ', pVals b len P d r (vst w M r y) μ = .inr (w + vsN y M, μ') ∧ (∀ a j, ¬ (a = 347 ∧ ∃ r', r' < M ∧ (j = 8 + 20 * P + (7 + r') ∨ j = 8 + 20 * P + (13 + r'))) → μ' a j = μ a j) ∧ (∀ r', r' < r → μ' 347 (8 + 20 * P + (7 + r')) = μ 347 (8 + 20 * P + (7 + r')) ∧ μ' 347 (8 + 20 * P + (13 + r')) = μ 347 (8 + 20 * P + (13 + r'))) ∧ ∀ r', r ≤ r' → r' < M → μ' 347 (8 + 20 * P + (7 + r')) = nI (vzX y r') ∧ μ' 347 (8 + 20 * P + (13 + r')) = if rzX y r' = true then 1 else 0 := by
  intro d
  induction d with
  | zero =>
    intro r μ hr h0
    obtain rfl : r = M := by omega
    refine ⟨μ, ?_, fun _ _ _ => rfl, fun _ _ => ⟨rfl, rfl⟩, fun r' q1 q2 => by omega⟩
    unfold vst
    rw [if_neg (by omega)]
    rfl
  | succ d ih =>
    intro r μ hr h0
    have hm := vsN_mo y (r + 1) d
    rw [show r + 1 + d = M by omega] at hm
    have e1 : vsN y (r + 1) = vsN y r + vaN (rzX y r) (vzX y r) := rfl
    obtain ⟨q1, q2⟩ := h1 r (by omega)
    have es : vst w M r y = w + vsN y r + 1 := by
      unfold vst
      rw [if_pos (by omega)]
    have v9 := vzX_lt y r
    -- what follows the value
    have fol : w + vsN y (r + 1) < len ∧ (f (w + vsN y (r + 1)) = 32 ∨ f (w + vsN y (r + 1)) = 59) ∧ (∀ s, en b len s = w + vsN y (r + 1) → nx b len s = vst w M (r + 1) y) := by
      refine ⟨by omega, ?_, fun s hs9 => ?_⟩
      · by_cases c : r + 1 < M
        · exact Or.inl (h1 (r + 1) c).1
        · rw [show r + 1 = M by omega]
          exact Or.inr h2
      · unfold vst
        by_cases c : r + 1 < M
        · rw [if_pos c]
          obtain ⟨o1, o2⟩ := h1 (r + 1) c
          have hm2 := vsN_mo y (r + 2) (d - 1)
          rw [show r + 2 + (d - 1) = M by omega] at hm2
          have e2 : vsN y (r + 2) = vsN y (r + 1) + vaN (rzX y (r + 1)) (vzX y (r + 1)) := rfl
          refine nx_1 hs9 (by rw [kn_at h (by omega), o1]; decide) (kn_nb h ?_)
          by_cases c3 : rzX y (r + 1) = true
          · rw [if_pos c3] at o2
            exact not_blank ⟨2, by omega, by rw [o2.1]; decide⟩
          · rw [if_neg c3] at o2
            have v8 := vzX_lt y (r + 1)
            have d8 := sbdg4 (v := vzX y (r + 1)) (by omega)
            have o3 := o2 0 (by omega)
            rw [Nat.add_zero] at o3
            exact not_blank ⟨3, by omega, by rw [o3]; exact kd_d (sb_dec_rng _ _)⟩
        · rw [if_neg c, Nat.add_zero]
          refine nx_0 hs9 ?_
          rw [kn_at h (by omega), show r + 1 = M by omega, h2]
          decide
    obtain ⟨fl, fc, fn⟩ := fol
    have fk : ¬ kd (f (w + vsN y (r + 1))) = 2 ∧ ¬ kd (f (w + vsN y (r + 1))) = 3 := by
      rcases fc with e | e <;> rw [e] <;> decide
    rw [es]
    by_cases c : rzX y r = true
    · rw [if_pos c] at q2
      have eN : vaN (rzX y r) (vzX y r) = 3 := by
        unfold vaN
        rw [if_pos c]
      obtain ⟨a1, a2⟩ := en_run h (k := 2) (s := w + vsN y r + 1) (n := 1) (Or.inl rfl) (by omega) (fun i hi => by
        by_cases c0 : i = 0
        · subst c0
          rw [Nat.add_zero, q2.1]
          decide
        · obtain rfl : i = 1 := by omega
          rw [q2.2]
          decide) (fun _ => by
        rw [show w + vsN y r + 1 + 1 + 1 = w + vsN y (r + 1) by omega]
        exact fk.1)
      have hw : isW b len (w + vsN y r + 1) wNo = true := isW_y a1 (by rw [a2]; rfl) (fun i hi => by
        have hi : i < 2 := hi
        rw [cl_at h (by omega)]
        by_cases c0 : i = 0
        · subst c0
          rw [Nat.add_zero, q2.1]
          rfl
        · obtain rfl : i = 1 := by omega
          rw [q2.2]
          rfl)
      have en9 : en b len (w + vsN y r + 1) = w + vsN y (r + 1) := by rw [a2]; omega
      obtain ⟨μ', m1, m2, m3, m4⟩ := ih (r + 1) (u1 μ 347 (8 + 20 * P + (13 + r)) 1) (by omega) (fun r' x1 x2 => by
        unfold u1
        rw [if_neg (by omega)]
        exact h0 r' (by omega) x2)
      refine ⟨μ', ?_, fun a j hn => ?_, fun r' x1 => ?_, fun r' x1 x2 => ?_⟩
      · show (if isW b len (w + vsN y r + 1) wNo = true then _ else _) = _
        rw [if_pos hw, fn _ en9]
        exact m1
      · rw [m2 a j hn]
        unfold u1
        rw [if_neg (fun z => hn ⟨z.1, r, by omega, Or.inr z.2⟩)]
      · obtain ⟨y1, y2⟩ := m3 r' (by omega)
        rw [y1, y2]
        unfold u1
        rw [if_neg (by omega), if_neg (by omega)]
        exact ⟨rfl, rfl⟩
      · by_cases c0 : r' = r
        · subst c0
          obtain ⟨y1, y2⟩ := m3 r' (by omega)
          rw [y1, y2]
          unfold u1
          rw [if_neg (by omega), if_pos ⟨rfl, rfl⟩, if_pos c, h0 r' (Nat.le_refl _) x2]
          refine ⟨?_, rfl⟩
          unfold vzX
          rw [if_pos c]
          rfl
        · exact m4 r' (by omega) x2
    · rw [if_neg c] at q2
      have d9 := sbdg4 (v := vzX y r) (by omega)
      have eN : vaN (rzX y r) (vzX y r) = 1 + sb_dg (vzX y r) := by
        unfold vaN
        rw [if_neg c]
      have en8 : w + vsN y r + 1 + sb_dg (vzX y r) = w + vsN y (r + 1) := by omega
      obtain ⟨a1, a2, a3⟩ := pInt_ok h (s := w + vsN y r + 1) (v := vzX y r) (hi := 9999) (by omega) (by omega) q2 (fun _ => by rw [en8]; exact fk.2) (by omega)
      rw [en8] at a2
      obtain ⟨μ', m1, m2, m3, m4⟩ := ih (r + 1) (u1 (u1 μ 347 (8 + 20 * P + (13 + r)) 0) 347 (8 + 20 * P + (7 + r)) (nI (vzX y r))) (by omega) (fun r' x1 x2 => by
        unfold u1
        rw [if_neg (by omega), if_neg (by omega)]
        exact h0 r' (by omega) x2)
      refine ⟨μ', ?_, fun a j hn => ?_, fun r' x1 => ?_, fun r' x1 x2 => ?_⟩
      · simp only [pVals]
        rw [if_neg (by rw [isW_kn (by omega)]; decide), a1]
        show pVals b len P d (r + 1) (nx b len (w + vsN y r + 1)) _ = _
        rw [fn _ a2]
        exact m1
      · rw [m2 a j hn]
        unfold u1
        rw [if_neg (fun z => hn ⟨z.1, r, by omega, Or.inl z.2⟩), if_neg (fun z => hn ⟨z.1, r, by omega, Or.inr z.2⟩)]
      · obtain ⟨y1, y2⟩ := m3 r' (by omega)
        rw [y1, y2]
        unfold u1
        rw [if_neg (by omega), if_neg (by omega), if_neg (by omega), if_neg (by omega)]
        exact ⟨rfl, rfl⟩
      · by_cases c0 : r' = r
        · subst c0
          obtain ⟨y1, y2⟩ := m3 r' (by omega)
          rw [y1, y2]
          unfold u1
          rw [if_pos ⟨rfl, rfl⟩, if_neg (by omega), if_pos ⟨rfl, rfl⟩, if_neg c]
          exact ⟨rfl, rfl⟩
        · exact m4 r' (by omega) x2
end NI9
