/-! the class's changes, by the row of numbers that lies beside -/
/-- the same for the class -/
def gE9 (τ s : jM) : Prop := ∀ a, a < 322 → τ.1 a = s.1 a ∧ τ.2.1 a = s.2.1 a ∧ τ.2.2 a = s.2.2 a
/-- another snapshot: the same rooms, people and plans -/
def xSm (s0 s1 : jM) : Prop := ∃ R N K, xRk s0 R N K ∧ xRk s1 R N K ∧ ∀ a, 327 ≤ a → a ≤ 329 → s1.1 a = s0.1 a
/-- a snapshot by the row f that says what the class's state τ says -/
def xN (s0 τ : jM) (f : Nat → Int32) : Prop := ∃ s1, gE9 τ s1 ∧ xSm s0 s1 ∧ s1.1 323 = f
/-- one that says the same of all that the law knows -/
def xH (s0 υ : jM) : Prop := xSm s0 υ ∧ υ.1 323 = s0.1 323
theorem jcell_gE9 {g : jG} {τ s : jM} {k : Nat} (h : gE9 τ s) (hk : k < 322) : jcell g τ k = jcell g s k := by
  obtain ⟨h1, h2, h3⟩ := h k hk
  have e : ∀ tab, jfs g τ k tab = jfs g s k tab := fun tab => by
    unfold jfs
    refine List.map_congr_left (fun j _ => ?_)
    unfold jfv
    rw [h1, h2]
  unfold jcell
  rw [h1, h2, h3, e]
theorem DW.gh {g : jG} {z : dZ} {mt : jMt} {pc : Nat} {L : List (Nat × Value)} {r : List Value} {σ : dM} {c0 s9 : Nat} {τ s : jM} (h : gE9 τ s) (k : DW g z mt pc L r (DuS σ s) c0 s9) : DW g z mt pc L r (DuS σ τ) c0 s9 := by
  intro p e st m as below meth c H locs ls da X hD hP hS hl
  refine k p e st m as below meth c H locs ls da X hD (Dws_of (fun q hq => ?_)) hS hl
  have hN : jN = 322 := rfl
  have h1 := Dws_at hP hq
  rcases (Dal_lt hq).2 with h2 | ⟨h2, -⟩
  · have e : Dce g da (DuS σ s) q = Dce g da (DuS σ τ) q := by
      unfold Dce
      rw [if_pos (by omega), if_pos (by omega), DuS_S, DuS_S, jcell_gE9 h (by omega)]
    rw [e]
    exact h1
  · have e : Dce g da (DuS σ s) q = Dce g da (DuS σ τ) q := by
      unfold Dce
      have h3 : ¬ q < 1000 := by omega
      simp only [if_neg h3]
      rfl
    rw [e]
    exact h1
theorem xSm.rR {s0 s1 : jM} {R N K : Nat} (h : xSm s0 s1) (h0 : xRk s0 R N K) : xRk s1 R N K := by
  obtain ⟨R', N', K', k0, k1, -⟩ := h
  obtain ⟨-, -, a3, a4, a5, -⟩ := xv_n h0
  obtain ⟨-, -, b3, b4, b5, -⟩ := xv_n k0
  rw [b4] at a4
  rw [b3] at a3
  rw [b5] at a5
  subst a3 a4 a5
  exact k1
theorem xH_G {s0 υ : jM} (h : xG s0 υ) : xH s0 υ := by
  obtain ⟨R, N, K, h0, q⟩ := h
  exact ⟨⟨R, N, K, h0, q.R h0, fun a h1 h2 => q.at a (by simp; omega) (by simp; omega)⟩, q.at 323 rfl rfl⟩
theorem xG_self {s : jM} {R N K : Nat} (h : xRk s R N K) : xG s s := ⟨R, N, K, h, xQ.rfl h⟩
theorem xSm.tr {s0 s1 s2 : jM} (h : xSm s0 s1) (k : xSm s1 s2) : xSm s0 s2 := by
  obtain ⟨R, N, K, h0, h1, h2⟩ := h
  refine ⟨R, N, K, h0, k.rR h1, fun a a1 a2 => ?_⟩
  obtain ⟨_, _, _, -, -, k2⟩ := k
  rw [k2 a a1 a2, h2 a a1 a2]
/-- the ghosts that count are the snapshot's -/
def gR9 (s0 τ : jM) : Prop := ∀ a j, 322 ≤ a → xC a j = true → τ.1 a j = s0.1 a j
theorem gR9.at {s0 τ : jM} (q : gR9 s0 τ) (a : Nat) (ha : (323).ble a = true) (hb : a.ble 329 = true) : τ.1 a = s0.1 a := funext fun j => q a j (by simp at ha; omega) (by
  unfold xC
  rw [ha, hb]
  simp)
theorem gR9.s {s0 τ : jM} (q : gR9 s0 τ) : sR s0 τ := ⟨q.at 323 rfl rfl, q 322 3 (by omega) rfl, q 322 4 (by omega) rfl⟩
theorem gR9.D {s0 τ : jM} (q : gR9 s0 τ) : mD τ = mD s0 := by
  funext a b
  exact sR_D q.s a b
/-- a change: out of the class's contract and the step that class and reference take together -/
theorem xo_ok {g : jG} {n : Nat} {mt : jMt} {oc om : jO} {xs : List Value} (hC : jOk g n mt oc) (hx : xS oc om xs) (hq : ∀ {σ : jM} {R N K : Nat}, xRk σ R N K → ∀ v τ, (oc (.ref 0 :: xs) σ).2 v τ → mQ σ τ) {s0 σ : jM} (hG : xG s0 σ) (x : Int32) (f : Nat → Int32)
    (sel : ∀ τ, gR9 s0 τ → (om (.ref 322 :: xs) τ).1 → ∃ υ, (om (.ref 322 :: xs) τ).2 (some (.int x)) υ ∧ gE9 τ υ ∧ υ.1 323 = f ∧ (υ.1 322 3 = τ.1 322 3 ∧ υ.1 322 4 = τ.1 322 4 ∧ υ.1 322 5 = τ.1 322 5) ∧ ∀ a, 327 ≤ a → a ≤ 329 → υ.1 a = τ.1 a) :
    jCon g n mt (.ref 0 :: xs) σ (fun v τ => v = some (.int x) ∧ xN s0 τ f) := by
  obtain ⟨R, N, K, h0, q⟩ := hG
  have h := q.R h0
  obtain ⟨p1, p2⟩ := hx σ ⟨R, N, K, h⟩
  refine (hC _ σ p1).imp (fun v τ hv => ?_)
  obtain ⟨o1, o2⟩ := p2 v τ hv
  have mq := hq h v τ hv
  have gr : gR9 s0 τ := fun a j ha hc => by rw [mq a ha]; exact q.1 a j hc
  obtain ⟨υ, u1, u2, u3, ⟨u4, u5, u6⟩, u7⟩ := sel τ gr o1
  obtain ⟨-, w1, w2⟩ := o2 _ υ u1
  refine ⟨w1.symm, υ, u2, ⟨R, N, K, h0, ?_, fun a a1 a2 => ?_⟩, u3⟩
  · obtain ⟨R', N', K', k⟩ := w2
    have e3 := (gr 322 3 (by omega) rfl).trans (rfl : s0.1 322 3 = s0.1 322 3)
    have e4 := gr 322 4 (by omega) rfl
    have e5 := gr 322 5 (by omega) rfl
    obtain ⟨-, -, a3, a4, a5, -⟩ := xv_n h0
    obtain ⟨-, -, b3, b4, b5, -⟩ := xv_n k
    have c3 : mN υ = mN s0 := by unfold mN; rw [u5, e4]
    have c4 : mRo υ = mRo s0 := by unfold mRo; rw [u4, e3]
    have c5 : mPl υ = mPl s0 := by unfold mPl; rw [u6, e5]
    rw [b3, a3] at c3
    rw [b4, a4] at c4
    rw [b5, a5] at c5
    subst c3 c4 c5
    exact k
  · rw [u7 a a1 a2]
    exact gr.at a (by simp; omega) (by simp; omega)
/-! what stands behind the reference's writing -/
theorem mRem_2 (σ : jM) : (mRem σ).2 = σ.2 := by
  unfold mRem
  split <;> rfl
def mB (τ : jM) : jM := mRem (jup τ 322 11 0)
theorem mB_f (τ : jM) : (mB τ).1 323 = τ.1 323 := funext fun j => mRem_323 (fun _ _ => rfl) j
theorem mB_o (τ : jM) (a j : Nat) (h1 : a ≠ 324) (h2 : ¬ (a = 322 ∧ j = 2)) (h3 : ¬ (a = 322 ∧ j = 11)) : (mB τ).1 a j = τ.1 a j := by
  unfold mB
  rw [mRem_o _ _ _ h1 h2, jup_1, if_neg h3]
/-- what differs from it in the row alone -/
def mBf (τ υ : jM) : Prop := υ.2 = τ.2 ∧ ∀ a j, a ≠ 323 → υ.1 a j = (mB τ).1 a j
theorem mBf.e {τ υ : jM} (h : mBf τ υ) : gE9 τ υ ∧ (υ.1 322 3 = τ.1 322 3 ∧ υ.1 322 4 = τ.1 322 4 ∧ υ.1 322 5 = τ.1 322 5) ∧ ∀ a, 327 ≤ a → a ≤ 329 → υ.1 a = τ.1 a := by
  refine ⟨fun a ha => ⟨funext fun j => ?_, by rw [h.1], by rw [h.1]⟩, ⟨?_, ?_, ?_⟩, fun a h1 h2 => funext fun j => ?_⟩
  · rw [h.2 a j (by omega), mB_o τ a j (by omega) (by omega) (by omega)]
  · rw [h.2 322 3 (by omega), mB_o τ 322 3 (by omega) (by omega) (by omega)]
  · rw [h.2 322 4 (by omega), mB_o τ 322 4 (by omega) (by omega) (by omega)]
  · rw [h.2 322 5 (by omega), mB_o τ 322 5 (by omega) (by omega) (by omega)]
  · rw [h.2 a j (by omega), mB_o τ a j (by omega) (by omega) (by omega)]
theorem mBf_0 (τ : jM) : mBf τ (mB τ) := ⟨(mRem_2 _), fun _ _ _ => rfl⟩
theorem mBf.up {τ υ : jM} (h : mBf τ υ) (k : Nat) (x : Int32) : mBf τ (jup υ 323 k x) := ⟨h.1, fun a j ha => by rw [jup_1, if_neg (fun z => ha z.1)]; exact h.2 a j ha⟩
theorem mBf.rw {τ υ : jM} (h : mBf τ υ) (f : Nat → Int32) : mBf τ (rw3 υ f) := ⟨h.1, fun a j ha => by rw [rw3_of _ _ ha]; exact h.2 a j ha⟩
theorem fu_jup9 {z : jM} {f : Nat → Int32} (k : Nat) (x : Int32) (h : z.1 323 = f) : (jup z 323 k x).1 323 = fu f k x := funext fun j => fu_jup k x (by rw [h])
/-- nothing but the throw's mark -/
theorem th_e (τ : jM) : gE9 τ (jup τ 322 11 0) ∧ (jup τ 322 11 0).1 323 = τ.1 323 ∧ ((jup τ 322 11 0).1 322 3 = τ.1 322 3 ∧ (jup τ 322 11 0).1 322 4 = τ.1 322 4 ∧ (jup τ 322 11 0).1 322 5 = τ.1 322 5) ∧ ∀ a, 327 ≤ a → a ≤ 329 → (jup τ 322 11 0).1 a = τ.1 a := by
  refine ⟨fun a ha => ⟨funext fun j => ?_, rfl, rfl⟩, funext fun j => ?_, ⟨?_, ?_, ?_⟩, fun a h1 h2 => funext fun j => ?_⟩ <;> rw [jup_1, if_neg (by omega)]
/-! the class's frames -/
section MQ
variable {σ : jM} {R N K : Nat}
theorem mq_rf : mQ σ σ := fun _ _ => rfl
theorem mq_setLease (x : Int32) (h : xRk σ R N K) : ∀ v τ, (oX11_setLease [.ref 0, .int x] σ).2 v τ → mQ σ τ := by
  rintro v τ (⟨c, hv, e⟩ | ⟨c, hv, ρ, S, e⟩)
  · rw [e]; exact mq_rf
  · rw [e]; exact mQ_up (sc_fx h S).2.2 _ (by omega)
theorem mq_setSetting (x y : Int32) (h : xRk σ R N K) : ∀ v τ, (oX11_setSetting [.ref 0, .int x, .int y] σ).2 v τ → mQ σ τ := by
  rintro v τ (⟨c, hv, e⟩ | ⟨c, hv, ρ, S, e⟩)
  · rw [e]; exact mq_rf
  · rw [e]; exact mQ_up (sc_fx h S).2.2 _ (by omega)
theorem mq_moveIn (x : Int32) (h : xRk σ R N K) : ∀ v τ, (oX11_moveIn [.ref 0, .int x] σ).2 v τ → mQ σ τ := by
  rintro v τ (⟨c, hv, e⟩ | ⟨c, d, hv, e⟩ | ⟨⟨c, d⟩, k, hv, e⟩ | ⟨⟨c, d⟩, k, hv, ρ, S, e⟩)
  · rw [e]; exact mq_rf
  · rw [e]; exact mq_rf
  · rw [e]; exact mq_rf
  · rw [e]; exact mQ_up (sc_fx h S).2.2 _ (by omega)
theorem mq_moveOut (x : Int32) (h : xRk σ R N K) : ∀ v τ, (oX11_moveOut [.ref 0, .int x] σ).2 v τ → mQ σ τ := by
  rintro v τ (⟨c, hv, e⟩ | ⟨c, d, hv, e⟩ | ⟨⟨c, d⟩, hv, ρ, S, e⟩)
  · rw [e]; exact mq_rf
  · rw [e]; exact mq_rf
  · rw [e]; exact mQ_up (mQ_up (mQ_up (sc_fx h S).2.2 _ (by omega)) _ (by omega)) _ (by omega)
theorem mq_setValue (x y w : Int32) (h : xRk σ R N K) : ∀ v τ, (oX11_setValue [.ref 0, .int x, .int y, .int w] σ).2 v τ → mQ σ τ := by
  have eP := (xv_P h x).1
  rintro v τ (⟨c, hv, e⟩ | ⟨c, d, hv, e⟩ | ⟨c, d, hv, ρ, S, e⟩)
  · rw [e]; exact mq_rf
  · rw [e]; exact mq_rf
  · rw [eP] at c
    obtain ⟨p1, p2, p3⟩ := xv_p h c.1
    rw [e]; exact mQ_up (sc_fx h S).2.2 _ (by omega)
theorem mq_setRefusal (x y w : Int32) (h : xRk σ R N K) : ∀ v τ, (oX11_setRefusal [.ref 0, .int x, .int y, .int w] σ).2 v τ → mQ σ τ := by
  have eP := (xv_P h x).1
  rintro v τ (⟨c, hv, e⟩ | ⟨c, d, hv, e⟩ | ⟨c, d, hv, ρ, S, e⟩)
  · rw [e]; exact mq_rf
  · rw [e]; exact mq_rf
  · rw [eP] at c
    obtain ⟨p1, p2, p3⟩ := xv_p h c.1
    rw [e]; exact mQ_up (sc_fx h S).2.2 _ (by omega)
theorem mq_swapRooms (x y : Int32) (h : xRk σ R N K) : ∀ v τ, (oX11_swapRooms [.ref 0, .int x, .int y] σ).2 v τ → mQ σ τ := by
  rintro v τ (⟨c, hv, e⟩ | ⟨c, d, hv, e⟩ | ⟨c, d, hv, ρ, S, e⟩)
  · rw [e]; exact mq_rf
  · rw [e]; exact mq_rf
  · rw [e]; exact mQ_up (mQ_up (mQ_up (mQ_up (sc_fx h S).2.2 _ (by omega)) _ (by omega)) _ (by omega)) _ (by omega)
theorem mq_settle (h : xRk σ R N K) : ∀ v τ, (oX11_settle [.ref 0] σ).2 v τ → mQ σ τ := by
  rintro v τ ⟨hv, ρ1, ρ2, f1, S, e⟩
  have h1 := (xq_Ms h f1).R h
  obtain ⟨-, -, s3⟩ := sc_fx h1 S
  have f1o : ∀ a j, (a < 280 ∨ 319 < a) → ρ1.1 a j = σ.1 a j := fun a j ha => f1.2.2 a j (by
    unfold aMs
    simp only [jble, Bool.or_eq_false_iff, Bool.and_eq_false_iff, decide_eq_false_iff_not, beq_eq_false_iff_ne]
    omega)
  exact fun a ha => funext fun j => by rw [e, stS_at, if_neg (by omega), s3 a ha, f1o a j (by omega)]
theorem cu_mq {ρ τ : jM} (c : cuP ρ τ) : mQ ρ τ := fun a ha => funext fun j => c.1.2.2 a j (by
  unfold aCu aMk
  simp only [jble, Bool.or_eq_false_iff, Bool.and_eq_false_iff, decide_eq_false_iff_not, beq_eq_false_iff_ne]
  omega)
theorem mQ.tr {σ τ υ : jM} (a : mQ σ τ) (b : mQ τ υ) : mQ σ υ := fun x h => (b x h).trans (a x h)
theorem mq_divide (h : xRk σ R N K) : ∀ v τ, (oX11_divide [.ref 0] σ).2 v τ → mQ σ τ := by
  rintro v τ (⟨c, hv, cu⟩ | ⟨c, hv, ρ1, ρ2, ρ3, cu1, S, cu2, e⟩)
  · exact cu_mq cu
  · have h1 := (xcu cu1).R h
    obtain ⟨-, -, s3⟩ := sc_fx h1 S
    refine mQ.tr ((cu_mq cu1).tr (s3.tr (cu_mq cu2))) (fun a ha => funext fun j => ?_)
    rw [e, agS_o _ _ _ _ ⟨by omega, by omega⟩]
end MQ
