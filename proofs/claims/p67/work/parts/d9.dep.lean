/-! the deposit's shares and the transfers -/
theorem xv_ctS {σ : jM} {R N K : Nat} (h : xRk σ R N K) {p : Nat} (hp : p < N) : ctS σ p = tgS σ p := by
  obtain ⟨n1, -, n3, -⟩ := xv_n h
  obtain ⟨l1, l2, l3, -⟩ := xv_liv h
  unfold ctS tgS
  rw [n1, l1 p hp, l2 p (by omega), l3]
  by_cases l : xl σ p = true
  · have ck := (ck_of h hp l).1
    rw [if_pos ⟨hp, l⟩, if_pos l]
    have e : dpF σ = dpN σ := by
      unfold dpF dpN
      rw [(fl37 h.2.1.1).1.2.2.2.1]
    rw [e]
    refine spS_congr (fun i hi => ?_) _ ck
    obtain ⟨x1, x2, x3, x4, x5⟩ := xv_I h hi
    have n10 := h.1.1.2
    unfold ctW tgW
    rw [x5, ((fl37 h.2.1.1).2.2.1 _ (show xp σ i < 10 by omega)).2.2.1]
    rfl
  · rw [if_neg (fun z => l z.2), if_neg l]
theorem xv_dpO {σ : jM} {R N K : Nat} (h : xRk σ R N K) : dpO σ ∧ stO σ ∧ flM σ ≤ 6 ∧ dSt (σ.1 323) := by
  have d := h.2.1.2.1
  refine ⟨?_, fun p hp => ?_, ?_, fun p hp => (d.2.2.2.2.2.1 p hp).1⟩
  · unfold dpO
    rw [(fl37 h.2.1.1).1.2.2.2.1]
    exact d.1.2.2.2.1
  · rw [((fl37 h.2.1.1).2.2.1 p hp).2.2.2.2.1]
    exact (d.2.2.2.2.2.1 p hp).1
  · have := (xv_liv h).2.2
    have := h.1.1.1
    omega
theorem xv_tr {σ : jM} {R N K : Nat} (h : xRk σ R N K) : ctr σ = trS σ := by
  obtain ⟨n1, -, n3, -⟩ := xv_n h
  have e : ∀ p, p < 10 → cdP σ p = duP σ p := fun p hp => by
    have s : σ.1 55 p = mD σ p 5 := ((fl37 h.2.1.1).2.2.1 p hp).2.2.2.2.1
    unfold cdP duP
    rw [n3, s]
    by_cases c : p < N
    · rw [if_pos c, xv_ctS h c]
    · rw [if_neg c]
      have z : ctS σ p = 0 := by
        unfold ctS
        rw [n1, if_neg (fun z => c z.1)]
      have w : mD σ p 5 = 0 := (h.2.1.2.1.2.2.2.2.2.1 p hp).2 (by omega)
      rw [z, w]
      rfl
  unfold ctr trS
  refine trL_cg 11 (fun i hi => ?_)
  unfold cdI duI
  by_cases c : i < 10
  · rw [if_pos c, if_pos c, e i c]
  · rw [if_neg c, if_neg c, sI_congr 10 e]
theorem fr_300 {A : Nat → Nat → Bool} {B : Nat → Bool} {σ τ : jM} {R N K : Nat} (h : xRk σ R N K) (f : jfr A B σ τ) (hA : ∀ a j, (a < 280 ∨ 319 < a) → A a j = false) : xQ σ τ := by
  refine ⟨fun a j c => f.2.2 a j (hA a j ?_), prIv_fr h (fun a j ha => f.2.2 a j (hA a j (by omega)))⟩
  unfold xC at c
  simp only [jble, Bool.or_eq_true, Bool.and_eq_true, beq_iff_eq, decide_eq_true_eq] at c
  omega
theorem xq_Ai {σ τ : jM} {R N K : Nat} (h : xRk σ R N K) (f : jfr aAi bAi σ τ) : xQ σ τ := fr_300 h f (fun a j ha => by
  unfold aAi
  simp only [Bool.or_eq_false_iff, beq_eq_false_iff_ne]
  omega)
theorem xq_Ms {σ τ : jM} {R N K : Nat} (h : xRk σ R N K) (f : jfr aMs bAi σ τ) : xQ σ τ := fr_300 h f (fun a j ha => by
  unfold aMs
  simp only [jble, Bool.or_eq_false_iff, Bool.and_eq_false_iff, decide_eq_false_iff_not, beq_eq_false_iff_ne]
  omega)
theorem sR_tgS {σ τ : jM} (s : sR σ τ) : tgS τ = tgS σ := by
  have e : tgW τ = tgW σ := by
    funext i
    unfold tgW
    rw [sR_D s, sR_p s]
  have e2 : dpN τ = dpN σ := by
    unfold dpN
    rw [s.1]
  funext p
  unfold tgS
  rw [sR_l s, e, e2, sR_Lv s]
theorem sR_tr {σ τ : jM} (s : sR σ τ) : trS τ = trS σ := by
  have e : duP τ = duP σ := by
    funext p
    unfold duP
    rw [sR_N s, sR_tgS s, sR_D s]
  have e2 : duI τ = duI σ := by
    funext i
    unfold duI
    rw [e]
  unfold trS
  rw [e2]
theorem xt_target (x : Int32) : xTw (fun σ => mP σ x = true) xE oX11_target oM_target [.int x] :=
  xT_mk (x := fun σ => ctS σ x.toNatClampNeg) (y := fun σ => tgS σ x.toNatClampNeg)
    (fun h c => ⟨⟨rfl, (xv_n h).2.2.2.2.2.2.1, (xv_dpO h).2.2.1, (xv_dpO h).1, ((xv_P h x).1).trans c⟩, fun v τ q => ⟨q.1, xq_Ai h q.2⟩⟩)
    (fun h => xt_e h)
    (fun {σ R N K} h => ⟨⟨rfl, (xv_pre h).2⟩, xmt h (fun c => if_pos c)⟩)
    (fun h c => xv_ctS h (xv_p h c).1) (fun q => by rw [sR_tgS q.sR]) (fun q => by rw [xQ_P q])
theorem xs_transferCount : xS oX11_transferCount oM_transferCount [] :=
  xS_mk (x := fun σ => nI (ctr σ).length) (y := fun σ => nI (trS σ).length) (fun h => ⟨⟨rfl, (xv_n h).2.2.2.2.2.2.1, (xv_dpO h).2.2.1, (xv_dpO h).1, (xv_dpO h).2.1⟩, fun v τ q => ⟨q.1, xq_Ms h q.2⟩⟩) (fun h => ⟨⟨rfl, (xv_pre h).2.1, (xv_pre h).2.2, (xv_dpO h).2.2.2⟩, xmp h⟩) (fun {σ R N K} h => by rw [xv_tr h]) (fun q => by rw [sR_tr q.sR])
theorem tr_11 {σ : jM} {R N K : Nat} (h : xRk σ R N K) : (trS σ).length ≤ 1000000 := by
  have : ∀ f d, (trL f d).length ≤ f := fun f => by
    induction f with
    | zero => intro d; exact Nat.le_refl _
    | succ f ih =>
      intro d
      simp only [trL]
      by_cases c : 0 < d (tP d 10)
      · rw [if_pos c]
        simp only [List.length_cons]
        have := ih (tS d)
        omega
      · rw [if_neg c]
        exact Nat.zero_le _
  have := this 11 (duI σ)
  unfold trS
  omega
theorem xt_transfer (x w : Int32) : xTw (fun σ => mIn x 0 (nI (trS σ).length - 1) = true) (fun σ τ => jfr aMs bAi σ τ) oX11_transfer oM_transfer [.int x, .int w] :=
  xT_mk (x := fun σ => trN (ctr σ) x w) (y := fun σ => trN (trS σ) x w)
    (fun {σ R N K} h c => ⟨⟨rfl, (xv_n h).2.2.2.2.2.2.1, (xv_dpO h).2.2.1, (xv_dpO h).1, (xv_dpO h).2.1, by
      rw [mIn_lt (tr_11 h), x_nI (tr_11 h)] at c
      obtain ⟨k, k1, k2⟩ := c
      exact ⟨k, k2, by rw [xv_tr h]; exact k1⟩⟩, fun v τ q => ⟨q.1, xq_Ms h q.2⟩⟩)
    (fun h _ τ f => xq_Ms h f)
    (fun {σ R N K} h => ⟨⟨rfl, (xv_pre h).2.1, (xv_pre h).2.2, (xv_dpO h).2.2.2⟩, xmt h (fun c => if_pos c)⟩)
    (fun {σ R N K} h c => by rw [xv_tr h]) (fun q => by rw [sR_tr q.sR]) (fun q => by rw [sR_tr q.sR])
