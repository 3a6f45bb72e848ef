/-! the class's answers to what is asked, by the row of numbers that lies beside: answers that leave all that counts as it was -/
/-- of the snapshot s0: it says now what it said then -/
def xG (s0 σ : jM) : Prop := ∃ R N K, xRk s0 R N K ∧ xQ s0 σ
theorem xG.R {s0 σ : jM} {R N K : Nat} (h0 : xRk s0 R N K) (h : xG s0 σ) : xRk σ R N K := by
  obtain ⟨_, _, _, -, q⟩ := h
  exact q.R h0
theorem xQ.tr {σ τ υ : jM} (a : xQ σ τ) (b : xQ τ υ) : xQ σ υ := ⟨fun x j c => (b.1 x j c).trans (a.1 x j c), b.2⟩
theorem jCon.imp {g : jG} {n : Nat} {mt : jMt} {args : List Value} {σ : jM} {post post' : Option Value → jM → Prop} (h : jCon g n mt args σ post) (hi : ∀ v τ, post v τ → post' v τ) : jCon g n mt args σ post' := by
  intro hI p e ha hc hk s m args below hf happ hP hK
  obtain ⟨n, o, h1, h2, h3, ⟨⟨v, τ, q1, q2, q3⟩, q4⟩, q5⟩ := h hI p e ha hc hk s m args below hf happ hP hK
  exact ⟨n, o, h1, h2, h3, ⟨⟨v, τ, q1, hi v τ q2, q3⟩, q4⟩, q5⟩
def xqS (cd : jM → Prop) (oc : jO) (xs : List Value) (y : jM → Int32) : Prop := ∀ (σ : jM) (R N K : Nat), xRk σ R N K → cd σ → (oc (.ref 0 :: xs) σ).1 ∧ ∀ v τ, (oc (.ref 0 :: xs) σ).2 v τ → v = some (.int (y σ)) ∧ xQ σ τ
theorem xq_mk {cd : jM → Prop} {oc : jO} {xs : List Value} {x y : jM → Int32} (h1 : ∀ {σ R N K}, xRk σ R N K → cd σ → (oc (.ref 0 :: xs) σ).1 ∧ ∀ v τ, (oc (.ref 0 :: xs) σ).2 v τ → v = some (.int (x σ)) ∧ xQ σ τ)
    (h3 : ∀ {σ R N K}, xRk σ R N K → cd σ → x σ = y σ) : xqS cd oc xs y := fun _ _ _ _ h c => by
  obtain ⟨p1, q1⟩ := h1 h c
  exact ⟨p1, fun v τ hv => ⟨by rw [(q1 v τ hv).1, h3 h c], (q1 v τ hv).2⟩⟩
theorem xq_ok {g : jG} {n : Nat} {mt : jMt} {oc : jO} (hC : jOk g n mt oc) {cd : jM → Prop} {xs : List Value} {y : jM → Int32} (hy : ∀ {σ τ}, xQ σ τ → y τ = y σ) (h5 : ∀ {σ τ}, xQ σ τ → (cd τ ↔ cd σ)) (h : xqS cd oc xs y) {s0 σ : jM} (hG : xG s0 σ) (c : cd s0) : jCon g n mt (.ref 0 :: xs) σ (fun v τ => v = some (.int (y s0)) ∧ xG s0 τ) := by
  obtain ⟨R, N, K, h0, q⟩ := hG
  obtain ⟨p1, q1⟩ := h _ _ _ _ (q.R h0) ((h5 q).mpr c)
  refine (hC _ σ p1).imp (fun v τ hv => ?_)
  obtain ⟨a, b⟩ := q1 v τ hv
  exact ⟨by rw [a, hy q], R, N, K, h0, q.tr b⟩
theorem xq_get {oc : jO} {x : Int32} (a w : Nat) (ha : ∀ σ R N K, xRk σ R N K → ∀ p, p < N → σ.1 a p = mD σ p w)
    (hc : ∀ σ, oc [.ref 0, .int x] σ = ((0 : Nat) = 0 ∧ fP σ x = true, fun v τ => v = some (.int (σ.1 a x.toNatClampNeg)) ∧ τ = σ)) : xqS (fun σ => mP σ x = true) oc [.int x] (fun σ => mD σ x.toNatClampNeg w) :=
  xq_mk (x := fun σ => σ.1 a x.toNatClampNeg)
    (fun h c => by
      rw [hc]
      exact ⟨⟨rfl, ((xv_P h x).1).trans c⟩, xp1 h⟩)
    (fun h c => ha _ _ _ _ h _ (xv_p h c).1)
theorem xq_num {oc : jO} {x : Int32} (f : jM → (Nat → Nat) → Nat → Int32) (g : jM → Nat → Int32)
    (hf : ∀ {σ R N K}, xRk σ R N K → ∀ {a : Nat × Nat × (Nat → Nat)}, dC σ = some a → ∀ {p}, p < N → xl σ p = true → f σ a.2.2 (cn (xl σ) p) = g σ p) 
    (hc : ∀ σ, oc [.ref 0, .int x] σ = ((0 : Nat) = 0 ∧ flOK σ ∧ prIv σ ∧ fP σ x = true, fun v τ => v = some (.int (clN σ x.toNatClampNeg (f σ))) ∧ cuP σ τ)) : xqS (fun σ => mP σ x = true) oc [.int x] (fun σ => if (dC σ).isSome = true ∧ xl σ x.toNatClampNeg = true then g σ x.toNatClampNeg else -2000000000) :=
  xq_mk (x := fun σ => clN σ x.toNatClampNeg (f σ))
    (fun {σ R N K} h c => by
      rw [hc]
      exact ⟨⟨rfl, (xv_pre h).1.1, (xv_pre h).1.2, ((xv_P h x).1).trans c⟩, xcp⟩)
    (fun {σ R N K} h c => by
      obtain ⟨l1, l2, -⟩ := xv_liv h
      have hp := (xv_p h c).1
      unfold clN
      rcases e : dC σ with _ | a
      · rw [clV_none h e]
        exact (if_neg (fun z => by simp at z)).symm
      · rw [clV_some h e, l1 _ hp, l2 _ (Nat.le_of_lt hp)]
        by_cases l : xl σ x.toNatClampNeg = true
        · rw [if_pos l, if_pos ⟨rfl, l⟩]
          exact hf h e hp l
        · rw [if_neg l, if_neg (fun z => l z.2)])
theorem xq_room {oc : jO} {x : Int32} {xs : List Value} (f : jM → (Nat → Nat) → Nat → Int32) (g : jM → Nat → Int32)
    (hf : ∀ {σ R N K}, xRk σ R N K → ∀ {a : Nat × Nat × (Nat → Nat)}, dC σ = some a → ∀ {k}, k < mLiv σ → f σ a.2.2 k = g σ (xp σ k)) 
    (hc : ∀ σ, oc (.ref 0 :: .int x :: xs) σ = ((0 : Nat) = 0 ∧ flOK σ ∧ prIv σ ∧ fR σ x = true, fun v τ => v = some (.int (clM σ x (f σ))) ∧ cuP σ τ)) : xqS (fun σ => mR σ x = true) oc (.int x :: xs) (fun σ => if (dC σ).isSome = true ∧ 0 ≤ mOw σ x then g σ (mOw σ x).toNatClampNeg else -2000000000) :=
  xq_mk (x := fun σ => clM σ x (f σ))
    (fun {σ R N K} h c => by
      rw [hc]
      exact ⟨⟨rfl, (xv_pre h).1.1, (xv_pre h).1.2, ((xv_R h x).1).trans c⟩, xcp⟩)
    (fun {σ R N K} h c => by
      unfold clM
      rcases e : dC σ with _ | a
      · rw [clV_none h e]
        exact (if_neg (fun z => by simp at z)).symm
      · rw [clV_some h e]
        have n10 := h.1.1.2
        have m10 : mLiv σ ≤ N := by
          rw [xv_hm h]
          exact cn_le _ _
        rcases xv_own h e c with ⟨k, k1, k2, k3⟩ | ⟨k2, k3⟩
        · have x2 := (xv_I h k1).2.1
          have p0 : (0 : Int32) ≤ nI (xp σ k) := (NL_0.1 _ (by omega)).mpr (Nat.zero_le _)
          rw [k2, k3, if_neg (fun z => (nI_m1 (by omega)).mp z), if_pos ⟨rfl, p0⟩, nI_clamp (by omega), nI_clamp (by omega)]
          exact hf h e k1
        · rw [k2, k3, if_pos rfl]
          exact (if_neg (fun z => absurd z.2 (by decide))).symm)
theorem xq_month : xqS (fun _ => True) oX11_month [] (fun σ => σ.1 323 5) :=
  xq_mk (x := fun σ => σ.1 37 5) (fun h _ => ⟨rfl, xp1 h⟩)
    (fun h _ => (fl37 h.2.1.1).1.2.2.2.2.2)
def qX11_month (s0 : jM) : jO := joR fun a σ => (a = 0 ∧ xG s0 σ, fun v τ => v = some (.int (s0.1 323 5)) ∧ xG s0 τ)
theorem QX11_month (g : jG) (n : Nat) (s0 : jM) : jOk g (n + 0) mX11_month (qX11_month s0) := by
  refine joR_ok ?_
  rintro _ σ ⟨rfl, h⟩
  exact xq_ok (cd := (fun _ => True)) (y := fun σ => σ.1 323 5) (CX11_month g n) (fun q => q.1 323 5 rfl) (fun _ => Iff.rfl) (xq_month) h trivial
theorem xq_arrears : xqS (fun _ => True) oX11_arrears [] (fun σ => σ.1 323 6) :=
  xq_mk (x := fun σ => σ.1 37 4) (fun h _ => ⟨rfl, xp1 h⟩)
    (fun h _ => (fl37 h.2.1.1).1.2.2.2.2.1)
def qX11_arrears (s0 : jM) : jO := joR fun a σ => (a = 0 ∧ xG s0 σ, fun v τ => v = some (.int (s0.1 323 6)) ∧ xG s0 τ)
theorem QX11_arrears (g : jG) (n : Nat) (s0 : jM) : jOk g (n + 0) mX11_arrears (qX11_arrears s0) := by
  refine joR_ok ?_
  rintro _ σ ⟨rfl, h⟩
  exact xq_ok (cd := (fun _ => True)) (y := fun σ => σ.1 323 6) (CX11_arrears g n) (fun q => q.1 323 6 rfl) (fun _ => Iff.rfl) (xq_arrears) h trivial
theorem xq_livingCount : xqS (fun _ => True) oX11_livingCount [] (fun σ => nI (mLiv σ)) :=
  xq_mk (x := fun σ => nI (flM σ)) (fun h _ => ⟨⟨rfl, (xv_n h).2.2.2.2.2.2.1⟩, xp1 h⟩)
    (fun {σ R N K} h _ => by
    rw [(xv_liv h).2.2.1])
def qX11_livingCount (s0 : jM) : jO := joR fun a σ => (a = 0 ∧ xG s0 σ, fun v τ => v = some (.int (nI (mLiv s0))) ∧ xG s0 τ)
theorem QX11_livingCount (g : jG) (n : Nat) (s0 : jM) : jOk g (n + 3) mX11_livingCount (qX11_livingCount s0) := by
  refine joR_ok ?_
  rintro _ σ ⟨rfl, h⟩
  exact xq_ok (cd := (fun _ => True)) (y := fun σ => nI (mLiv σ)) (CX11_livingCount g n) (fun q => by rw [sR_Lv q.sR]) (fun _ => Iff.rfl) (xq_livingCount) h trivial
theorem xq_totalEnvy : xqS (fun _ => True) oX11_totalEnvy [] (fun σ => mAE σ (mN σ) (mN σ)) :=
  xq_mk (x := fun σ => fSE σ (fN σ) (fN σ)) (fun h _ => ⟨⟨rfl, (xv_n h).2.2.2.2.2.2.1⟩, xp1 h⟩)
    (fun {σ R N K} h _ => by
    obtain ⟨n1, -, n3, -⟩ := xv_n h
    rw [n1, n3]
    exact xv_SE h)
def qX11_totalEnvy (s0 : jM) : jO := joR fun a σ => (a = 0 ∧ xG s0 σ, fun v τ => v = some (.int (mAE s0 (mN s0) (mN s0))) ∧ xG s0 τ)
theorem QX11_totalEnvy (g : jG) (n : Nat) (s0 : jM) : jOk g (n + 5) mX11_totalEnvy (qX11_totalEnvy s0) := by
  refine joR_ok ?_
  rintro _ σ ⟨rfl, h⟩
  exact xq_ok (cd := (fun _ => True)) (y := fun σ => mAE σ (mN σ) (mN σ)) (CX11_totalEnvy g n) (fun {σ τ} q => by
    rw [sR_N q.sR]
    unfold mAE
    rw [xQ_D q, (xQ_mM q).1]) (fun _ => Iff.rfl) (xq_totalEnvy) h trivial
theorem xq_planCount : xqS (fun _ => True) oX11_planCount [] (fun σ => nI (cn (mO σ) (mPl σ))) :=
  xq_mk (x := fun σ => σ.1 31 5 - σ.1 37 6) (fun h _ => ⟨rfl, xp1 h⟩)
    (fun {σ R N K} h _ => by
    obtain ⟨D, ρ, p1, p2, p3, p4, p5, p6, p7, p8, -⟩ := xv_pl h
    rw [(xv_n h).2.2.2.2.1, xv_open (R := R) (N := N) (fun i hi => (p5 i hi).1) p7 p8, p1, p2, nI_sub p3])
def qX11_planCount (s0 : jM) : jO := joR fun a σ => (a = 0 ∧ xG s0 σ, fun v τ => v = some (.int (nI (cn (mO s0) (mPl s0)))) ∧ xG s0 τ)
theorem QX11_planCount (g : jG) (n : Nat) (s0 : jM) : jOk g (n + 0) mX11_planCount (qX11_planCount s0) := by
  refine joR_ok ?_
  rintro _ σ ⟨rfl, h⟩
  exact xq_ok (cd := (fun _ => True)) (y := fun σ => nI (cn (mO σ) (mPl σ))) (CX11_planCount g n) (fun q => by rw [(xQ_O q).1, (xQ_O q).2]) (fun _ => Iff.rfl) (xq_planCount) h trivial
theorem xq_hasProposal : xqS (fun _ => True) oX11_hasProposal [] (fun σ => if (dC σ).isSome then 1 else 0) :=
  xq_mk (x := fun σ => clV σ 0 (fun _ => 1)) (fun h _ => ⟨⟨rfl, (xv_pre h).1⟩, xcp⟩)
    (fun {σ R N K} h _ => by
    rcases e : dC σ with _ | a
    · rw [clV_none h e]; rfl
    · rw [clV_some h e]; rfl)
def qX11_hasProposal (s0 : jM) : jO := joR fun a σ => (a = 0 ∧ xG s0 σ, fun v τ => v = some (.int (if (dC s0).isSome then 1 else 0)) ∧ xG s0 τ)
theorem QX11_hasProposal (g : jG) (n : Nat) (s0 : jM) : jOk g (n + 6) mX11_hasProposal (qX11_hasProposal s0) := by
  refine joR_ok ?_
  rintro _ σ ⟨rfl, h⟩
  exact xq_ok (cd := (fun _ => True)) (y := fun σ => if (dC σ).isSome then 1 else 0) (CX11_hasProposal g n) (fun q => by rw [sR_C q.sR]) (fun _ => Iff.rfl) (xq_hasProposal) h trivial
theorem xq_proposedValue : xqS (fun _ => True) oX11_proposedValue [] (fun σ => qs (dC σ)) :=
  xq_mk (x := fun σ => clV σ (-1) (fun a => nI a.1)) (fun h _ => ⟨⟨rfl, (xv_pre h).1⟩, xcp⟩)
    (fun {σ R N K} h _ => by
    rcases e : dC σ with _ | a
    · rw [clV_none h e]; rfl
    · rw [clV_some h e]; rfl)
def qX11_proposedValue (s0 : jM) : jO := joR fun a σ => (a = 0 ∧ xG s0 σ, fun v τ => v = some (.int (qs (dC s0))) ∧ xG s0 τ)
theorem QX11_proposedValue (g : jG) (n : Nat) (s0 : jM) : jOk g (n + 6) mX11_proposedValue (qX11_proposedValue s0) := by
  refine joR_ok ?_
  rintro _ σ ⟨rfl, h⟩
  exact xq_ok (cd := (fun _ => True)) (y := fun σ => qs (dC σ)) (CX11_proposedValue g n) (fun q => by rw [sR_C q.sR]) (fun _ => Iff.rfl) (xq_proposedValue) h trivial
theorem xq_choiceCount : xqS (fun _ => True) oX11_choiceCount [] (fun σ => qc (dC σ)) :=
  xq_mk (x := fun σ => clV σ 0 (fun a => nI a.2.1)) (fun h _ => ⟨⟨rfl, (xv_pre h).1⟩, xcp⟩)
    (fun {σ R N K} h _ => by
    rcases e : dC σ with _ | a
    · rw [clV_none h e]; rfl
    · rw [clV_some h e]; rfl)
def qX11_choiceCount (s0 : jM) : jO := joR fun a σ => (a = 0 ∧ xG s0 σ, fun v τ => v = some (.int (qc (dC s0))) ∧ xG s0 τ)
theorem QX11_choiceCount (g : jG) (n : Nat) (s0 : jM) : jOk g (n + 6) mX11_choiceCount (qX11_choiceCount s0) := by
  refine joR_ok ?_
  rintro _ σ ⟨rfl, h⟩
  exact xq_ok (cd := (fun _ => True)) (y := fun σ => qc (dC σ)) (CX11_choiceCount g n) (fun q => by rw [sR_C q.sR]) (fun _ => Iff.rfl) (xq_choiceCount) h trivial
theorem xq_transferCount : xqS (fun _ => True) oX11_transferCount [] (fun σ => nI (trS σ).length) :=
  xq_mk (x := fun σ => nI (ctr σ).length) (fun h _ => ⟨⟨rfl, (xv_n h).2.2.2.2.2.2.1, (xv_dpO h).2.2.1, (xv_dpO h).1, (xv_dpO h).2.1⟩, fun v τ q => ⟨q.1, xq_Ms h q.2⟩⟩)
    (fun {σ R N K} h _ => by rw [xv_tr h])
def qX11_transferCount (s0 : jM) : jO := joR fun a σ => (a = 0 ∧ xG s0 σ, fun v τ => v = some (.int (nI (trS s0).length)) ∧ xG s0 τ)
theorem QX11_transferCount (g : jG) (n : Nat) (s0 : jM) : jOk g (n + 4) mX11_transferCount (qX11_transferCount s0) := by
  refine joR_ok ?_
  rintro _ σ ⟨rfl, h⟩
  exact xq_ok (cd := (fun _ => True)) (y := fun σ => nI (trS σ).length) (CX11_transferCount g n) (fun q => by rw [sR_tr q.sR]) (fun _ => Iff.rfl) (xq_transferCount) h trivial
theorem xq_stateOf (x : Int32) : xqS (fun σ => mP σ x = true) oX11_stateOf [.int x] (fun σ => mD σ x.toNatClampNeg 0) :=
  xq_get 39 0 (fun σ R N K h p hp => ((fl37 h.2.1.1).2.2.1 p (by have := h.1.1.2; omega)).1) (fun _ => rfl)
def qX11_stateOf (s0 : jM) : jO := joRI fun a x σ => (a = 0 ∧ xG s0 σ ∧ mP s0 x = true, fun v τ => v = some (.int (mD s0 x.toNatClampNeg 0)) ∧ xG s0 τ)
theorem QX11_stateOf (g : jG) (n : Nat) (s0 : jM) : jOk g (n + 2) mX11_stateOf (qX11_stateOf s0) := by
  refine joRI_ok ?_
  rintro _ x σ ⟨rfl, h, c⟩
  exact xq_ok (cd := (fun σ => mP σ x = true)) (y := fun σ => mD σ x.toNatClampNeg 0) (CX11_stateOf g n) (fun q => sR_D q.sR _ _) (fun q => by rw [xQ_P q]) (xq_stateOf x) h c
theorem xq_incomeOf (x : Int32) : xqS (fun σ => mP σ x = true) oX11_incomeOf [.int x] (fun σ => mD σ x.toNatClampNeg 1) :=
  xq_get 40 1 (fun σ R N K h p hp => ((fl37 h.2.1.1).2.2.2 p hp).1) (fun _ => rfl)
def qX11_incomeOf (s0 : jM) : jO := joRI fun a x σ => (a = 0 ∧ xG s0 σ ∧ mP s0 x = true, fun v τ => v = some (.int (mD s0 x.toNatClampNeg 1)) ∧ xG s0 τ)
theorem QX11_incomeOf (g : jG) (n : Nat) (s0 : jM) : jOk g (n + 2) mX11_incomeOf (qX11_incomeOf s0) := by
  refine joRI_ok ?_
  rintro _ x σ ⟨rfl, h, c⟩
  exact xq_ok (cd := (fun σ => mP σ x = true)) (y := fun σ => mD σ x.toNatClampNeg 1) (CX11_incomeOf g n) (fun q => sR_D q.sR _ _) (fun q => by rw [xQ_P q]) (xq_incomeOf x) h c
theorem xq_roomOf (x : Int32) : xqS (fun σ => mP σ x = true) oX11_roomOf [.int x] (fun σ => mD σ x.toNatClampNeg 2) :=
  xq_get 52 2 (fun σ R N K h p hp => ((fl37 h.2.1.1).2.2.1 p (by have := h.1.1.2; omega)).2.1) (fun _ => rfl)
def qX11_roomOf (s0 : jM) : jO := joRI fun a x σ => (a = 0 ∧ xG s0 σ ∧ mP s0 x = true, fun v τ => v = some (.int (mD s0 x.toNatClampNeg 2)) ∧ xG s0 τ)
theorem QX11_roomOf (g : jG) (n : Nat) (s0 : jM) : jOk g (n + 2) mX11_roomOf (qX11_roomOf s0) := by
  refine joRI_ok ?_
  rintro _ x σ ⟨rfl, h, c⟩
  exact xq_ok (cd := (fun σ => mP σ x = true)) (y := fun σ => mD σ x.toNatClampNeg 2) (CX11_roomOf g n) (fun q => sR_D q.sR _ _) (fun q => by rw [xQ_P q]) (xq_roomOf x) h c
theorem xq_payment (x : Int32) : xqS (fun σ => mP σ x = true) oX11_payment [.int x] (fun σ => mD σ x.toNatClampNeg 3) :=
  xq_get 53 3 (fun σ R N K h p hp => ((fl37 h.2.1.1).2.2.1 p (by have := h.1.1.2; omega)).2.2.1) (fun _ => rfl)
def qX11_payment (s0 : jM) : jO := joRI fun a x σ => (a = 0 ∧ xG s0 σ ∧ mP s0 x = true, fun v τ => v = some (.int (mD s0 x.toNatClampNeg 3)) ∧ xG s0 τ)
theorem QX11_payment (g : jG) (n : Nat) (s0 : jM) : jOk g (n + 2) mX11_payment (qX11_payment s0) := by
  refine joRI_ok ?_
  rintro _ x σ ⟨rfl, h, c⟩
  exact xq_ok (cd := (fun σ => mP σ x = true)) (y := fun σ => mD σ x.toNatClampNeg 3) (CX11_payment g n) (fun q => sR_D q.sR _ _) (fun q => by rw [xQ_P q]) (xq_payment x) h c
theorem xq_valueOf (x y : Int32) : xqS (fun σ => mP σ x = true ∧ mR σ y = true) oX11_valueOf [.int x, .int y] (fun σ => mD σ x.toNatClampNeg (7 + y.toNatClampNeg)) :=
  xq_mk (x := fun σ => fV σ x y) (fun h c => ⟨⟨rfl, ((xv_P h x).1).trans c.1, ((xv_R h y).1).trans c.2⟩, xp1 h⟩)
    (fun h c => (xv_w h c.1 c.2).2.1)
def qX11_valueOf (s0 : jM) : jO := joRII fun a x y σ => (a = 0 ∧ xG s0 σ ∧ mP s0 x = true ∧ mR s0 y = true, fun v τ => v = some (.int (mD s0 x.toNatClampNeg (7 + y.toNatClampNeg))) ∧ xG s0 τ)
theorem QX11_valueOf (g : jG) (n : Nat) (s0 : jM) : jOk g (n + 3) mX11_valueOf (qX11_valueOf s0) := by
  refine joRII_ok ?_
  rintro _ x y σ ⟨rfl, h, c⟩
  exact xq_ok (cd := (fun σ => mP σ x = true ∧ mR σ y = true)) (y := fun σ => mD σ x.toNatClampNeg (7 + y.toNatClampNeg)) (CX11_valueOf g n) (fun q => sR_D q.sR _ _) (fun q => by rw [xQ_P q, xQ_R q]) (xq_valueOf x y) h c
theorem xq_refuses (x y : Int32) : xqS (fun σ => mP σ x = true ∧ mR σ y = true) oX11_refuses [.int x, .int y] (fun σ => if mD σ x.toNatClampNeg (13 + y.toNatClampNeg) = 1 then 1 else 0) :=
  xq_mk (x := fun σ => if fW σ x y = -1 then 1 else 0) (fun h c => ⟨⟨rfl, ((xv_P h x).1).trans c.1, ((xv_R h y).1).trans c.2⟩, xp1 h⟩)
    (fun {σ R N K} h c => by
      have e := (xv_w h c.1 c.2).2.2
      by_cases d : mD σ x.toNatClampNeg (13 + y.toNatClampNeg) = 1
      · rw [if_pos (e.mpr d), if_pos d]
      · rw [if_neg (fun z => d (e.mp z)), if_neg d])
def qX11_refuses (s0 : jM) : jO := joRII fun a x y σ => (a = 0 ∧ xG s0 σ ∧ mP s0 x = true ∧ mR s0 y = true, fun v τ => v = some (.int (if mD s0 x.toNatClampNeg (13 + y.toNatClampNeg) = 1 then 1 else 0)) ∧ xG s0 τ)
theorem QX11_refuses (g : jG) (n : Nat) (s0 : jM) : jOk g (n + 2) mX11_refuses (qX11_refuses s0) := by
  refine joRII_ok ?_
  rintro _ x y σ ⟨rfl, h, c⟩
  exact xq_ok (cd := (fun σ => mP σ x = true ∧ mR σ y = true)) (y := fun σ => if mD σ x.toNatClampNeg (13 + y.toNatClampNeg) = 1 then 1 else 0) (CX11_refuses g n) (fun q => by rw [sR_D q.sR]) (fun q => by rw [xQ_P q, xQ_R q]) (xq_refuses x y) h c
theorem xq_paid (x w : Int32) : xqS (fun σ => mP σ x = true) oX11_paid [.int x, .int w] (fun σ => if w = 0 then mD σ x.toNatClampNeg 4 else if w = 1 then mD σ x.toNatClampNeg 5 else if w = 2 then mD σ x.toNatClampNeg 6 else -2) :=
  xq_mk (x := fun σ => clPd σ x.toNatClampNeg w) (fun h c => ⟨⟨rfl, ((xv_P h x).1).trans c⟩, xp1 h⟩)
    (fun {σ R N K} h c => by
      obtain ⟨p1, p2, p3⟩ := xv_p h c
      obtain ⟨-, -, -, a1, a2, a3⟩ := (fl37 h.2.1.1).2.2.1 _ (show x.toNatClampNeg < 10 by omega)
      unfold clPd
      rw [a1, a2, a3]
      rfl)
def qX11_paid (s0 : jM) : jO := joRII fun a x w σ => (a = 0 ∧ xG s0 σ ∧ mP s0 x = true, fun v τ => v = some (.int (if w = 0 then mD s0 x.toNatClampNeg 4 else if w = 1 then mD s0 x.toNatClampNeg 5 else if w = 2 then mD s0 x.toNatClampNeg 6 else -2)) ∧ xG s0 τ)
theorem QX11_paid (g : jG) (n : Nat) (s0 : jM) : jOk g (n + 2) mX11_paid (qX11_paid s0) := by
  refine joRII_ok ?_
  rintro _ x w σ ⟨rfl, h, c⟩
  exact xq_ok (cd := (fun σ => mP σ x = true)) (y := fun σ => if w = 0 then mD σ x.toNatClampNeg 4 else if w = 1 then mD σ x.toNatClampNeg 5 else if w = 2 then mD σ x.toNatClampNeg 6 else -2) (CX11_paid g n) (fun q => by rw [sR_D q.sR, sR_D q.sR, sR_D q.sR]) (fun q => by rw [xQ_P q]) (xq_paid x w) h c
theorem xq_envyOf (x y : Int32) : xqS (fun σ => mP σ x = true ∧ mP σ y = true) oX11_envyOf [.int x, .int y] (fun σ => mKn σ x.toNatClampNeg y.toNatClampNeg) :=
  xq_mk (x := fun σ => if fH σ x = true ∧ fH σ y = true then fE σ x y else -1) (fun h c => ⟨⟨rfl, ((xv_P h x).1).trans c.1, ((xv_P h y).1).trans c.2⟩, xp1 h⟩)
    (fun {σ R N K} h c => by
      obtain ⟨p1, p2, -⟩ := xv_p h c.1
      obtain ⟨q1, q2, -⟩ := xv_p h c.2
      have := (xv_Ep h p1 q1).2
      rw [← p2, ← q2] at this
      exact this)
def qX11_envyOf (s0 : jM) : jO := joRII fun a x y σ => (a = 0 ∧ xG s0 σ ∧ mP s0 x = true ∧ mP s0 y = true, fun v τ => v = some (.int (mKn s0 x.toNatClampNeg y.toNatClampNeg)) ∧ xG s0 τ)
theorem QX11_envyOf (g : jG) (n : Nat) (s0 : jM) : jOk g (n + 4) mX11_envyOf (qX11_envyOf s0) := by
  refine joRII_ok ?_
  rintro _ x y σ ⟨rfl, h, c⟩
  exact xq_ok (cd := (fun σ => mP σ x = true ∧ mP σ y = true)) (y := fun σ => mKn σ x.toNatClampNeg y.toNatClampNeg) (CX11_envyOf g n) (fun q => by rw [(xQ_mM q).2]) (fun q => by rw [xQ_P q, xQ_P q]) (xq_envyOf x y) h c
theorem xq_proposedRoom (x : Int32) : xqS (fun σ => mP σ x = true) oX11_proposedRoom [.int x] (fun σ => mCh σ x.toNatClampNeg) :=
  xq_mk (x := fun σ => clR σ x.toNatClampNeg) (fun h c => ⟨⟨rfl, (xv_pre h).1.1, (xv_pre h).1.2, ((xv_P h x).1).trans c⟩, xcp⟩)
    (fun h c => xv_Rm h (xv_p h c).1)
def qX11_proposedRoom (s0 : jM) : jO := joRI fun a x σ => (a = 0 ∧ xG s0 σ ∧ mP s0 x = true, fun v τ => v = some (.int (mCh s0 x.toNatClampNeg)) ∧ xG s0 τ)
theorem QX11_proposedRoom (g : jG) (n : Nat) (s0 : jM) : jOk g (n + 6) mX11_proposedRoom (qX11_proposedRoom s0) := by
  refine joRI_ok ?_
  rintro _ x σ ⟨rfl, h, c⟩
  exact xq_ok (cd := (fun σ => mP σ x = true)) (y := fun σ => mCh σ x.toNatClampNeg) (CX11_proposedRoom g n) (fun q => by rw [(sR_Ch q.sR).1]) (fun q => by rw [xQ_P q]) (xq_proposedRoom x) h c
theorem xg_proposedPayment  {σ τ : jM} (s9 : sR σ τ) : (fun σ p => paS σ (shN σ) (cn (xl σ) p)) τ = (fun σ p => paS σ (shN σ) (cn (xl σ) p)) σ :=
  (show ∀ {σ τ : jM}, sR σ τ → (fun σ p => paS σ (shN σ) (cn (xl σ) p)) τ = (fun σ p => paS σ (shN σ) (cn (xl σ) p)) σ from (fun s => by
    funext p
    dsimp only
    rw [sR_sN s, sR_pa s, sR_l s])) s9
theorem xq_proposedPayment (x : Int32) : xqS (fun σ => mP σ x = true) oX11_proposedPayment [.int x] (fun σ => if (dC σ).isSome = true ∧ xl σ x.toNatClampNeg = true then (fun σ p => paS σ (shN σ) (cn (xl σ) p)) σ x.toNatClampNeg else -2000000000) :=
  xq_num  (fun σ A i => flPy σ A (flS σ) i) (fun σ p => paS σ (shN σ) (cn (xl σ) p)) (fun h _ e _ hp l => by rw [(xv_S h).1]; exact xv_Py h e _ (ck_of h hp l).1) (fun _ => rfl)
def qX11_proposedPayment (s0 : jM) : jO := joRI fun a x σ => (a = 0 ∧ xG s0 σ ∧ mP s0 x = true, fun v τ => v = some (.int (if (dC s0).isSome = true ∧ xl s0 x.toNatClampNeg = true then (fun s0 p => paS s0 (shN s0) (cn (xl s0) p)) s0 x.toNatClampNeg else -2000000000)) ∧ xG s0 τ)
theorem QX11_proposedPayment (g : jG) (n : Nat) (s0 : jM) : jOk g (n + 6) mX11_proposedPayment (qX11_proposedPayment s0) := by
  refine joRI_ok ?_
  rintro _ x σ ⟨rfl, h, c⟩
  exact xq_ok (cd := (fun σ => mP σ x = true)) (y := fun σ => if (dC σ).isSome = true ∧ xl σ x.toNatClampNeg = true then (fun σ p => paS σ (shN σ) (cn (xl σ) p)) σ x.toNatClampNeg else -2000000000) (CX11_proposedPayment g n) (fun {σ τ} q => by
    rw [sR_C q.sR, sR_l q.sR]
    exact congrArg (fun (w : Nat → Int32) => if (dC σ).isSome = true ∧ xl σ x.toNatClampNeg = true then w x.toNatClampNeg else -2000000000) (xg_proposedPayment q.sR)) (fun q => by rw [xQ_P q]) (xq_proposedPayment x) h c
theorem xg_surplus  {σ τ : jM} (s9 : sR σ τ) : (fun σ p => mSu σ p) τ = (fun σ p => mSu σ p) σ :=
  (show ∀ {σ τ : jM}, sR σ τ → (fun σ p => mSu σ p) τ = (fun σ p => mSu σ p) σ from (fun s => sR_Su s)) s9
theorem xq_surplus (x : Int32) : xqS (fun σ => mP σ x = true) oX11_surplus [.int x] (fun σ => if (dC σ).isSome = true ∧ xl σ x.toNatClampNeg = true then (fun σ p => mSu σ p) σ x.toNatClampNeg else -2000000000) :=
  xq_num  (fun σ A i => clG σ A i) (fun σ p => mSu σ p) (fun h _ e _ hp l => by
    have := xv_G h e (ck_of h hp l).1
    rw [(ck_of h hp l).2] at this
    exact this) (fun _ => rfl)
def qX11_surplus (s0 : jM) : jO := joRI fun a x σ => (a = 0 ∧ xG s0 σ ∧ mP s0 x = true, fun v τ => v = some (.int (if (dC s0).isSome = true ∧ xl s0 x.toNatClampNeg = true then (fun s0 p => mSu s0 p) s0 x.toNatClampNeg else -2000000000)) ∧ xG s0 τ)
theorem QX11_surplus (g : jG) (n : Nat) (s0 : jM) : jOk g (n + 6) mX11_surplus (qX11_surplus s0) := by
  refine joRI_ok ?_
  rintro _ x σ ⟨rfl, h, c⟩
  exact xq_ok (cd := (fun σ => mP σ x = true)) (y := fun σ => if (dC σ).isSome = true ∧ xl σ x.toNatClampNeg = true then (fun σ p => mSu σ p) σ x.toNatClampNeg else -2000000000) (CX11_surplus g n) (fun {σ τ} q => by
    rw [sR_C q.sR, sR_l q.sR]
    exact congrArg (fun (w : Nat → Int32) => if (dC σ).isSome = true ∧ xl σ x.toNatClampNeg = true then w x.toNatClampNeg else -2000000000) (xg_surplus q.sR)) (fun q => by rw [xQ_P q]) (xq_surplus x) h c
theorem xg_price  {σ τ : jM} (s9 : sR σ τ) : (fun σ p => mPr σ (nI (shN σ)) p) τ = (fun σ p => mPr σ (nI (shN σ)) p) σ :=
  (show ∀ {σ τ : jM}, sR σ τ → (fun σ p => mPr σ (nI (shN σ)) p) τ = (fun σ p => mPr σ (nI (shN σ)) p) σ from (fun s => by
    funext p
    dsimp only
    rw [sR_sN s, sR_Pr s])) s9
theorem xq_price (x : Int32) : xqS (fun σ => mR σ x = true) oX11_price [.int x] (fun σ => if (dC σ).isSome = true ∧ 0 ≤ mOw σ x then (fun σ p => mPr σ (nI (shN σ)) p) σ (mOw σ x).toNatClampNeg else -2000000000) :=
  xq_room (xs := []) (fun σ A i => iI (flPr σ A (flS σ) i)) (fun σ p => mPr σ (nI (shN σ)) p) (fun {σ R N K} h a e k hk => by
    obtain ⟨x1, x2, x3, x4, x5⟩ := xv_I h hk
    obtain ⟨s1, s2, -⟩ := xv_S h
    rw [(xv_mPr h e s2).2.1 _ (by rw [(xv_n h).2.2.1]; exact x2), if_pos x3, x4, s1, xv_Pr h e _ hk]) (fun _ => rfl)
def qX11_price (s0 : jM) : jO := joRI fun a x σ => (a = 0 ∧ xG s0 σ ∧ mR s0 x = true, fun v τ => v = some (.int (if (dC s0).isSome = true ∧ 0 ≤ mOw s0 x then (fun s0 p => mPr s0 (nI (shN s0)) p) s0 (mOw s0 x).toNatClampNeg else -2000000000)) ∧ xG s0 τ)
theorem QX11_price (g : jG) (n : Nat) (s0 : jM) : jOk g (n + 6) mX11_price (qX11_price s0) := by
  refine joRI_ok ?_
  rintro _ x σ ⟨rfl, h, c⟩
  exact xq_ok (cd := (fun σ => mR σ x = true)) (y := fun σ => if (dC σ).isSome = true ∧ 0 ≤ mOw σ x then (fun σ p => mPr σ (nI (shN σ)) p) σ (mOw σ x).toNatClampNeg else -2000000000) (CX11_price g n) (fun {σ τ} q => by
    rw [sR_C q.sR, sR_Ow q.sR]
    exact congrArg (fun (w : Nat → Int32) => if (dC σ).isSome = true ∧ 0 ≤ mOw σ x then w (mOw σ x).toNatClampNeg else -2000000000) (xg_price q.sR)) (fun q => by rw [xQ_R q]) (xq_price x) h c
theorem xg_extreme  (y : Int32) {σ τ : jM} (s9 : sR σ τ) : (fun σ p => if y = 0 then mLo σ p else mHi σ p) τ = (fun σ p => if y = 0 then mLo σ p else mHi σ p) σ :=
  (show ∀ {σ τ : jM}, sR σ τ → (fun σ p => if y = 0 then mLo σ p else mHi σ p) τ = (fun σ p => if y = 0 then mLo σ p else mHi σ p) σ from (fun s => by
    funext p
    dsimp only
    rw [sR_Lo s, sR_Hi s])) s9
theorem xq_extreme (x y : Int32) : xqS (fun σ => mR σ x = true) oX11_extreme [.int x, .int y] (fun σ => if (dC σ).isSome = true ∧ 0 ≤ mOw σ x then (fun σ p => if y = 0 then mLo σ p else mHi σ p) σ (mOw σ x).toNatClampNeg else -2000000000) :=
  xq_room (xs := [.int y]) (fun σ A i => if y = 0 then iI (gLo (flW σ) A (flM σ) i) else iI (- gHi (flW σ) A (flM σ) i)) (fun σ p => if y = 0 then mLo σ p else mHi σ p) (fun {σ R N K} h a e k hk => by
    obtain ⟨x1, x2, x3, x4, x5⟩ := xv_I h hk
    obtain ⟨e1, e2⟩ := xv_ex h e hk
    have l : dL (σ.1 323) (xp σ k) = true := x3
    have x4 : cn (dL (σ.1 323)) (xp σ k) = k := x4
    unfold mLo mHi
    rw [if_pos l, if_pos l, x4, e1, e2, xv_mA e]) (fun _ => rfl)
def qX11_extreme (s0 : jM) : jO := joRII fun a x y σ => (a = 0 ∧ xG s0 σ ∧ mR s0 x = true, fun v τ => v = some (.int (if (dC s0).isSome = true ∧ 0 ≤ mOw s0 x then (fun s0 p => if y = 0 then mLo s0 p else mHi s0 p) s0 (mOw s0 x).toNatClampNeg else -2000000000)) ∧ xG s0 τ)
theorem QX11_extreme (g : jG) (n : Nat) (s0 : jM) : jOk g (n + 6) mX11_extreme (qX11_extreme s0) := by
  refine joRII_ok ?_
  rintro _ x y σ ⟨rfl, h, c⟩
  exact xq_ok (cd := (fun σ => mR σ x = true)) (y := fun σ => if (dC σ).isSome = true ∧ 0 ≤ mOw σ x then (fun σ p => if y = 0 then mLo σ p else mHi σ p) σ (mOw σ x).toNatClampNeg else -2000000000) (CX11_extreme g n) (fun {σ τ} q => by
    rw [sR_C q.sR, sR_Ow q.sR]
    exact congrArg (fun (w : Nat → Int32) => if (dC σ).isSome = true ∧ 0 ≤ mOw σ x then w (mOw σ x).toNatClampNeg else -2000000000) (xg_extreme y q.sR)) (fun q => by rw [xQ_R q]) (xq_extreme x y) h c
theorem xq_target (x : Int32) : xqS (fun σ => mP σ x = true) oX11_target [.int x] (fun σ => tgS σ x.toNatClampNeg) :=
  xq_mk (x := fun σ => ctS σ x.toNatClampNeg) (fun h c => ⟨⟨rfl, (xv_n h).2.2.2.2.2.2.1, (xv_dpO h).2.2.1, (xv_dpO h).1, ((xv_P h x).1).trans c⟩, fun v τ q => ⟨q.1, xq_Ai h q.2⟩⟩)
    (fun h c => xv_ctS h (xv_p h c).1)
def qX11_target (s0 : jM) : jO := joRI fun a x σ => (a = 0 ∧ xG s0 σ ∧ mP s0 x = true, fun v τ => v = some (.int (tgS s0 x.toNatClampNeg)) ∧ xG s0 τ)
theorem QX11_target (g : jG) (n : Nat) (s0 : jM) : jOk g (n + 3) mX11_target (qX11_target s0) := by
  refine joRI_ok ?_
  rintro _ x σ ⟨rfl, h, c⟩
  exact xq_ok (cd := (fun σ => mP σ x = true)) (y := fun σ => tgS σ x.toNatClampNeg) (CX11_target g n) (fun q => by rw [sR_tgS q.sR]) (fun q => by rw [xQ_P q]) (xq_target x) h c
theorem xq_transfer (x w : Int32) : xqS (fun σ => mIn x 0 (nI (trS σ).length - 1) = true) oX11_transfer [.int x, .int w] (fun σ => trN (trS σ) x w) :=
  xq_mk (x := fun σ => trN (ctr σ) x w) (fun {σ R N K} h c => ⟨⟨rfl, (xv_n h).2.2.2.2.2.2.1, (xv_dpO h).2.2.1, (xv_dpO h).1, (xv_dpO h).2.1, by
      rw [mIn_lt (tr_11 h), x_nI (tr_11 h)] at c
      obtain ⟨k, k1, k2⟩ := c
      exact ⟨k, k2, by rw [xv_tr h]; exact k1⟩⟩, fun v τ q => ⟨q.1, xq_Ms h q.2⟩⟩)
    (fun {σ R N K} h c => by rw [xv_tr h])
def qX11_transfer (s0 : jM) : jO := joRII fun a x w σ => (a = 0 ∧ xG s0 σ ∧ mIn x 0 (nI (trS s0).length - 1) = true, fun v τ => v = some (.int (trN (trS s0) x w)) ∧ xG s0 τ)
theorem QX11_transfer (g : jG) (n : Nat) (s0 : jM) : jOk g (n + 4) mX11_transfer (qX11_transfer s0) := by
  refine joRII_ok ?_
  rintro _ x w σ ⟨rfl, h, c⟩
  exact xq_ok (cd := (fun σ => mIn x 0 (nI (trS σ).length - 1) = true)) (y := fun σ => trN (trS σ) x w) (CX11_transfer g n) (fun q => by rw [sR_tr q.sR]) (fun q => by rw [sR_tr q.sR]) (xq_transfer x w) h c
