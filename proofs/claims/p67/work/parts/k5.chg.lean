/-! the class's changes, as the law asks for them -/
def qX11_setLease (s0 : jM) : jO := joRI fun a x σ => (a = 0 ∧ xG s0 σ ∧ mIn x 0 99999 = true, fun v τ => v = some (.int (s0.1 323 3)) ∧ xN s0 τ (fu (s0.1 323) 3 x))
theorem QX11_setLease (g : jG) (n : Nat) (s0 : jM) : jOk g (n + 4) mX11_setLease (qX11_setLease s0) := by
  refine joRI_ok ?_
  rintro _ x σ ⟨rfl, hG, c⟩
  refine xo_ok (CX11_setLease g n) (xs_setLease x) (fun h => mq_setLease x h) hG _ _ (fun τ q o => ?_)
  have e := q.at 323 rfl rfl
  have b := (mBf_0 τ).up 3 x
  refine ⟨jup (mB τ) 323 3 x, ⟨by rw [if_pos c, e], by rw [if_pos c]; rfl⟩, b.e.1, ?_, b.e.2⟩
  rw [← e]
  exact fu_jup9 3 x (mB_f τ)
def qX11_setSetting (s0 : jM) : jO := joRII fun a x y σ => (a = 0 ∧ xG s0 σ ∧ (mIn x 0 2 = true ∧ mIn y 0 (mMost x) = true), fun v τ => v = some (.int (s0.1 323 x.toNatClampNeg)) ∧ xN s0 τ (fu (s0.1 323) x.toNatClampNeg y))
theorem QX11_setSetting (g : jG) (n : Nat) (s0 : jM) : jOk g (n + 4) mX11_setSetting (qX11_setSetting s0) := by
  refine joRII_ok ?_
  rintro _ x y σ ⟨rfl, hG, c⟩
  refine xo_ok (CX11_setSetting g n) (xs_setSetting x y) (fun h => mq_setSetting x y h) hG _ _ (fun τ q o => ?_)
  have e := q.at 323 rfl rfl
  have b := (mBf_0 τ).up x.toNatClampNeg y
  refine ⟨jup (mB τ) 323 x.toNatClampNeg y, ⟨by rw [if_pos c, e], by rw [if_pos c]; rfl⟩, b.e.1, ?_, b.e.2⟩
  rw [← e]
  exact fu_jup9 _ y (mB_f τ)
def inF (s0 : jM) (p : Nat) : Nat → Int32 := if mD s0 p 0 = 1 then s0.1 323 else if nI (mLiv s0) = s0.1 322 3 then s0.1 323 else fu (s0.1 323) (8 + 20 * p + 0) 1
def inX (s0 : jM) (p : Nat) : Int32 := if mD s0 p 0 = 1 then -4 else if nI (mLiv s0) = s0.1 322 3 then -3 else nI (cn (dL (inF s0 p)) (mN s0))
def qX11_moveIn (s0 : jM) : jO := joRI fun a x σ => (a = 0 ∧ xG s0 σ ∧ mP s0 x = true, fun v τ => v = some (.int (inX s0 x.toNatClampNeg)) ∧ xN s0 τ (inF s0 x.toNatClampNeg))
theorem QX11_moveIn (g : jG) (n : Nat) (s0 : jM) : jOk g (n + 4) mX11_moveIn (qX11_moveIn s0) := by
  refine joRI_ok ?_
  rintro _ x σ ⟨rfl, hG, c⟩
  refine xo_ok (CX11_moveIn g n) (xs_moveIn x) (fun h => mq_moveIn x h) hG _ _ (fun τ q o => ?_)
  have e := q.at 323 rfl rfl
  have c' : mP τ x = true := by rw [sR_mP q.s]; exact c
  have t := th_e τ
  unfold inX inF
  by_cases d : mD s0 x.toNatClampNeg 0 = 1
  · rw [if_pos d, if_pos d, ← e]
    exact ⟨_, Or.inr (Or.inl ⟨c', by rw [q.D]; exact d, rfl, rfl⟩), t⟩
  · rw [if_neg d, if_neg d]
    by_cases k : nI (mLiv s0) = s0.1 322 3
    · rw [if_pos k, if_pos k, ← e]
      exact ⟨_, Or.inr (Or.inr (Or.inl ⟨c', by rw [q.D]; exact d, by rw [sR_Lv q.s, q.s.2.1]; exact k, rfl, rfl⟩)), t⟩
    · rw [if_neg k, if_neg k]
      have b := (mBf_0 τ).up (8 + 20 * x.toNatClampNeg + 0) 1
      have ef : (mIn1 τ x.toNatClampNeg).1 323 = fu (s0.1 323) (8 + 20 * x.toNatClampNeg + 0) 1 := fu_jup9 _ 1 ((mB_f τ).trans e)
      have en : mN (mIn1 τ x.toNatClampNeg) = mN s0 := by
        have : mN (mIn1 τ x.toNatClampNeg) = mN τ := congrArg (·.toNatClampNeg) b.e.2.1.2.1
        rw [this, sR_N q.s]
      refine ⟨mIn1 τ x.toNatClampNeg, Or.inr (Or.inr (Or.inr ⟨c', by rw [q.D]; exact d, by rw [sR_Lv q.s, q.s.2.1]; exact k, ?_, rfl⟩)), b.e.1, ef, b.e.2⟩
      show _ = some (Value.int (nI (cn (dL ((mIn1 τ x.toNatClampNeg).1 323)) (mN (mIn1 τ x.toNatClampNeg)))))
      rw [ef, en]
def outF (s0 : jM) (p : Nat) : Nat → Int32 := if mD s0 p 0 = 1 then fOut (s0.1 323) p else s0.1 323
def outX (s0 : jM) (p : Nat) : Int32 := if mD s0 p 0 = 1 then nI (cn (dL (fOut (s0.1 323) p)) (mN s0)) else -4
def qX11_moveOut (s0 : jM) : jO := joRI fun a x σ => (a = 0 ∧ xG s0 σ ∧ mP s0 x = true, fun v τ => v = some (.int (outX s0 x.toNatClampNeg)) ∧ xN s0 τ (outF s0 x.toNatClampNeg))
theorem QX11_moveOut (g : jG) (n : Nat) (s0 : jM) : jOk g (n + 4) mX11_moveOut (qX11_moveOut s0) := by
  refine joRI_ok ?_
  rintro _ x σ ⟨rfl, hG, c⟩
  refine xo_ok (CX11_moveOut g n) (xs_moveOut x) (fun h => mq_moveOut x h) hG _ _ (fun τ q o => ?_)
  have e := q.at 323 rfl rfl
  have c' : mP τ x = true := by rw [sR_mP q.s]; exact c
  have t := th_e τ
  unfold outX outF
  by_cases d : mD s0 x.toNatClampNeg 0 = 1
  · rw [if_pos d, if_pos d]
    have b := (((mBf_0 τ).up (8 + 20 * x.toNatClampNeg + 0) 2).up (8 + 20 * x.toNatClampNeg + 2) (-1)).up (8 + 20 * x.toNatClampNeg + 3) 0
    have ef : (mOut1 τ x.toNatClampNeg).1 323 = fOut (s0.1 323) x.toNatClampNeg := fu_jup9 _ 0 (fu_jup9 _ (-1) (fu_jup9 _ 2 ((mB_f τ).trans e)))
    have en : mN (mOut1 τ x.toNatClampNeg) = mN s0 := by
      have : mN (mOut1 τ x.toNatClampNeg) = mN τ := congrArg (·.toNatClampNeg) b.e.2.1.2.1
      rw [this, sR_N q.s]
    refine ⟨mOut1 τ x.toNatClampNeg, Or.inr (Or.inr ⟨c', by rw [q.D]; exact d, ?_, rfl⟩), b.e.1, ef, b.e.2⟩
    show _ = some (Value.int (nI (cn (dL ((mOut1 τ x.toNatClampNeg).1 323)) (mN (mOut1 τ x.toNatClampNeg)))))
    rw [ef, en]
  · rw [if_neg d, if_neg d, ← e]
    exact ⟨_, Or.inr (Or.inl ⟨c', by rw [q.D]; exact d, rfl, rfl⟩), t⟩
theorem mSv_e (τ : jM) (p r : Nat) (x y : Int32) : mBf τ (mSv1 τ p r x y) ∧ (mSv1 τ p r x y).1 323 = fWt (τ.1 323) p r x y := ⟨((mBf_0 τ).up _ x).up _ y, fu_jup9 _ y (fu_jup9 _ x (mB_f τ))⟩
def qX11_setValue (s0 : jM) : jO := joRIII fun a x y w σ => (a = 0 ∧ xG s0 σ ∧ mP s0 x = true ∧ mR s0 y = true ∧ mIn w 0 9999 = true, fun v τ => v = some (.int (mD s0 x.toNatClampNeg (7 + y.toNatClampNeg))) ∧ xN s0 τ (fWt (s0.1 323) x.toNatClampNeg y.toNatClampNeg w 0))
theorem QX11_setValue (g : jG) (n : Nat) (s0 : jM) : jOk g (n + 4) mX11_setValue (qX11_setValue s0) := by
  refine joRIII_ok ?_
  rintro _ x y w σ ⟨rfl, hG, c, d, k⟩
  refine xo_ok (CX11_setValue g n) (xs_setValue x y w) (fun h => mq_setValue x y w h) hG _ _ (fun τ q o => ?_)
  have e := q.at 323 rfl rfl
  obtain ⟨b, f⟩ := mSv_e τ x.toNatClampNeg y.toNatClampNeg w 0
  rw [e] at f
  exact ⟨_, Or.inr (Or.inr ⟨by rw [sR_mP q.s]; exact c, by rw [sR_mR q.s]; exact d, k, by rw [q.D], rfl⟩), b.e.1, f, b.e.2⟩
def rfF (s0 : jM) (p r : Nat) (w : Int32) : Nat → Int32 := if (mD s0 p (13 + r) = 1 ↔ w = 1) then s0.1 323 else fWt (s0.1 323) p r 0 w
def rfX (s0 : jM) (p r : Nat) (w : Int32) : Int32 := if (mD s0 p (13 + r) = 1 ↔ w = 1) then -4 else mD s0 p (7 + r)
def qX11_setRefusal (s0 : jM) : jO := joRIII fun a x y w σ => (a = 0 ∧ xG s0 σ ∧ mP s0 x = true ∧ mR s0 y = true ∧ (w = 0 ∨ w = 1), fun v τ => v = some (.int (rfX s0 x.toNatClampNeg y.toNatClampNeg w)) ∧ xN s0 τ (rfF s0 x.toNatClampNeg y.toNatClampNeg w))
theorem QX11_setRefusal (g : jG) (n : Nat) (s0 : jM) : jOk g (n + 4) mX11_setRefusal (qX11_setRefusal s0) := by
  refine joRIII_ok ?_
  rintro _ x y w σ ⟨rfl, hG, c, d, k⟩
  refine xo_ok (CX11_setRefusal g n) (xs_setRefusal x y w k) (fun h => mq_setRefusal x y w h) hG _ _ (fun τ q o => ?_)
  have e := q.at 323 rfl rfl
  obtain ⟨b, f⟩ := mSv_e τ x.toNatClampNeg y.toNatClampNeg 0 w
  rw [e] at f
  have t := th_e τ
  have c' : mP τ x = true := by rw [sR_mP q.s]; exact c
  have d' : mR τ y = true := by rw [sR_mR q.s]; exact d
  unfold rfX rfF
  by_cases m : (mD s0 x.toNatClampNeg (13 + y.toNatClampNeg) = 1 ↔ w = 1)
  · rw [if_pos m, if_pos m, ← e]
    exact ⟨_, Or.inr (Or.inl ⟨c', d', by rw [q.D]; exact m, rfl, rfl⟩), t⟩
  · rw [if_neg m, if_neg m]
    exact ⟨_, Or.inr (Or.inr ⟨c', d', by rw [q.D]; exact m, by rw [q.D], rfl⟩), b.e.1, f, b.e.2⟩
def swC (s0 : jM) (x y : Int32) : Prop := x = y ∨ mD s0 x.toNatClampNeg (13 + (mD s0 y.toNatClampNeg 2).toNatClampNeg) = 1 ∨ mD s0 y.toNatClampNeg (13 + (mD s0 x.toNatClampNeg 2).toNatClampNeg) = 1
def qX11_swapRooms (s0 : jM) : jO := joRII fun a x y σ => (a = 0 ∧ xG s0 σ ∧ mP s0 x = true ∧ mP s0 y = true, fun v τ =>
  (¬ (0 ≤ mD s0 x.toNatClampNeg 2 ∧ 0 ≤ mD s0 y.toNatClampNeg 2) ∧ v = some (.int (-1)) ∧ xN s0 τ (s0.1 323)) ∨
  ((0 ≤ mD s0 x.toNatClampNeg 2 ∧ 0 ≤ mD s0 y.toNatClampNeg 2) ∧ swC s0 x y ∧ v = some (.int (-4)) ∧ xN s0 τ (s0.1 323)) ∨
  ((0 ≤ mD s0 x.toNatClampNeg 2 ∧ 0 ≤ mD s0 y.toNatClampNeg 2) ∧ ¬ swC s0 x y ∧ v = some (.int (mAE (rw3 s0 (fSw (s0.1 323) x.toNatClampNeg y.toNatClampNeg)) (mN s0) (mN s0))) ∧ xN s0 τ (fSw (s0.1 323) x.toNatClampNeg y.toNatClampNeg)))
theorem QX11_swapRooms (g : jG) (n : Nat) (s0 : jM) : jOk g (n + 5) mX11_swapRooms (qX11_swapRooms s0) := by
  refine joRII_ok ?_
  rintro _ x y σ ⟨rfl, hG, c, d⟩
  by_cases k : 0 ≤ mD s0 x.toNatClampNeg 2 ∧ 0 ≤ mD s0 y.toNatClampNeg 2
  · by_cases m : swC s0 x y
    · refine (xo_ok (CX11_swapRooms g n) (xs_swapRooms x y) (fun h => mq_swapRooms x y h) hG (-4) (s0.1 323) (fun τ q o => ?_)).imp (fun v τ hv => Or.inr (Or.inl ⟨k, m, hv⟩))
      have e := q.at 323 rfl rfl
      rw [← e]
      unfold swC at m
      rw [← q.D] at k m
      exact ⟨_, Or.inr (Or.inl ⟨⟨by rw [sR_mP q.s]; exact c, k.1⟩, ⟨by rw [sR_mP q.s]; exact d, k.2⟩, m, rfl, rfl⟩), th_e τ⟩
    · refine (xo_ok (CX11_swapRooms g n) (xs_swapRooms x y) (fun h => mq_swapRooms x y h) hG _ (fSw (s0.1 323) x.toNatClampNeg y.toNatClampNeg) (fun τ q o => ?_)).imp (fun v τ hv => Or.inr (Or.inr ⟨k, m, hv⟩))
      have e := q.at 323 rfl rfl
      have m' := m
      unfold swC at m
      rw [← q.D] at k m
      have b := ((((mBf_0 τ).up (8 + 20 * x.toNatClampNeg + 2) (mD τ y.toNatClampNeg 2)).up (8 + 20 * x.toNatClampNeg + 3) (mD τ y.toNatClampNeg 3)).up (8 + 20 * y.toNatClampNeg + 2) (mD τ x.toNatClampNeg 2)).up (8 + 20 * y.toNatClampNeg + 3) (mD τ x.toNatClampNeg 3)
      have ef : (mSw τ x.toNatClampNeg y.toNatClampNeg).1 323 = fSw (s0.1 323) x.toNatClampNeg y.toNatClampNeg := by
        rw [← e]
        exact fu_jup9 _ _ (fu_jup9 _ _ (fu_jup9 _ _ (fu_jup9 _ _ (mB_f τ))))
      refine ⟨_, Or.inr (Or.inr ⟨⟨by rw [sR_mP q.s]; exact c, k.1⟩, ⟨by rw [sR_mP q.s]; exact d, k.2⟩, m, ?_, rfl⟩), b.e.1, ef, b.e.2⟩
      have eD : mD (mSw τ x.toNatClampNeg y.toNatClampNeg) = mD (rw3 s0 (fSw (s0.1 323) x.toNatClampNeg y.toNatClampNeg)) := by
        funext p w
        unfold mD
        rw [ef, rw3_sf]
      have eE : mAE (mSw τ x.toNatClampNeg y.toNatClampNeg) = mAE (rw3 s0 (fSw (s0.1 323) x.toNatClampNeg y.toNatClampNeg)) := by
        unfold mAE mEnv mM
        rw [eD]
      rw [eE, sR_N q.s]
  · refine (xo_ok (CX11_swapRooms g n) (xs_swapRooms x y) (fun h => mq_swapRooms x y h) hG (-1) (s0.1 323) (fun τ q o => ?_)).imp (fun v τ hv => Or.inl ⟨k, hv⟩)
    have e := q.at 323 rfl rfl
    rw [← e]
    rw [← q.D] at k
    exact ⟨_, Or.inl ⟨fun z => k ⟨z.1.2, z.2.2⟩, rfl, rfl⟩, th_e τ⟩
def dvF (s0 : jM) : Nat → Int32 := if dC s0 = none then s0.1 323 else agR (mCh s0) (mPy s0) (s0.1 323) (mN s0)
def dvX (s0 : jM) : Int32 := if dC s0 = none then -1 else nI (agN (mCh s0) (s0.1 323) (mN s0))
def qX11_divide (s0 : jM) : jO := joR fun a σ => (a = 0 ∧ xG s0 σ, fun v τ => v = some (.int (dvX s0)) ∧ xN s0 τ (dvF s0))
theorem QX11_divide (g : jG) (n : Nat) (s0 : jM) : jOk g (n + 6) mX11_divide (qX11_divide s0) := by
  refine joR_ok ?_
  rintro _ σ ⟨rfl, hG⟩
  refine xo_ok (CX11_divide g n) xs_divide (fun h => mq_divide h) hG _ _ (fun τ q o => ?_)
  have e := q.at 323 rfl rfl
  have eC := sR_C q.s
  have t := th_e τ
  unfold dvX dvF
  by_cases c : dC s0 = none
  · rw [if_pos c, if_pos c, ← e]
    exact ⟨_, Or.inl ⟨by rw [eC, c]; rfl, rfl, sc_th τ 0, by rw [jup_1, if_pos ⟨rfl, rfl⟩]⟩, t⟩
  · rw [if_neg c, if_neg c]
    have b := (mBf_0 τ).rw (agR (mCh τ) (mPy τ) (τ.1 323) (mN τ))
    obtain ⟨e1, e2⟩ := sR_Ch q.s
    refine ⟨_, Or.inr ⟨?_, by rw [e1, e, sR_N q.s], jup τ 322 11 0, sc_th τ 0, by rw [jup_1, if_pos ⟨rfl, rfl⟩], rfl⟩, b.e.1, ?_, b.e.2⟩
    · rw [eC]
      rcases h : dC s0 with _ | a
      · exact absurd h c
      · rfl
    · funext j
      rw [rw3_sf, e1, e2, e, sR_N q.s]
def qX11_settle (s0 : jM) : jO := joR fun a σ => (a = 0 ∧ xG s0 σ, fun v τ => v = some (.int (nI (trS s0).length)) ∧ xN s0 τ (stR (tgS s0) (s0.1 323) (mN s0)))
theorem QX11_settle (g : jG) (n : Nat) (s0 : jM) : jOk g (n + 4) mX11_settle (qX11_settle s0) := by
  refine joR_ok ?_
  rintro _ σ ⟨rfl, hG⟩
  refine xo_ok (CX11_settle g n) xs_settle (fun h => mq_settle h) hG _ _ (fun τ q o => ?_)
  have e := q.at 323 rfl rfl
  have b := (mBf_0 τ).rw (stR (tgS τ) (τ.1 323) (mN τ))
  refine ⟨_, ⟨by rw [sR_trS q.s], mB τ, jfr.rfl, ?_, rfl⟩, b.e.1, ?_, b.e.2⟩
  · unfold mB
    rw [mRem_o _ _ _ (by omega) (by omega), jup_1, if_pos ⟨rfl, rfl⟩]
  · funext j
    rw [rw3_sf, sR_tg q.s, e, sR_N q.s]
