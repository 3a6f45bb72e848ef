/-! the law's own walk: what it stands on, the script, a call of a wrapper -/
abbrev mLw : jMt := (x, code, 9, ret)
abbrev lwT : Type := List Frame → Array Value → State → State → Prop
def zL (T : lwT) (c s : Nat) : jZ := (room_1, c, s, T, fun _ => True)
theorem zL_ok {T : lwT} {c s n : Nat} (h : n ≤ 1300) (hc : c ≤ 601024) (hs : s ≤ 7293034) : jZok (zL T c s) n := by
  have h1 : room_1.frames = 2048 := rfl
  have h2 : room_1.locals = 84000 := rfl
  have h3 : room_1.cells = 601024 := rfl
  have h4 : room_1.slots = 7293034 := rfl
  refine ⟨?_, ?_, ?_, ?_⟩
  · show n ≤ room_1.frames
    omega
  · show 64 * n ≤ room_1.locals
    omega
  · show c ≤ room_1.cells
    omega
  · show s ≤ room_1.slots
    omega
/-- the script -/
def jScr (g : jG) (N : Nat) (xs : Nat → Int32) : Prop := N ≤ 3072 ∧ (∀ (U : State) (H : Heap), jE g U H → va_X (jad g 380) N xs U H) ∧ ¬ jA g (jad g 380)
section LW
variable {g : jG} {mt : jMt} {n : Nat} {pc : Nat} {L : List (Nat × Value)} {st r : List Value} {σ : jM} {T : lwT} {c0 s0 : Nat} {zZ : jZ} {N : Nat} {xs : Nat → Int32}
theorem jY.widen {c1 s1 : Nat} (h1 : c0 ≤ c1) (h2 : s0 ≤ s1) (k : jY g (zL T c1 s1) mt n pc L st σ) : jY g (zL T c0 s0) mt n pc L st σ := by
  intro p e s m as below meth c H locs ls XK hP hS hl
  exact W.widen (k := c1) (n := s1) h1 h2 (k p e s m as below meth c H locs ls XK hP hS hl)
theorem jY.mono {L' : List (Nat × Value)} (k : jY g zZ mt n pc L' st σ) (h : ∀ q ∈ L', q ∈ L) : jY g zZ mt n pc L st σ := by
  intro p e s m as below meth c H locs ls X hP hS hl
  refine k p e s m as below meth c H locs ls X hP hS (lv_mono hl (fun q hq => ?_))
  obtain ⟨z, hz, rfl⟩ := List.mem_map.mp hq
  exact List.mem_map.mpr ⟨z, h z hz, rfl⟩
theorem jy_slen (hX : jScr g N xs) (d : decode mt.2.1 pc = .ok (.arraylength, 1)) (k : jY g zZ mt n (pc + 1) L (.int (nI N) :: r) σ) : jY g zZ mt n pc L (.ref 380 :: r) σ := by
  intro p e s m as below meth c H locs ls XK hP hS hl
  have X := XK.1
  have hx := hX.2.1 s s.heap X.2.2.2.2.2.2.2.2.2.2.2
  have hb : jad g 380 < s.heap.size := by
    obtain ⟨scr, h1, -⟩ := hx
    exact (Array.getElem?_eq_some_iff.mp h1).1
  exact va_slen X.1 X.2.1 hx hb hX.2.2 hS d (k p e s m as below meth c H locs ls XK hP hS hl)
theorem jy_sld {j : Int32} (hX : jScr g N xs) (hj : jin j N) (d : decode mt.2.1 pc = .ok (.iaload, 1)) (k : jY g zZ mt n (pc + 1) L (.int (xs j.toNatClampNeg) :: r) σ) : jY g zZ mt n pc L (.int j :: .ref 380 :: r) σ := by
  intro p e s m as below meth c H locs ls XK hP hS hl
  have X := XK.1
  have hx := hX.2.1 s s.heap X.2.2.2.2.2.2.2.2.2.2.2
  have hb : jad g 380 < s.heap.size := by
    obtain ⟨scr, h1, -⟩ := hx
    exact (Array.getElem?_eq_some_iff.mp h1).1
  exact va_sld X.1 X.2.1 hx hb hX.2.2 hS (jin_vp hj) d (k p e s m as below meth c H locs ls XK hP hS hl)
/-- one argument: script[i + j] -/
theorem jy_S {i : Nat} (hX : jScr g N xs) (j : Nat) (hL0 : jlk L 0 = some (.ref 380)) (hL5 : jlk L 5 = some (.int (nI i))) (hi : i + 6 ≤ N) (hj : j < 6)
    (d0 : decode mt.2.1 pc = .ok (.aload_n 0, 1)) (d1 : decode mt.2.1 (pc + 1) = .ok (.iload 5, 2)) (d3 : decode mt.2.1 (pc + 3) = .ok (.iconst (j : Int), 1)) (d4 : decode mt.2.1 (pc + 4) = .ok (.iadd, 1)) (d5 : decode mt.2.1 (pc + 5) = .ok (.iaload, 1))
    (k : jY g zZ mt n (pc + 6) L (.int (xs (i + j)) :: r) σ) : jY g zZ mt n pc L r σ := by
  have h0 := hX.1
  refine jy_aloadn (j := 0) hL0 d0 ?_
  refine jy_iload hL5 d1 ?_
  refine jy_iconst (v := nI j) rfl d3 ?_
  refine jy_iadd d4 ?_
  have e : nI i + nI j = nI (i + j) := nI_add i j
  rw [e]
  have e2 : (nI (i + j)).toNatClampNeg = i + j := nI_clamp (by omega)
  refine jy_sld hX (jin_nI (by omega) (by omega)) d5 ?_
  rw [e2]
  exact k
theorem jy_tIn {dflt lo hi : Int} {offs : Array Int} {len : Nat} {x : Int32} {off : Int} {tgt : Nat} (hd : decode mt.2.1 pc = .ok (.tableswitch dflt lo hi offs, len)) (h1 : ¬ x.toInt < lo) (h2 : ¬ hi < x.toInt) (ho : offs[(x.toInt - lo).toNat]? = some off) (ht : (pc : Int) + off = (tgt : Int)) (k : jY g zZ mt n tgt L r σ) : jY g zZ mt n pc L (.int x :: r) σ := by
  intro p e s mm as below meth c H locs ls XK hP hS hl
  have X := XK.1
  exact lv_tableIn X.1 X.2.1 hd h1 h2 ho ht (k p e s mm as below meth c H locs ls XK hP hS hl)
theorem jy_dald {a : Nat} {j : Int32} (ha : jarr a 3 5 = true) (hj : jin j (jlen a)) (d : decode mt.2.1 pc = .ok (.daload, 1)) (k : jY g zZ mt n (pc + 1) L (.double (σ.2.2 a j.toNatClampNeg) :: r) σ) : jY g zZ mt n pc L (.int j :: .ref a :: r) σ := by
  intro p e s m as below meth c H locs ls XK hP hS hl
  have X := XK.1
  obtain ⟨h1, h2, h3⟩ := jarr_spec ha
  have hg := jws_get g σ h1
  rw [jcell_3 h2, h3] at hg
  exact va_dald X.1 X.2.1 X.2.2.2.2.2.2.2.2.1 hP a 5 hg (jtys_get g (by decide)) (jin_vp hj) d (k p e s m as below meth c H locs ls XK hP hS hl)
theorem jy_dload {j : Nat} {x : UInt64} (h : jlk L j = some (.double x)) (d : decode mt.2.1 pc = .ok (.dload j, 2)) (k : jY g zZ mt n (pc + 2) L (.double x :: r) σ) : jY g zZ mt n pc L r σ := by
  intro p e s m as below meth c H locs ls XK hP hS hl
  have X := XK.1
  exact lv_dload X.1 X.2.1 d (jL_lk hl h) (k p e s m as below meth c H locs ls XK hP hS hl)
theorem jy_dstore {j : Nat} {x : UInt64} (h : j + 1 < mt.2.2.1) (d : decode mt.2.1 pc = .ok (.dstore j, 2)) (k : jY g zZ mt n (pc + 2) (jins2 j (.double x) L) r σ) : jY g zZ mt n pc L (.double x :: r) σ := by
  intro p e s m as below meth c H locs ls XK hP hS hl
  have X := XK.1
  exact lv_dstore X.1 X.2.1 d hl h rfl (fun ls' hl' => k p e s m as below meth c H locs ls' XK hP hS (jL_ins2 hl'))
theorem jy_dcmp {x y : UInt64} {op : CmpOp} (d : decode mt.2.1 pc = .ok (.dcmp op, 1)) (k : jY g zZ mt n (pc + 1) L (.int (Op.cmpValue (FP.dcmp x y) op) :: r) σ) : jY g zZ mt n pc L (.double y :: .double x :: r) σ := by
  intro p e s m as below meth c H locs ls XK hP hS hl
  have X := XK.1
  exact lv_dcmp X.1 X.2.1 d (k p e s m as below meth c H locs ls XK hP hS hl)
/-- a wrapper is called: it may make a cell -/
theorem jy_callSW {mt' : jMt} {hh : List (Nat × Nat × Nat × Nat)} {n' na idx nx tg : Nat} {kk : Int32} {F : List (Nat × Nat × Nat × Nat)} {C2 : List (Nat × Int64)} {tb : jTb} {as : List Value} {post' : Option Value → jM → Prop} (hn1 : n ≤ 1300) (hc0 : c0 + 1 ≤ 601024) (hs0 : s0 + 6 ≤ 7293034) (hT : jT mt F C2 tb) (e : jtb tb pc = some (.invokestatic idx, nx, tg, kk)) (hlk : Cond.methodLink mt.1.cls idx mt'.1 ∈ jGw) (hm : jMsW mt' hh na) (hs : st = as.reverse ++ r) (hn : n' < n) (hna : as.length = na) (hst : (r.map fun v => v.category).sum ≤ 8)
    (hc : jCoW g n' mt' hh as σ post') (k : ∀ v τ, post' v τ → jY g (zL T (c0 + 1) (s0 + 6)) mt n nx L (v.toList ++ r) τ) : jY g (zL T c0 s0) mt n pc L st σ := by
  obtain ⟨hd, rfl⟩ := hT.row e
  obtain ⟨⟨hi, hco, hmh, hml⟩, hstat⟩ := hm
  intro p e s m as0 below meth c H locs ls XK hP hS hl
  have X := XK.1
  have hM := hc X.2.2.2.2.2.2.2.1
  have hts := X.2.2.2.2.2.2.1
  have hr : va_Run p g.1 e room_1 s m as0 below meth c H locs c0 s0 1 6 (F0 m pc ls (st.map (jrl g))) (r.map (jrl g)) (jQ g post' (as.map (jrl g)).toArray) (jA g) := by
    refine vx_runSW (As := as.map (jrl g)) (rest := r.map (jrl g)) (n := na) (maxL := mt'.2.2.1) (ret := mt'.2.2.2) (bytes := mt'.2.1) ⟨X.1, X.2.1, X.2.2.1, X.2.2.2.2.2.1, hts⟩ hM
      (vx_cwSW (ws' := jGw) na hts (jGI (fun w hw => ?_)) rfl rfl rfl hmh ⟨?_, ?_⟩) ⟨jblind g _ σ, fun U hU hW => ⟨by simp, by rw [hU]; exact hP, X.2.2.2.2.2.2.2.2.moved hW (fun a h1 h2 => by rw [hU]; exact hS.2.1 a h1 h2)⟩⟩ rfl (by simp [hna]) hl.1 (by rw [hs]; simp) (lv_room (by simpa [jrl_cat, Function.comp_def] using hst)) hd ⟨hc0, hs0⟩
    · unfold va_wsS at hw
      rcases List.mem_append.mp hw with hw | hw
      · simp only [List.mem_cons, List.not_mem_nil, or_false] at hw
        rcases hw with rfl | rfl | rfl
        all_goals first | exact hlk | exact hstat | exact hi
      · rcases List.mem_cons.mp hw with rfl | hw
        · exact hco
        · exact hw
    · show n' + 1 ≤ 2048
      omega
    · show 8 + (mt'.2.2.1 + 11) + 64 * n' ≤ 84000
      omega
  intro T0 hT0 X'
  obtain ⟨v, st₀, t, T', L', h0, X'', hL, e1, e2, ⟨⟨v0, τ, hv, hp, hP1, hC1⟩, hz, hk⟩, stp⟩ := hr T0 hT0 X'
  have hv0 : v = v0.map (jrl g) := by injection hv
  subst hv0
  rw [h0] at hz hk
  have hS' : va_S (jA g) s.heap T'.heap (locs ++ L') := by
    refine ⟨Nat.le_trans hS.1 (by rw [e1]; exact hz), fun q h1 h2 => ?_, fun q hq => ?_⟩
    · rw [e1, hk q (Nat.lt_of_lt_of_le h1 hS.1) h2]
      exact hS.2.1 q h1 h2
    · rcases List.mem_append.mp hq with h | h
      · exact hS.2.2 q h
      · exact hL q h
  have hst : ((v0.map (jrl g)).toList ++ r.map (jrl g)) = (v0.toList ++ r).map (jrl g) := by cases v0 <;> simp
  obtain ⟨t2, a1, b1⟩ := k v0 τ hp p e s m as0 below meth c T'.heap (locs ++ L') ls ⟨X, trivial⟩ (by rw [e1]; exact hP1) hS' hl T' rfl X''
  refine ⟨t2, stp t2 ?_, b1⟩
  have hg : ({ F0 m pc ls (st.map (jrl g)) with pc := (F0 m pc ls (st.map (jrl g))).pc + 3, stack := (v0.map (jrl g)).toList ++ r.map (jrl g) } : JFrame) = F0 m (pc + 3) ls ((v0.toList ++ r).map (jrl g)) := by rw [hst]
  rw [hg]
  exact a1
end LW
/-! a call that may throw, as the law makes it: through a wrapper, the class's answer kept in a cell -/
def xTl (cd : jM → Prop) (th : jM → jM → Prop) (oc om : jO) (xs : List Value) : Prop := ∀ σ, xR σ →
  (cd σ → (oc (.ref 0 :: xs) σ).1 ∧ ∀ v τ, (oc (.ref 0 :: xs) σ).2 v τ → ∀ y : Int64, (om (.ref 322 :: xs) (jupL τ 352 0 y)).1 ∧ ∀ w υ, (om (.ref 322 :: xs) (jupL τ 352 0 y)).2 w υ → w = v ∧ υ.1 322 11 = 0 ∧ υ.2.1 352 0 = y ∧ xR υ) ∧
  (¬ cd σ → ∀ τ, th σ τ → (om (.ref 322 :: xs) τ).1 ∧ ∀ w υ, (om (.ref 322 :: xs) τ).2 w υ → (∃ x, w = some (.int x)) ∧ υ.1 322 11 = 1 ∧ xR υ)
theorem xR_L {σ : jM} (h : xR σ) (y : Int64) : xR (jupL σ 352 0 y) := by
  obtain ⟨R, N, K, k⟩ := h
  exact ⟨R, N, K, (show xQ σ (jupL σ 352 0 y) from ⟨fun _ _ _ => rfl, prIv_fr k (fun _ _ _ => rfl)⟩).R k⟩
theorem xTl.of {cd : jM → Prop} {th : jM → jM → Prop} {oc om : jO} {xs : List Value} (h : xTw cd th oc om xs) (hcom : ∀ σ τ v y, (oc (.ref 0 :: xs) σ).2 v τ → (oc (.ref 0 :: xs) (jupL σ 352 0 y)).2 v (jupL τ 352 0 y)) (hcd : ∀ σ y, cd σ → cd (jupL σ 352 0 y))
    (hkeep : ∀ σ w υ, (om (.ref 322 :: xs) σ).2 w υ → υ.2.1 352 0 = σ.2.1 352 0) : xTl cd th oc om xs := by
  intro σ hR
  refine ⟨fun c => ⟨((h σ hR).1 c).1, fun v τ hv y => ?_⟩, (h σ hR).2⟩
  obtain ⟨p1, p2⟩ := ((h _ (xR_L hR y)).1 (hcd σ y c)).2 v _ (hcom σ τ v y hv)
  refine ⟨p1, fun w υ hw => ?_⟩
  obtain ⟨-, q2, q3, q4⟩ := p2 w υ hw
  refine ⟨q2, q3, ?_, q4⟩
  rw [hkeep _ w υ hw]
  simp [jupL]
