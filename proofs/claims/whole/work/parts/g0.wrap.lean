/-! the law's wrappers: static methods of the law's class; each calls one method of the class and returns 0 with its answer in a cell, or catches what was thrown and returns 1 -/
def jwW (mt : jMt) (hh : List (Nat × Nat × Nat × Nat)) : List Cond := .codeWith mt.1 mt.2.1 mt.2.2.1 mt.2.2.2 hh :: jGw
def jCoW (g : jG) (n : Nat) (mt : jMt) (hh : List (Nat × Nat × Nat × Nat)) (args : List Value) (σ : jM) (post : Option Value → jM → Prop) : Prop :=
  jInj g → Met g.1 mt.1 (jwW mt hh) (jrx n) (jPc g args σ) (jQ g post) 1 6 (jA g)
def jzV (g : jG) (n : Nat) (hh : List (Nat × Nat × Nat × Nat)) (post : Option Value → jM → Prop) (k j : Nat) : jZ := (jrx n, k, j, fun below a s => MQ below (jQ g post) a s 1 6 (jA g), fun c => c.exceptionTable.toList = tableOf hh)
theorem jzV_ok {g : jG} {n : Nat} {hh : List (Nat × Nat × Nat × Nat)} {post : Option Value → jM → Prop} : jZok (jzV g n hh post 0 0) n := ⟨Nat.le_refl _, Nat.le_refl _, Nat.zero_le _, Nat.zero_le _⟩
/-- a static callee with an exception table: its own words -/
def jMsW (mt' : jMt) (hh : List (Nat × Nat × Nat × Nat)) (na : Nat) : Prop := (Cond.initialized mt'.1.cls ∈ jGw ∧ Cond.codeWith mt'.1 mt'.2.1 mt'.2.2.1 mt'.2.2.2 hh ∈ jGw ∧ (mt'.1.cls ≠ "java/lang/invoke/MethodHandle" ∧ mt'.1.cls ≠ "java/lang/invoke/VarHandle" ∧ (parseMethodDescriptor mt'.1.desc).map (fun d => d.parameters.length) = some na) ∧ mt'.2.2.1 ≤ 40) ∧ Cond.static mt'.1 ∈ jGw
theorem jCoW.of {g : jG} {n : Nat} {mt : jMt} {hh : List (Nat × Nat × Nat × Nat)} {args : List Value} {σ : jM} {post : Option Value → jM → Prop} (hy : plainName mt.1.cls = true) (hlen : (lg_sl args).length ≤ mt.2.2.1)
    (k : jY g (jzV g n hh post 0 0) mt n 0 (lv_args 0 args) [] σ) : jCoW g n mt hh args σ post := by
  intro hI
  refine va_MetW (cc := mt.2.1) (maxL := mt.2.2.1) (ret := mt.2.2.2) (hh := hh) hy rfl ?_
  intro p e s m as below meth c s₁ B hml hv
  obtain ⟨rfl, hP, hC⟩ := hv
  have hl := lv_entry (args.map (jrl g)) (n := mt.2.2.1) (by rw [jsl_len]; exact hlen)
  rw [lg_entry_eq]
  rw [jL_args] at hl
  have ht := atoms_spec (ws := jwW mt hh) B.pre
  exact k p e s m _ below meth c s.heap [] _ ⟨⟨B.exec, B.bytes, hml, B.returns, B.notSynchronized, findClass_of_methodNamed B.named, jwX_ok (fun w hw => ht w (List.mem_cons_of_mem _ hw)), hI, hC⟩, vx_table (x := mt.1) B (ht _ List.mem_cons_self)⟩ hP va_S.rf hl
theorem xLL : Cond.classLink RL 13 xIx ∈ jGw := jGw_of 1211 (by decide +kernel) (by decide +kernel)
section WR
variable {g : jG} {mt : jMt} {n : Nat} {pc : Nat} {L : List (Nat × Value)} {st : List Value} {σ : jM} {P : jM → Prop} {hh : List (Nat × Nat × Nat × Nat)} {post : Option Value → jM → Prop} {zZ : jZ} {r : List Value}
theorem jy_wret {x : Int32} {k j : Nat} (hk : k ≤ 1) (hj : j ≤ 6) (hr : mt.2.2.2 = some .int) (h : post (some (.int x)) σ) (d : decode mt.2.1 pc = .ok (.ireturn, 1)) : jY g (jzV g n hh post k j) mt n pc L [.int x] σ := by
  intro p e s m as below meth c H locs ls XK hP hS hl
  have X := XK.1
  have hlocks := X.2.2.2.2.1
  exact W.widen (k := 1) (n := 6) hk hj (W.iret X.1 X.2.1 (X.2.2.2.1.trans hr) (jr_end (v := some (.int x)) X.2.2.2.2.2.2.2.2 hP hS h) hS.2.2 d hlocks)
theorem jy_dast {a : Nat} {j : Int32} {x : UInt64} (ha : jarr a 3 5 = true) (hj : jin j (jlen a)) (d : decode mt.2.1 pc = .ok (.dastore, 1)) (k : jY g zZ mt n (pc + 1) L r (jupD σ a j.toNatClampNeg x)) : jY g zZ mt n pc L (.double x :: .int j :: .ref a :: r) σ := by
  intro p e s m as below meth c H locs ls XK hP hS hl
  have X := XK.1
  obtain ⟨h1, h2, h3⟩ := jarr_spec ha
  have hg := jws_get g σ h1
  rw [jcell_3 h2, h3] at hg
  refine va_dast X.1 X.2.1 X.2.2.2.2.2.2.2.2.1 hP (jD g X.2.2.2.2.2.2.2.1 σ) hS a 5 hg (jtys_get g (by decide)) (jin_vp hj) d (fun H1 locs1 hP1 hD1 hS1 => ?_)
  have e1 : (jws g σ).set a (jad g a, .inl (jta g 5, (jshp a).2.2.1, .inr (.inr (.inr (.inl (vf_upd (σ.2.2 a) j.toNatClampNeg x)))))) = jws g (jupD σ a j.toNatClampNeg x) := by
    refine jws_set g h1 ?_ (fun q hq => jupD_other q hq)
    rw [jcell_3 h2, h3]
    congr 7
    funext z
    simp [jupD, vf_upd]
  rw [e1] at hP1
  exact k p e s m as below meth c H1 locs1 ls XK hP1 hS1 hl
/-- the callee throws, the handler catches, the thrown one is put away -/
theorem jy_catch (hX : jEx g) (hmt : mt.1.cls = RL) {b0 e0 h0 : Nat} (hhh : hh = [(b0, e0, h0, 13)]) {mt' : jMt} {n' na idx nx tg ci a N : Nat} {kk : Int32} {F : List (Nat × Nat × Nat × Nat)} {C2 : List (Nat × Int64)} {tb : jTb} {as r : List Value} {T : u_T} (hT : jT mt F C2 tb) (e : jtb tb pc = some (.invokevirtual idx, nx, tg, kk)) (hlk : Cond.methodLink mt.1.cls idx mt'.1 ∈ jGw) (hm : jMv mt' na) (hcl : vwCl[ci]? = some (mt'.1.cls, T, N)) (ha : jisO a ci = true) (hs : st = as.reverse ++ .ref a :: r) (hn : n' < n) (hna : as.length = na) (hst : (r.map fun v => v.category).sum ≤ 8)
    (hcov : covers (⟨b0, e0, h0, 13⟩ : ExceptionTableEntry) pc = true) (hc : jTh g n' mt' (.ref a :: as) σ P) {ln : Nat}
    (hd : (decode mt.2.1 h0 = .ok (.astore_n 3, 1) ∧ ln = 1 ∧ 3 < mt.2.2.1) ∨ (decode mt.2.1 h0 = .ok (.astore 4, 2) ∧ ln = 2 ∧ 4 < mt.2.2.1)) (k : ∀ τ, P τ → jY g (jzV g n hh post 1 6) mt n (h0 + ln) [] [] τ) : jY g (jzV g n hh post 0 0) mt n pc L st σ := by
  obtain ⟨hdc, rfl⟩ := hT.row e
  obtain ⟨⟨hi, hco, hmh, hml'⟩, him, hse⟩ := hm
  obtain ⟨h1, h2, h3⟩ := jisO_spec ha
  intro p e s m as0 below meth c H locs ls XK hP hS hl
  obtain ⟨X, hex⟩ := XK
  have hM := hc X.2.2.2.2.2.2.2.1
  have hg := jws_get g σ h1
  rw [jcell_o h2, h3] at hg
  have hts : ∀ w ∈ jGw, w.before as0 s = true := fun w hw => X.2.2.2.2.2.2.1 _ (List.mem_cons_of_mem _ hw)
  have hca := hX.2 s s.heap X.2.2.2.2.2.2.2.2.2.2.2 (.castable xIx xIx) (by decide +kernel)
  have hr : vx_Run p g.1 e (jrx n) s m as0 below meth c H locs 0 0 1 6 (F0 m pc ls (st.map (jrl g))) (r.map (jrl g)) (jQn (Value.ref (jad g a) :: as.map (jrl g)).toArray) (jXC g P) (jA g) := by
    refine vx_runV (As := as.map (jrl g)) (rest := r.map (jrl g)) (b := jad g a) (C := mt'.1.cls) (n := na) (maxL := mt'.2.2.1) (ret := mt'.2.2.2) (bytes := mt'.2.1) ⟨X.1, X.2.1, X.2.2.1, X.2.2.2.2.2.1, X.2.2.2.2.2.2.1⟩ hM
      (cwV na X.2.2.2.2.2.2.1 (jGI (fun w hw => ?_)) rfl rfl rfl ⟨rfl, hmh⟩ ⟨?_, ?_⟩) ⟨jblind g _ σ, va_recv (q := (mt'.1.cls, T, N)) X.2.2.2.2.2.2.2.2.1 hP hcl hg, fun U hU hW => ⟨by simp [jrl], by rw [hU]; exact hP, X.2.2.2.2.2.2.2.2.moved hW (fun a h1 h2 => by rw [hU]; exact hS.2.1 a h1 h2)⟩⟩ rfl (by simp [hna]) hl.1 (by rw [hs]; simp [jrl]) (lv_room (by simpa [jrl_cat, Function.comp_def] using hst)) hdc ⟨Nat.le_refl _, Nat.le_refl _⟩
    · unfold wsV at hw
      rcases List.mem_append.mp hw with hw | hw
      · simp only [List.mem_cons, List.not_mem_nil, or_false] at hw
        rcases hw with rfl | rfl | rfl | rfl
        · exact hlk
        · exact him
        · exact hse
        · exact hi
      · exact jwd_in hco w hw
    · show n' + 1 ≤ n
      omega
    · show 8 + (mt'.2.2.1 + 11) + 64 * n' ≤ 64 * n
      omega
  intro T0 hT0 X'
  rcases hr T0 hT0 X' with ⟨v, st₀, t, T', L', h00, X'', hL, e1, e2, hq, stp⟩ | ⟨q, st₀, t, T', L', E, ce, h00, X'', hL, e1, e2, ⟨hEe, ⟨τ, hPt, hH⟩, hz, hk⟩, hce, hcv, hclE, stp⟩
  · exact absurd hq (fun z => z)
  · rw [h00] at hz hk
    subst hEe
    have hall : ∀ z ∈ locs ++ L', jA g z.base := fun z hz' => by
      rcases List.mem_append.mp hz' with h | h
      · exact hS.2.2 z h
      · exact hL z h
    have hS' : va_S (jA g) s.heap T'.heap (locs ++ L') := ⟨Nat.le_trans hS.1 (by rw [e1]; exact hz), fun q h1 h2 => by
      rw [e1, hk q (Nat.lt_of_lt_of_le h1 hS.1) h2]
      exact hS.2.1 q h1 h2, hall⟩
    have hk9 := k τ hPt p e s m as0 below meth c T'.heap (locs ++ L')
    have hkk : W p g.1 e (jrx n) s m as0 below meth c T'.heap (locs ++ L') 1 6 (MQ below (jQ g post) as0 s 1 6 (jA g)) (F0 m h0 ls [.ref q]) := by
      rcases hd with ⟨hd, rfl, h9⟩ | ⟨hd, rfl, h9⟩
      · exact lv_astore_n X.1 X.2.1 hd rfl hl h9 rfl (fun ls' hl' => hk9 ls' ⟨X, hex⟩ (by rw [e1]; exact hH) hS' (lv_mono hl' (fun q hq => absurd hq List.not_mem_nil)))
      · exact lv_astore X.1 X.2.1 hd hl h9 rfl (fun ls' hl' => hk9 ls' ⟨X, hex⟩ (by rw [e1]; exact hH) hS' (lv_mono hl' (fun q hq => absurd hq List.not_mem_nil)))
    have ho : vx_W p g.1 e (jrx n) s m as0 below meth c T'.heap (locs ++ L') 1 6 (MQ below (jQ g post) as0 s 1 6 (jA g)) (F0 m pc ls (r.map (jrl g))) q :=
      vx_catch (own := RL) (name := xIx) (E := xIx) (ce := ce) (by rw [← hmt]; exact X.2.2.2.2.2.1) [] ⟨b0, e0, h0, 13⟩ [] (by rw [hex, hhh]; rfl) (fun z hz => absurd hz List.not_mem_nil) hcov (show (13 : Nat) ≠ 0 by decide) (hts _ xLL) hca (by rw [e1]; exact hce) hcv hclE hkk
    obtain ⟨t9, s9, q9⟩ := ho T' rfl X''
    exact ⟨t9, stp.trans s9, q9⟩
end WR
/-! stateOf -/
abbrev mL_stateOf : jMt := (yL_stateOf, cL_stateOf, 4, some .int)
def tL_stateOf : jTb := [(0, .aload_n 2, 1, 0, 0), (1, .iconst 0, 2, 0, 0), (2, .aload_n 0, 3, 0, 0), (3, .iload_n 1, 4, 0, 0), (4, .invokevirtual 7, 7, 0, 0), (7, .i2l, 8, 0, 0), (8, .lastore, 9, 0, 0), (9, .goto 6, 12, 15, 0), (12, .astore_n 3, 13, 0, 0), (13, .iconst 1, 14, 0, 1), (14, .ireturn, 15, 0, 0), (15, .iconst 0, 16, 0, 0), (16, .ireturn, 17, 0, 0)]
def hL_stateOf : List (Nat × Nat × Nat × Nat) := [(0, 9, 12, 13)]
theorem TL_stateOf : jT mL_stateOf [] [] tL_stateOf := jT.of (cs := []) (fun _ h => absurd h List.not_mem_nil) (fun _ h => absurd h List.not_mem_nil) (fun _ h => absurd h List.not_mem_nil) (by decide +kernel) (by decide +kernel)
theorem WL_stateOf : jMsW mL_stateOf hL_stateOf 3 := ⟨⟨jGw_of 93 (by decide +kernel) (by decide +kernel), jGw_of 1210 (by decide +kernel) (by decide +kernel), ⟨by decide +kernel, by decide +kernel, by decide +kernel⟩, by decide⟩, jGw_of 1209 (by decide +kernel) (by decide +kernel)⟩
set_option maxRecDepth 100000 in
theorem NL_stateOf {g : jG} (n d : Nat) {x : Int32} {σ : jM} {Q : Option Value → jM → Prop} (hv : ∀ v τ, Q v τ → ∃ a : Int32, v = some (.int a)) (hc : jCon g (n + d) mX11_stateOf [.ref 0, .int x] σ Q) : jCoW g (n + d + 1) mL_stateOf hL_stateOf [.ref 0, .int x, .ref 352] σ (fun v τ => v = some (.int 0) ∧ ∃ (a : Int32) (τ' : jM), Q (some (.int a)) τ' ∧ τ = jupL τ' 352 0 a.toInt64) := by
  refine jCoW.of (by decide +kernel) (by simp [lg_sl, Value.category]) ?_
  refine jy_aloadn (j := 2) rfl (TL_stateOf.row (show jtb tL_stateOf 0 = _ from rfl)).1 ?_
  refine jy_iconst (v := 0) rfl (TL_stateOf.row (show jtb tL_stateOf 1 = _ from rfl)).1 ?_
  refine jy_aloadn (j := 0) rfl (TL_stateOf.row (show jtb tL_stateOf 2 = _ from rfl)).1 ?_
  refine jy_iloadn (j := 1) rfl (TL_stateOf.row (show jtb tL_stateOf 3 = _ from rfl)).1 ?_
  refine jy_callV (n' := n + d) (mt' := mX11_stateOf) (as := [.int x]) (r := [.int 0, .ref 352]) (ci := 11) (a := 0) jzV_ok TL_stateOf (show jtb tL_stateOf 4 = _ from rfl) kL_7 WX11_stateOf rfl (by decide +kernel) rfl (by omega) rfl (by simp [Value.category]) hc (fun v τ hq => ?_)
  obtain ⟨a, rfl⟩ := hv v τ hq
  refine jy_i2l (TL_stateOf.row (show jtb tL_stateOf 7 = _ from rfl)).1 ?_
  refine jy_last (a := 352) (by decide +kernel) (show jin 0 1 from ⟨by decide, by decide⟩) (TL_stateOf.row (show jtb tL_stateOf 8 = _ from rfl)).1 ?_
  refine jy_goto (tg := 15) (TL_stateOf.row (show jtb tL_stateOf 9 = _ from rfl)).1 rfl ?_
  refine jy_iconst (v := 0) rfl (TL_stateOf.row (show jtb tL_stateOf 15 = _ from rfl)).1 ?_
  exact jy_wret (Nat.zero_le _) (Nat.zero_le _) rfl ⟨rfl, a, τ, hq, rfl⟩ (TL_stateOf.row (show jtb tL_stateOf 16 = _ from rfl)).1
set_option maxRecDepth 100000 in
theorem PL_stateOf {g : jG} (hX : jEx g) (n : Nat) {x : Int32} {σ : jM} {P : jM → Prop} (hc : jTh g n mX11_stateOf [.ref 0, .int x] σ P) : jCoW g (n + 1) mL_stateOf hL_stateOf [.ref 0, .int x, .ref 352] σ (fun v τ => v = some (.int 1) ∧ P τ) := by
  refine jCoW.of (by decide +kernel) (by simp [lg_sl, Value.category]) ?_
  refine jy_aloadn (j := 2) rfl (TL_stateOf.row (show jtb tL_stateOf 0 = _ from rfl)).1 ?_
  refine jy_iconst (v := 0) rfl (TL_stateOf.row (show jtb tL_stateOf 1 = _ from rfl)).1 ?_
  refine jy_aloadn (j := 0) rfl (TL_stateOf.row (show jtb tL_stateOf 2 = _ from rfl)).1 ?_
  refine jy_iloadn (j := 1) rfl (TL_stateOf.row (show jtb tL_stateOf 3 = _ from rfl)).1 ?_
  refine jy_catch hX rfl rfl (n' := n) (mt' := mX11_stateOf) (as := [.int x]) (r := [.int 0, .ref 352]) (ci := 11) (a := 0) TL_stateOf (show jtb tL_stateOf 4 = _ from rfl) kL_7 WX11_stateOf rfl (by decide +kernel) rfl (by omega) rfl (by simp [Value.category]) (by decide +kernel) hc (ln := 1) (Or.inl ⟨(TL_stateOf.row (show jtb tL_stateOf 12 = _ from rfl)).1, rfl, by decide⟩) (fun τ hτ => ?_)
  refine jy_iconst (v := 1) rfl (TL_stateOf.row (show jtb tL_stateOf 13 = _ from rfl)).1 ?_
  exact jy_wret (Nat.le_refl _) (Nat.le_refl _) rfl ⟨rfl, hτ⟩ (TL_stateOf.row (show jtb tL_stateOf 14 = _ from rfl)).1
/-! incomeOf -/
abbrev mL_incomeOf : jMt := (yL_incomeOf, cL_incomeOf, 4, some .int)
def tL_incomeOf : jTb := [(0, .aload_n 2, 1, 0, 0), (1, .iconst 0, 2, 0, 0), (2, .aload_n 0, 3, 0, 0), (3, .iload_n 1, 4, 0, 0), (4, .invokevirtual 15, 7, 0, 0), (7, .i2l, 8, 0, 0), (8, .lastore, 9, 0, 0), (9, .goto 6, 12, 15, 0), (12, .astore_n 3, 13, 0, 0), (13, .iconst 1, 14, 0, 1), (14, .ireturn, 15, 0, 0), (15, .iconst 0, 16, 0, 0), (16, .ireturn, 17, 0, 0)]
def hL_incomeOf : List (Nat × Nat × Nat × Nat) := [(0, 9, 12, 13)]
theorem TL_incomeOf : jT mL_incomeOf [] [] tL_incomeOf := jT.of (cs := []) (fun _ h => absurd h List.not_mem_nil) (fun _ h => absurd h List.not_mem_nil) (fun _ h => absurd h List.not_mem_nil) (by decide +kernel) (by decide +kernel)
theorem WL_incomeOf : jMsW mL_incomeOf hL_incomeOf 3 := ⟨⟨jGw_of 93 (by decide +kernel) (by decide +kernel), jGw_of 1287 (by decide +kernel) (by decide +kernel), ⟨by decide +kernel, by decide +kernel, by decide +kernel⟩, by decide⟩, jGw_of 1286 (by decide +kernel) (by decide +kernel)⟩
set_option maxRecDepth 100000 in
theorem NL_incomeOf {g : jG} (n d : Nat) {x : Int32} {σ : jM} {Q : Option Value → jM → Prop} (hv : ∀ v τ, Q v τ → ∃ a : Int32, v = some (.int a)) (hc : jCon g (n + d) mX11_incomeOf [.ref 0, .int x] σ Q) : jCoW g (n + d + 1) mL_incomeOf hL_incomeOf [.ref 0, .int x, .ref 352] σ (fun v τ => v = some (.int 0) ∧ ∃ (a : Int32) (τ' : jM), Q (some (.int a)) τ' ∧ τ = jupL τ' 352 0 a.toInt64) := by
  refine jCoW.of (by decide +kernel) (by simp [lg_sl, Value.category]) ?_
  refine jy_aloadn (j := 2) rfl (TL_incomeOf.row (show jtb tL_incomeOf 0 = _ from rfl)).1 ?_
  refine jy_iconst (v := 0) rfl (TL_incomeOf.row (show jtb tL_incomeOf 1 = _ from rfl)).1 ?_
  refine jy_aloadn (j := 0) rfl (TL_incomeOf.row (show jtb tL_incomeOf 2 = _ from rfl)).1 ?_
  refine jy_iloadn (j := 1) rfl (TL_incomeOf.row (show jtb tL_incomeOf 3 = _ from rfl)).1 ?_
  refine jy_callV (n' := n + d) (mt' := mX11_incomeOf) (as := [.int x]) (r := [.int 0, .ref 352]) (ci := 11) (a := 0) jzV_ok TL_incomeOf (show jtb tL_incomeOf 4 = _ from rfl) kL_15 WX11_incomeOf rfl (by decide +kernel) rfl (by omega) rfl (by simp [Value.category]) hc (fun v τ hq => ?_)
  obtain ⟨a, rfl⟩ := hv v τ hq
  refine jy_i2l (TL_incomeOf.row (show jtb tL_incomeOf 7 = _ from rfl)).1 ?_
  refine jy_last (a := 352) (by decide +kernel) (show jin 0 1 from ⟨by decide, by decide⟩) (TL_incomeOf.row (show jtb tL_incomeOf 8 = _ from rfl)).1 ?_
  refine jy_goto (tg := 15) (TL_incomeOf.row (show jtb tL_incomeOf 9 = _ from rfl)).1 rfl ?_
  refine jy_iconst (v := 0) rfl (TL_incomeOf.row (show jtb tL_incomeOf 15 = _ from rfl)).1 ?_
  exact jy_wret (Nat.zero_le _) (Nat.zero_le _) rfl ⟨rfl, a, τ, hq, rfl⟩ (TL_incomeOf.row (show jtb tL_incomeOf 16 = _ from rfl)).1
set_option maxRecDepth 100000 in
theorem PL_incomeOf {g : jG} (hX : jEx g) (n : Nat) {x : Int32} {σ : jM} {P : jM → Prop} (hc : jTh g n mX11_incomeOf [.ref 0, .int x] σ P) : jCoW g (n + 1) mL_incomeOf hL_incomeOf [.ref 0, .int x, .ref 352] σ (fun v τ => v = some (.int 1) ∧ P τ) := by
  refine jCoW.of (by decide +kernel) (by simp [lg_sl, Value.category]) ?_
  refine jy_aloadn (j := 2) rfl (TL_incomeOf.row (show jtb tL_incomeOf 0 = _ from rfl)).1 ?_
  refine jy_iconst (v := 0) rfl (TL_incomeOf.row (show jtb tL_incomeOf 1 = _ from rfl)).1 ?_
  refine jy_aloadn (j := 0) rfl (TL_incomeOf.row (show jtb tL_incomeOf 2 = _ from rfl)).1 ?_
  refine jy_iloadn (j := 1) rfl (TL_incomeOf.row (show jtb tL_incomeOf 3 = _ from rfl)).1 ?_
  refine jy_catch hX rfl rfl (n' := n) (mt' := mX11_incomeOf) (as := [.int x]) (r := [.int 0, .ref 352]) (ci := 11) (a := 0) TL_incomeOf (show jtb tL_incomeOf 4 = _ from rfl) kL_15 WX11_incomeOf rfl (by decide +kernel) rfl (by omega) rfl (by simp [Value.category]) (by decide +kernel) hc (ln := 1) (Or.inl ⟨(TL_incomeOf.row (show jtb tL_incomeOf 12 = _ from rfl)).1, rfl, by decide⟩) (fun τ hτ => ?_)
  refine jy_iconst (v := 1) rfl (TL_incomeOf.row (show jtb tL_incomeOf 13 = _ from rfl)).1 ?_
  exact jy_wret (Nat.le_refl _) (Nat.le_refl _) rfl ⟨rfl, hτ⟩ (TL_incomeOf.row (show jtb tL_incomeOf 14 = _ from rfl)).1
/-! valueOf -/
abbrev mL_valueOf : jMt := (yL_valueOf, cL_valueOf, 5, some .int)
def tL_valueOf : jTb := [(0, .aload_n 3, 1, 0, 0), (1, .iconst 0, 2, 0, 0), (2, .aload_n 0, 3, 0, 0), (3, .iload_n 1, 4, 0, 0), (4, .iload_n 2, 5, 0, 0), (5, .invokevirtual 18, 8, 0, 0), (8, .i2l, 9, 0, 0), (9, .lastore, 10, 0, 0), (10, .goto 7, 13, 17, 0), (13, .astore 4, 15, 0, 0), (15, .iconst 1, 16, 0, 1), (16, .ireturn, 17, 0, 0), (17, .iconst 0, 18, 0, 0), (18, .ireturn, 19, 0, 0)]
def hL_valueOf : List (Nat × Nat × Nat × Nat) := [(0, 10, 13, 13)]
theorem TL_valueOf : jT mL_valueOf [] [] tL_valueOf := jT.of (cs := []) (fun _ h => absurd h List.not_mem_nil) (fun _ h => absurd h List.not_mem_nil) (fun _ h => absurd h List.not_mem_nil) (by decide +kernel) (by decide +kernel)
theorem WL_valueOf : jMsW mL_valueOf hL_valueOf 4 := ⟨⟨jGw_of 93 (by decide +kernel) (by decide +kernel), jGw_of 1294 (by decide +kernel) (by decide +kernel), ⟨by decide +kernel, by decide +kernel, by decide +kernel⟩, by decide⟩, jGw_of 1293 (by decide +kernel) (by decide +kernel)⟩
set_option maxRecDepth 100000 in
theorem NL_valueOf {g : jG} (n d : Nat) {x y : Int32} {σ : jM} {Q : Option Value → jM → Prop} (hv : ∀ v τ, Q v τ → ∃ a : Int32, v = some (.int a)) (hc : jCon g (n + d) mX11_valueOf [.ref 0, .int x, .int y] σ Q) : jCoW g (n + d + 1) mL_valueOf hL_valueOf [.ref 0, .int x, .int y, .ref 352] σ (fun v τ => v = some (.int 0) ∧ ∃ (a : Int32) (τ' : jM), Q (some (.int a)) τ' ∧ τ = jupL τ' 352 0 a.toInt64) := by
  refine jCoW.of (by decide +kernel) (by simp [lg_sl, Value.category]) ?_
  refine jy_aloadn (j := 3) rfl (TL_valueOf.row (show jtb tL_valueOf 0 = _ from rfl)).1 ?_
  refine jy_iconst (v := 0) rfl (TL_valueOf.row (show jtb tL_valueOf 1 = _ from rfl)).1 ?_
  refine jy_aloadn (j := 0) rfl (TL_valueOf.row (show jtb tL_valueOf 2 = _ from rfl)).1 ?_
  refine jy_iloadn (j := 1) rfl (TL_valueOf.row (show jtb tL_valueOf 3 = _ from rfl)).1 ?_
  refine jy_iloadn (j := 2) rfl (TL_valueOf.row (show jtb tL_valueOf 4 = _ from rfl)).1 ?_
  refine jy_callV (n' := n + d) (mt' := mX11_valueOf) (as := [.int x, .int y]) (r := [.int 0, .ref 352]) (ci := 11) (a := 0) jzV_ok TL_valueOf (show jtb tL_valueOf 5 = _ from rfl) kL_18 WX11_valueOf rfl (by decide +kernel) rfl (by omega) rfl (by simp [Value.category]) hc (fun v τ hq => ?_)
  obtain ⟨a, rfl⟩ := hv v τ hq
  refine jy_i2l (TL_valueOf.row (show jtb tL_valueOf 8 = _ from rfl)).1 ?_
  refine jy_last (a := 352) (by decide +kernel) (show jin 0 1 from ⟨by decide, by decide⟩) (TL_valueOf.row (show jtb tL_valueOf 9 = _ from rfl)).1 ?_
  refine jy_goto (tg := 17) (TL_valueOf.row (show jtb tL_valueOf 10 = _ from rfl)).1 rfl ?_
  refine jy_iconst (v := 0) rfl (TL_valueOf.row (show jtb tL_valueOf 17 = _ from rfl)).1 ?_
  exact jy_wret (Nat.zero_le _) (Nat.zero_le _) rfl ⟨rfl, a, τ, hq, rfl⟩ (TL_valueOf.row (show jtb tL_valueOf 18 = _ from rfl)).1
set_option maxRecDepth 100000 in
theorem PL_valueOf {g : jG} (hX : jEx g) (n : Nat) {x y : Int32} {σ : jM} {P : jM → Prop} (hc : jTh g n mX11_valueOf [.ref 0, .int x, .int y] σ P) : jCoW g (n + 1) mL_valueOf hL_valueOf [.ref 0, .int x, .int y, .ref 352] σ (fun v τ => v = some (.int 1) ∧ P τ) := by
  refine jCoW.of (by decide +kernel) (by simp [lg_sl, Value.category]) ?_
  refine jy_aloadn (j := 3) rfl (TL_valueOf.row (show jtb tL_valueOf 0 = _ from rfl)).1 ?_
  refine jy_iconst (v := 0) rfl (TL_valueOf.row (show jtb tL_valueOf 1 = _ from rfl)).1 ?_
  refine jy_aloadn (j := 0) rfl (TL_valueOf.row (show jtb tL_valueOf 2 = _ from rfl)).1 ?_
  refine jy_iloadn (j := 1) rfl (TL_valueOf.row (show jtb tL_valueOf 3 = _ from rfl)).1 ?_
  refine jy_iloadn (j := 2) rfl (TL_valueOf.row (show jtb tL_valueOf 4 = _ from rfl)).1 ?_
  refine jy_catch hX rfl rfl (n' := n) (mt' := mX11_valueOf) (as := [.int x, .int y]) (r := [.int 0, .ref 352]) (ci := 11) (a := 0) TL_valueOf (show jtb tL_valueOf 5 = _ from rfl) kL_18 WX11_valueOf rfl (by decide +kernel) rfl (by omega) rfl (by simp [Value.category]) (by decide +kernel) hc (ln := 2) (Or.inr ⟨(TL_valueOf.row (show jtb tL_valueOf 13 = _ from rfl)).1, rfl, by decide⟩) (fun τ hτ => ?_)
  refine jy_iconst (v := 1) rfl (TL_valueOf.row (show jtb tL_valueOf 15 = _ from rfl)).1 ?_
  exact jy_wret (Nat.le_refl _) (Nat.le_refl _) rfl ⟨rfl, hτ⟩ (TL_valueOf.row (show jtb tL_valueOf 16 = _ from rfl)).1
/-! refuses -/
abbrev mL_refuses : jMt := (yL_refuses, cL_refuses, 5, some .int)
def tL_refuses : jTb := [(0, .aload_n 3, 1, 0, 0), (1, .iconst 0, 2, 0, 0), (2, .aload_n 0, 3, 0, 0), (3, .iload_n 1, 4, 0, 0), (4, .iload_n 2, 5, 0, 0), (5, .invokevirtual 22, 8, 0, 0), (8, .ifCond .eq 7, 11, 15, 0), (11, .lconst 1, 12, 0, 0), (12, .goto 4, 15, 16, 0), (15, .lconst 0, 16, 0, 0), (16, .lastore, 17, 0, 0), (17, .goto 7, 20, 24, 0), (20, .astore 4, 22, 0, 0), (22, .iconst 1, 23, 0, 1), (23, .ireturn, 24, 0, 0), (24, .iconst 0, 25, 0, 0), (25, .ireturn, 26, 0, 0)]
def hL_refuses : List (Nat × Nat × Nat × Nat) := [(0, 17, 20, 13)]
theorem TL_refuses : jT mL_refuses [] [] tL_refuses := jT.of (cs := []) (fun _ h => absurd h List.not_mem_nil) (fun _ h => absurd h List.not_mem_nil) (fun _ h => absurd h List.not_mem_nil) (by decide +kernel) (by decide +kernel)
theorem WL_refuses : jMsW mL_refuses hL_refuses 4 := ⟨⟨jGw_of 93 (by decide +kernel) (by decide +kernel), jGw_of 1306 (by decide +kernel) (by decide +kernel), ⟨by decide +kernel, by decide +kernel, by decide +kernel⟩, by decide⟩, jGw_of 1305 (by decide +kernel) (by decide +kernel)⟩
set_option maxRecDepth 100000 in
theorem NL_refuses {g : jG} (n d : Nat) {x y : Int32} {σ : jM} {Q : Option Value → jM → Prop} (hv : ∀ v τ, Q v τ → ∃ a : Int32, v = some (.int a)) (hc : jCon g (n + d) mX11_refuses [.ref 0, .int x, .int y] σ Q) : jCoW g (n + d + 1) mL_refuses hL_refuses [.ref 0, .int x, .int y, .ref 352] σ (fun v τ => v = some (.int 0) ∧ ∃ (a : Int32) (τ' : jM), Q (some (.int a)) τ' ∧ τ = jupL τ' 352 0 (if a = 0 then 0 else 1)) := by
  refine jCoW.of (by decide +kernel) (by simp [lg_sl, Value.category]) ?_
  refine jy_aloadn (j := 3) rfl (TL_refuses.row (show jtb tL_refuses 0 = _ from rfl)).1 ?_
  refine jy_iconst (v := 0) rfl (TL_refuses.row (show jtb tL_refuses 1 = _ from rfl)).1 ?_
  refine jy_aloadn (j := 0) rfl (TL_refuses.row (show jtb tL_refuses 2 = _ from rfl)).1 ?_
  refine jy_iloadn (j := 1) rfl (TL_refuses.row (show jtb tL_refuses 3 = _ from rfl)).1 ?_
  refine jy_iloadn (j := 2) rfl (TL_refuses.row (show jtb tL_refuses 4 = _ from rfl)).1 ?_
  refine jy_callV (n' := n + d) (mt' := mX11_refuses) (as := [.int x, .int y]) (r := [.int 0, .ref 352]) (ci := 11) (a := 0) jzV_ok TL_refuses (show jtb tL_refuses 5 = _ from rfl) kL_22 WX11_refuses rfl (by decide +kernel) rfl (by omega) rfl (by simp [Value.category]) hc (fun v τ hq => ?_)
  obtain ⟨a, rfl⟩ := hv v τ hq
  by_cases ha : a = 0
  · refine jy_if (tg := 15) (TL_refuses.row (show jtb tL_refuses 8 = _ from rfl)).1 rfl ⟨fun _ => ?_, fun h => absurd ha h⟩
    refine jy_lconst (v := 0) rfl (TL_refuses.row (show jtb tL_refuses 15 = _ from rfl)).1 ?_
    refine jy_last (a := 352) (x := 0) (by decide +kernel) (show jin 0 1 from ⟨by decide, by decide⟩) (TL_refuses.row (show jtb tL_refuses 16 = _ from rfl)).1 ?_
    refine jy_goto (tg := 24) (TL_refuses.row (show jtb tL_refuses 17 = _ from rfl)).1 rfl ?_
    refine jy_iconst (v := 0) rfl (TL_refuses.row (show jtb tL_refuses 24 = _ from rfl)).1 ?_
    exact jy_wret (Nat.zero_le _) (Nat.zero_le _) rfl ⟨rfl, a, τ, hq, by rw [if_pos ha]; rfl⟩ (TL_refuses.row (show jtb tL_refuses 25 = _ from rfl)).1
  · refine jy_if (tg := 15) (TL_refuses.row (show jtb tL_refuses 8 = _ from rfl)).1 rfl ⟨fun h => absurd h ha, fun _ => ?_⟩
    refine jy_lconst (v := 1) rfl (TL_refuses.row (show jtb tL_refuses 11 = _ from rfl)).1 ?_
    refine jy_goto (tg := 16) (TL_refuses.row (show jtb tL_refuses 12 = _ from rfl)).1 rfl ?_
    refine jy_last (a := 352) (x := 1) (by decide +kernel) (show jin 0 1 from ⟨by decide, by decide⟩) (TL_refuses.row (show jtb tL_refuses 16 = _ from rfl)).1 ?_
    refine jy_goto (tg := 24) (TL_refuses.row (show jtb tL_refuses 17 = _ from rfl)).1 rfl ?_
    refine jy_iconst (v := 0) rfl (TL_refuses.row (show jtb tL_refuses 24 = _ from rfl)).1 ?_
    exact jy_wret (Nat.zero_le _) (Nat.zero_le _) rfl ⟨rfl, a, τ, hq, by rw [if_neg ha]; rfl⟩ (TL_refuses.row (show jtb tL_refuses 25 = _ from rfl)).1
set_option maxRecDepth 100000 in
theorem PL_refuses {g : jG} (hX : jEx g) (n : Nat) {x y : Int32} {σ : jM} {P : jM → Prop} (hc : jTh g n mX11_refuses [.ref 0, .int x, .int y] σ P) : jCoW g (n + 1) mL_refuses hL_refuses [.ref 0, .int x, .int y, .ref 352] σ (fun v τ => v = some (.int 1) ∧ P τ) := by
  refine jCoW.of (by decide +kernel) (by simp [lg_sl, Value.category]) ?_
  refine jy_aloadn (j := 3) rfl (TL_refuses.row (show jtb tL_refuses 0 = _ from rfl)).1 ?_
  refine jy_iconst (v := 0) rfl (TL_refuses.row (show jtb tL_refuses 1 = _ from rfl)).1 ?_
  refine jy_aloadn (j := 0) rfl (TL_refuses.row (show jtb tL_refuses 2 = _ from rfl)).1 ?_
  refine jy_iloadn (j := 1) rfl (TL_refuses.row (show jtb tL_refuses 3 = _ from rfl)).1 ?_
  refine jy_iloadn (j := 2) rfl (TL_refuses.row (show jtb tL_refuses 4 = _ from rfl)).1 ?_
  refine jy_catch hX rfl rfl (n' := n) (mt' := mX11_refuses) (as := [.int x, .int y]) (r := [.int 0, .ref 352]) (ci := 11) (a := 0) TL_refuses (show jtb tL_refuses 5 = _ from rfl) kL_22 WX11_refuses rfl (by decide +kernel) rfl (by omega) rfl (by simp [Value.category]) (by decide +kernel) hc (ln := 2) (Or.inr ⟨(TL_refuses.row (show jtb tL_refuses 20 = _ from rfl)).1, rfl, by decide⟩) (fun τ hτ => ?_)
  refine jy_iconst (v := 1) rfl (TL_refuses.row (show jtb tL_refuses 22 = _ from rfl)).1 ?_
  exact jy_wret (Nat.le_refl _) (Nat.le_refl _) rfl ⟨rfl, hτ⟩ (TL_refuses.row (show jtb tL_refuses 23 = _ from rfl)).1
/-! plan -/
abbrev mL_plan : jMt := (yL_plan, cL_plan, 5, some .int)
def tL_plan : jTb := [(0, .aload_n 3, 1, 0, 0), (1, .iconst 0, 2, 0, 0), (2, .aload_n 0, 3, 0, 0), (3, .iload_n 1, 4, 0, 0), (4, .iload_n 2, 5, 0, 0), (5, .invokevirtual 26, 8, 0, 0), (8, .i2l, 9, 0, 0), (9, .lastore, 10, 0, 0), (10, .goto 7, 13, 17, 0), (13, .astore 4, 15, 0, 0), (15, .iconst 1, 16, 0, 1), (16, .ireturn, 17, 0, 0), (17, .iconst 0, 18, 0, 0), (18, .ireturn, 19, 0, 0)]
def hL_plan : List (Nat × Nat × Nat × Nat) := [(0, 10, 13, 13)]
theorem TL_plan : jT mL_plan [] [] tL_plan := jT.of (cs := []) (fun _ h => absurd h List.not_mem_nil) (fun _ h => absurd h List.not_mem_nil) (fun _ h => absurd h List.not_mem_nil) (by decide +kernel) (by decide +kernel)
theorem WL_plan : jMsW mL_plan hL_plan 4 := ⟨⟨jGw_of 93 (by decide +kernel) (by decide +kernel), jGw_of 1313 (by decide +kernel) (by decide +kernel), ⟨by decide +kernel, by decide +kernel, by decide +kernel⟩, by decide⟩, jGw_of 1312 (by decide +kernel) (by decide +kernel)⟩
set_option maxRecDepth 100000 in
theorem NL_plan {g : jG} (n d : Nat) {x y : Int32} {σ : jM} {Q : Option Value → jM → Prop} (hv : ∀ v τ, Q v τ → ∃ a : Int32, v = some (.int a)) (hc : jCon g (n + d) mX11_plan [.ref 0, .int x, .int y] σ Q) : jCoW g (n + d + 1) mL_plan hL_plan [.ref 0, .int x, .int y, .ref 352] σ (fun v τ => v = some (.int 0) ∧ ∃ (a : Int32) (τ' : jM), Q (some (.int a)) τ' ∧ τ = jupL τ' 352 0 a.toInt64) := by
  refine jCoW.of (by decide +kernel) (by simp [lg_sl, Value.category]) ?_
  refine jy_aloadn (j := 3) rfl (TL_plan.row (show jtb tL_plan 0 = _ from rfl)).1 ?_
  refine jy_iconst (v := 0) rfl (TL_plan.row (show jtb tL_plan 1 = _ from rfl)).1 ?_
  refine jy_aloadn (j := 0) rfl (TL_plan.row (show jtb tL_plan 2 = _ from rfl)).1 ?_
  refine jy_iloadn (j := 1) rfl (TL_plan.row (show jtb tL_plan 3 = _ from rfl)).1 ?_
  refine jy_iloadn (j := 2) rfl (TL_plan.row (show jtb tL_plan 4 = _ from rfl)).1 ?_
  refine jy_callV (n' := n + d) (mt' := mX11_plan) (as := [.int x, .int y]) (r := [.int 0, .ref 352]) (ci := 11) (a := 0) jzV_ok TL_plan (show jtb tL_plan 5 = _ from rfl) kL_26 WX11_plan rfl (by decide +kernel) rfl (by omega) rfl (by simp [Value.category]) hc (fun v τ hq => ?_)
  obtain ⟨a, rfl⟩ := hv v τ hq
  refine jy_i2l (TL_plan.row (show jtb tL_plan 8 = _ from rfl)).1 ?_
  refine jy_last (a := 352) (by decide +kernel) (show jin 0 1 from ⟨by decide, by decide⟩) (TL_plan.row (show jtb tL_plan 9 = _ from rfl)).1 ?_
  refine jy_goto (tg := 17) (TL_plan.row (show jtb tL_plan 10 = _ from rfl)).1 rfl ?_
  refine jy_iconst (v := 0) rfl (TL_plan.row (show jtb tL_plan 17 = _ from rfl)).1 ?_
  exact jy_wret (Nat.zero_le _) (Nat.zero_le _) rfl ⟨rfl, a, τ, hq, rfl⟩ (TL_plan.row (show jtb tL_plan 18 = _ from rfl)).1
set_option maxRecDepth 100000 in
theorem PL_plan {g : jG} (hX : jEx g) (n : Nat) {x y : Int32} {σ : jM} {P : jM → Prop} (hc : jTh g n mX11_plan [.ref 0, .int x, .int y] σ P) : jCoW g (n + 1) mL_plan hL_plan [.ref 0, .int x, .int y, .ref 352] σ (fun v τ => v = some (.int 1) ∧ P τ) := by
  refine jCoW.of (by decide +kernel) (by simp [lg_sl, Value.category]) ?_
  refine jy_aloadn (j := 3) rfl (TL_plan.row (show jtb tL_plan 0 = _ from rfl)).1 ?_
  refine jy_iconst (v := 0) rfl (TL_plan.row (show jtb tL_plan 1 = _ from rfl)).1 ?_
  refine jy_aloadn (j := 0) rfl (TL_plan.row (show jtb tL_plan 2 = _ from rfl)).1 ?_
  refine jy_iloadn (j := 1) rfl (TL_plan.row (show jtb tL_plan 3 = _ from rfl)).1 ?_
  refine jy_iloadn (j := 2) rfl (TL_plan.row (show jtb tL_plan 4 = _ from rfl)).1 ?_
  refine jy_catch hX rfl rfl (n' := n) (mt' := mX11_plan) (as := [.int x, .int y]) (r := [.int 0, .ref 352]) (ci := 11) (a := 0) TL_plan (show jtb tL_plan 5 = _ from rfl) kL_26 WX11_plan rfl (by decide +kernel) rfl (by omega) rfl (by simp [Value.category]) (by decide +kernel) hc (ln := 2) (Or.inr ⟨(TL_plan.row (show jtb tL_plan 13 = _ from rfl)).1, rfl, by decide⟩) (fun τ hτ => ?_)
  refine jy_iconst (v := 1) rfl (TL_plan.row (show jtb tL_plan 15 = _ from rfl)).1 ?_
  exact jy_wret (Nat.le_refl _) (Nat.le_refl _) rfl ⟨rfl, hτ⟩ (TL_plan.row (show jtb tL_plan 16 = _ from rfl)).1
/-! proposedRoom -/
abbrev mL_proposedRoom : jMt := (yL_proposedRoom, cL_proposedRoom, 4, some .int)
def tL_proposedRoom : jTb := [(0, .aload_n 2, 1, 0, 0), (1, .iconst 0, 2, 0, 0), (2, .aload_n 0, 3, 0, 0), (3, .iload_n 1, 4, 0, 0), (4, .invokevirtual 29, 7, 0, 0), (7, .i2l, 8, 0, 0), (8, .lastore, 9, 0, 0), (9, .goto 6, 12, 15, 0), (12, .astore_n 3, 13, 0, 0), (13, .iconst 1, 14, 0, 1), (14, .ireturn, 15, 0, 0), (15, .iconst 0, 16, 0, 0), (16, .ireturn, 17, 0, 0)]
def hL_proposedRoom : List (Nat × Nat × Nat × Nat) := [(0, 9, 12, 13)]
theorem TL_proposedRoom : jT mL_proposedRoom [] [] tL_proposedRoom := jT.of (cs := []) (fun _ h => absurd h List.not_mem_nil) (fun _ h => absurd h List.not_mem_nil) (fun _ h => absurd h List.not_mem_nil) (by decide +kernel) (by decide +kernel)
theorem WL_proposedRoom : jMsW mL_proposedRoom hL_proposedRoom 3 := ⟨⟨jGw_of 93 (by decide +kernel) (by decide +kernel), jGw_of 1327 (by decide +kernel) (by decide +kernel), ⟨by decide +kernel, by decide +kernel, by decide +kernel⟩, by decide⟩, jGw_of 1326 (by decide +kernel) (by decide +kernel)⟩
set_option maxRecDepth 100000 in
theorem NL_proposedRoom {g : jG} (n d : Nat) {x : Int32} {σ : jM} {Q : Option Value → jM → Prop} (hv : ∀ v τ, Q v τ → ∃ a : Int32, v = some (.int a)) (hc : jCon g (n + d) mX11_proposedRoom [.ref 0, .int x] σ Q) : jCoW g (n + d + 1) mL_proposedRoom hL_proposedRoom [.ref 0, .int x, .ref 352] σ (fun v τ => v = some (.int 0) ∧ ∃ (a : Int32) (τ' : jM), Q (some (.int a)) τ' ∧ τ = jupL τ' 352 0 a.toInt64) := by
  refine jCoW.of (by decide +kernel) (by simp [lg_sl, Value.category]) ?_
  refine jy_aloadn (j := 2) rfl (TL_proposedRoom.row (show jtb tL_proposedRoom 0 = _ from rfl)).1 ?_
  refine jy_iconst (v := 0) rfl (TL_proposedRoom.row (show jtb tL_proposedRoom 1 = _ from rfl)).1 ?_
  refine jy_aloadn (j := 0) rfl (TL_proposedRoom.row (show jtb tL_proposedRoom 2 = _ from rfl)).1 ?_
  refine jy_iloadn (j := 1) rfl (TL_proposedRoom.row (show jtb tL_proposedRoom 3 = _ from rfl)).1 ?_
  refine jy_callV (n' := n + d) (mt' := mX11_proposedRoom) (as := [.int x]) (r := [.int 0, .ref 352]) (ci := 11) (a := 0) jzV_ok TL_proposedRoom (show jtb tL_proposedRoom 4 = _ from rfl) kL_29 WX11_proposedRoom rfl (by decide +kernel) rfl (by omega) rfl (by simp [Value.category]) hc (fun v τ hq => ?_)
  obtain ⟨a, rfl⟩ := hv v τ hq
  refine jy_i2l (TL_proposedRoom.row (show jtb tL_proposedRoom 7 = _ from rfl)).1 ?_
  refine jy_last (a := 352) (by decide +kernel) (show jin 0 1 from ⟨by decide, by decide⟩) (TL_proposedRoom.row (show jtb tL_proposedRoom 8 = _ from rfl)).1 ?_
  refine jy_goto (tg := 15) (TL_proposedRoom.row (show jtb tL_proposedRoom 9 = _ from rfl)).1 rfl ?_
  refine jy_iconst (v := 0) rfl (TL_proposedRoom.row (show jtb tL_proposedRoom 15 = _ from rfl)).1 ?_
  exact jy_wret (Nat.zero_le _) (Nat.zero_le _) rfl ⟨rfl, a, τ, hq, rfl⟩ (TL_proposedRoom.row (show jtb tL_proposedRoom 16 = _ from rfl)).1
set_option maxRecDepth 100000 in
theorem PL_proposedRoom {g : jG} (hX : jEx g) (n : Nat) {x : Int32} {σ : jM} {P : jM → Prop} (hc : jTh g n mX11_proposedRoom [.ref 0, .int x] σ P) : jCoW g (n + 1) mL_proposedRoom hL_proposedRoom [.ref 0, .int x, .ref 352] σ (fun v τ => v = some (.int 1) ∧ P τ) := by
  refine jCoW.of (by decide +kernel) (by simp [lg_sl, Value.category]) ?_
  refine jy_aloadn (j := 2) rfl (TL_proposedRoom.row (show jtb tL_proposedRoom 0 = _ from rfl)).1 ?_
  refine jy_iconst (v := 0) rfl (TL_proposedRoom.row (show jtb tL_proposedRoom 1 = _ from rfl)).1 ?_
  refine jy_aloadn (j := 0) rfl (TL_proposedRoom.row (show jtb tL_proposedRoom 2 = _ from rfl)).1 ?_
  refine jy_iloadn (j := 1) rfl (TL_proposedRoom.row (show jtb tL_proposedRoom 3 = _ from rfl)).1 ?_
  refine jy_catch hX rfl rfl (n' := n) (mt' := mX11_proposedRoom) (as := [.int x]) (r := [.int 0, .ref 352]) (ci := 11) (a := 0) TL_proposedRoom (show jtb tL_proposedRoom 4 = _ from rfl) kL_29 WX11_proposedRoom rfl (by decide +kernel) rfl (by omega) rfl (by simp [Value.category]) (by decide +kernel) hc (ln := 1) (Or.inl ⟨(TL_proposedRoom.row (show jtb tL_proposedRoom 12 = _ from rfl)).1, rfl, by decide⟩) (fun τ hτ => ?_)
  refine jy_iconst (v := 1) rfl (TL_proposedRoom.row (show jtb tL_proposedRoom 13 = _ from rfl)).1 ?_
  exact jy_wret (Nat.le_refl _) (Nat.le_refl _) rfl ⟨rfl, hτ⟩ (TL_proposedRoom.row (show jtb tL_proposedRoom 14 = _ from rfl)).1
/-! extreme -/
abbrev mL_extreme : jMt := (yL_extreme, cL_extreme, 5, some .int)
def tL_extreme : jTb := [(0, .aload_n 3, 1, 0, 0), (1, .iconst 0, 2, 0, 0), (2, .aload_n 0, 3, 0, 0), (3, .iload_n 1, 4, 0, 0), (4, .iload_n 2, 5, 0, 0), (5, .invokevirtual 32, 8, 0, 0), (8, .i2l, 9, 0, 0), (9, .lastore, 10, 0, 0), (10, .goto 7, 13, 17, 0), (13, .astore 4, 15, 0, 0), (15, .iconst 1, 16, 0, 1), (16, .ireturn, 17, 0, 0), (17, .iconst 0, 18, 0, 0), (18, .ireturn, 19, 0, 0)]
def hL_extreme : List (Nat × Nat × Nat × Nat) := [(0, 10, 13, 13)]
theorem TL_extreme : jT mL_extreme [] [] tL_extreme := jT.of (cs := []) (fun _ h => absurd h List.not_mem_nil) (fun _ h => absurd h List.not_mem_nil) (fun _ h => absurd h List.not_mem_nil) (by decide +kernel) (by decide +kernel)
theorem WL_extreme : jMsW mL_extreme hL_extreme 4 := ⟨⟨jGw_of 93 (by decide +kernel) (by decide +kernel), jGw_of 1334 (by decide +kernel) (by decide +kernel), ⟨by decide +kernel, by decide +kernel, by decide +kernel⟩, by decide⟩, jGw_of 1333 (by decide +kernel) (by decide +kernel)⟩
set_option maxRecDepth 100000 in
theorem NL_extreme {g : jG} (n d : Nat) {x y : Int32} {σ : jM} {Q : Option Value → jM → Prop} (hv : ∀ v τ, Q v τ → ∃ a : Int32, v = some (.int a)) (hc : jCon g (n + d) mX11_extreme [.ref 0, .int x, .int y] σ Q) : jCoW g (n + d + 1) mL_extreme hL_extreme [.ref 0, .int x, .int y, .ref 352] σ (fun v τ => v = some (.int 0) ∧ ∃ (a : Int32) (τ' : jM), Q (some (.int a)) τ' ∧ τ = jupL τ' 352 0 a.toInt64) := by
  refine jCoW.of (by decide +kernel) (by simp [lg_sl, Value.category]) ?_
  refine jy_aloadn (j := 3) rfl (TL_extreme.row (show jtb tL_extreme 0 = _ from rfl)).1 ?_
  refine jy_iconst (v := 0) rfl (TL_extreme.row (show jtb tL_extreme 1 = _ from rfl)).1 ?_
  refine jy_aloadn (j := 0) rfl (TL_extreme.row (show jtb tL_extreme 2 = _ from rfl)).1 ?_
  refine jy_iloadn (j := 1) rfl (TL_extreme.row (show jtb tL_extreme 3 = _ from rfl)).1 ?_
  refine jy_iloadn (j := 2) rfl (TL_extreme.row (show jtb tL_extreme 4 = _ from rfl)).1 ?_
  refine jy_callV (n' := n + d) (mt' := mX11_extreme) (as := [.int x, .int y]) (r := [.int 0, .ref 352]) (ci := 11) (a := 0) jzV_ok TL_extreme (show jtb tL_extreme 5 = _ from rfl) kL_32 WX11_extreme rfl (by decide +kernel) rfl (by omega) rfl (by simp [Value.category]) hc (fun v τ hq => ?_)
  obtain ⟨a, rfl⟩ := hv v τ hq
  refine jy_i2l (TL_extreme.row (show jtb tL_extreme 8 = _ from rfl)).1 ?_
  refine jy_last (a := 352) (by decide +kernel) (show jin 0 1 from ⟨by decide, by decide⟩) (TL_extreme.row (show jtb tL_extreme 9 = _ from rfl)).1 ?_
  refine jy_goto (tg := 17) (TL_extreme.row (show jtb tL_extreme 10 = _ from rfl)).1 rfl ?_
  refine jy_iconst (v := 0) rfl (TL_extreme.row (show jtb tL_extreme 17 = _ from rfl)).1 ?_
  exact jy_wret (Nat.zero_le _) (Nat.zero_le _) rfl ⟨rfl, a, τ, hq, rfl⟩ (TL_extreme.row (show jtb tL_extreme 18 = _ from rfl)).1
set_option maxRecDepth 100000 in
theorem PL_extreme {g : jG} (hX : jEx g) (n : Nat) {x y : Int32} {σ : jM} {P : jM → Prop} (hc : jTh g n mX11_extreme [.ref 0, .int x, .int y] σ P) : jCoW g (n + 1) mL_extreme hL_extreme [.ref 0, .int x, .int y, .ref 352] σ (fun v τ => v = some (.int 1) ∧ P τ) := by
  refine jCoW.of (by decide +kernel) (by simp [lg_sl, Value.category]) ?_
  refine jy_aloadn (j := 3) rfl (TL_extreme.row (show jtb tL_extreme 0 = _ from rfl)).1 ?_
  refine jy_iconst (v := 0) rfl (TL_extreme.row (show jtb tL_extreme 1 = _ from rfl)).1 ?_
  refine jy_aloadn (j := 0) rfl (TL_extreme.row (show jtb tL_extreme 2 = _ from rfl)).1 ?_
  refine jy_iloadn (j := 1) rfl (TL_extreme.row (show jtb tL_extreme 3 = _ from rfl)).1 ?_
  refine jy_iloadn (j := 2) rfl (TL_extreme.row (show jtb tL_extreme 4 = _ from rfl)).1 ?_
  refine jy_catch hX rfl rfl (n' := n) (mt' := mX11_extreme) (as := [.int x, .int y]) (r := [.int 0, .ref 352]) (ci := 11) (a := 0) TL_extreme (show jtb tL_extreme 5 = _ from rfl) kL_32 WX11_extreme rfl (by decide +kernel) rfl (by omega) rfl (by simp [Value.category]) (by decide +kernel) hc (ln := 2) (Or.inr ⟨(TL_extreme.row (show jtb tL_extreme 13 = _ from rfl)).1, rfl, by decide⟩) (fun τ hτ => ?_)
  refine jy_iconst (v := 1) rfl (TL_extreme.row (show jtb tL_extreme 15 = _ from rfl)).1 ?_
  exact jy_wret (Nat.le_refl _) (Nat.le_refl _) rfl ⟨rfl, hτ⟩ (TL_extreme.row (show jtb tL_extreme 16 = _ from rfl)).1
/-! price -/
abbrev mL_price : jMt := (yL_price, cL_price, 4, some .int)
def tL_price : jTb := [(0, .aload_n 2, 1, 0, 0), (1, .iconst 0, 2, 0, 0), (2, .aload_n 0, 3, 0, 0), (3, .iload_n 1, 4, 0, 0), (4, .invokevirtual 36, 7, 0, 0), (7, .i2l, 8, 0, 0), (8, .lastore, 9, 0, 0), (9, .goto 6, 12, 15, 0), (12, .astore_n 3, 13, 0, 0), (13, .iconst 1, 14, 0, 1), (14, .ireturn, 15, 0, 0), (15, .iconst 0, 16, 0, 0), (16, .ireturn, 17, 0, 0)]
def hL_price : List (Nat × Nat × Nat × Nat) := [(0, 9, 12, 13)]
theorem TL_price : jT mL_price [] [] tL_price := jT.of (cs := []) (fun _ h => absurd h List.not_mem_nil) (fun _ h => absurd h List.not_mem_nil) (fun _ h => absurd h List.not_mem_nil) (by decide +kernel) (by decide +kernel)
theorem WL_price : jMsW mL_price hL_price 3 := ⟨⟨jGw_of 93 (by decide +kernel) (by decide +kernel), jGw_of 1350 (by decide +kernel) (by decide +kernel), ⟨by decide +kernel, by decide +kernel, by decide +kernel⟩, by decide⟩, jGw_of 1349 (by decide +kernel) (by decide +kernel)⟩
set_option maxRecDepth 100000 in
theorem NL_price {g : jG} (n d : Nat) {x : Int32} {σ : jM} {Q : Option Value → jM → Prop} (hv : ∀ v τ, Q v τ → ∃ a : Int32, v = some (.int a)) (hc : jCon g (n + d) mX11_price [.ref 0, .int x] σ Q) : jCoW g (n + d + 1) mL_price hL_price [.ref 0, .int x, .ref 352] σ (fun v τ => v = some (.int 0) ∧ ∃ (a : Int32) (τ' : jM), Q (some (.int a)) τ' ∧ τ = jupL τ' 352 0 a.toInt64) := by
  refine jCoW.of (by decide +kernel) (by simp [lg_sl, Value.category]) ?_
  refine jy_aloadn (j := 2) rfl (TL_price.row (show jtb tL_price 0 = _ from rfl)).1 ?_
  refine jy_iconst (v := 0) rfl (TL_price.row (show jtb tL_price 1 = _ from rfl)).1 ?_
  refine jy_aloadn (j := 0) rfl (TL_price.row (show jtb tL_price 2 = _ from rfl)).1 ?_
  refine jy_iloadn (j := 1) rfl (TL_price.row (show jtb tL_price 3 = _ from rfl)).1 ?_
  refine jy_callV (n' := n + d) (mt' := mX11_price) (as := [.int x]) (r := [.int 0, .ref 352]) (ci := 11) (a := 0) jzV_ok TL_price (show jtb tL_price 4 = _ from rfl) kL_36 WX11_price rfl (by decide +kernel) rfl (by omega) rfl (by simp [Value.category]) hc (fun v τ hq => ?_)
  obtain ⟨a, rfl⟩ := hv v τ hq
  refine jy_i2l (TL_price.row (show jtb tL_price 7 = _ from rfl)).1 ?_
  refine jy_last (a := 352) (by decide +kernel) (show jin 0 1 from ⟨by decide, by decide⟩) (TL_price.row (show jtb tL_price 8 = _ from rfl)).1 ?_
  refine jy_goto (tg := 15) (TL_price.row (show jtb tL_price 9 = _ from rfl)).1 rfl ?_
  refine jy_iconst (v := 0) rfl (TL_price.row (show jtb tL_price 15 = _ from rfl)).1 ?_
  exact jy_wret (Nat.zero_le _) (Nat.zero_le _) rfl ⟨rfl, a, τ, hq, rfl⟩ (TL_price.row (show jtb tL_price 16 = _ from rfl)).1
set_option maxRecDepth 100000 in
theorem PL_price {g : jG} (hX : jEx g) (n : Nat) {x : Int32} {σ : jM} {P : jM → Prop} (hc : jTh g n mX11_price [.ref 0, .int x] σ P) : jCoW g (n + 1) mL_price hL_price [.ref 0, .int x, .ref 352] σ (fun v τ => v = some (.int 1) ∧ P τ) := by
  refine jCoW.of (by decide +kernel) (by simp [lg_sl, Value.category]) ?_
  refine jy_aloadn (j := 2) rfl (TL_price.row (show jtb tL_price 0 = _ from rfl)).1 ?_
  refine jy_iconst (v := 0) rfl (TL_price.row (show jtb tL_price 1 = _ from rfl)).1 ?_
  refine jy_aloadn (j := 0) rfl (TL_price.row (show jtb tL_price 2 = _ from rfl)).1 ?_
  refine jy_iloadn (j := 1) rfl (TL_price.row (show jtb tL_price 3 = _ from rfl)).1 ?_
  refine jy_catch hX rfl rfl (n' := n) (mt' := mX11_price) (as := [.int x]) (r := [.int 0, .ref 352]) (ci := 11) (a := 0) TL_price (show jtb tL_price 4 = _ from rfl) kL_36 WX11_price rfl (by decide +kernel) rfl (by omega) rfl (by simp [Value.category]) (by decide +kernel) hc (ln := 1) (Or.inl ⟨(TL_price.row (show jtb tL_price 12 = _ from rfl)).1, rfl, by decide⟩) (fun τ hτ => ?_)
  refine jy_iconst (v := 1) rfl (TL_price.row (show jtb tL_price 13 = _ from rfl)).1 ?_
  exact jy_wret (Nat.le_refl _) (Nat.le_refl _) rfl ⟨rfl, hτ⟩ (TL_price.row (show jtb tL_price 14 = _ from rfl)).1
/-! incomeShare -/
abbrev mL_incomeShare : jMt := (yL_incomeShare, cL_incomeShare, 4, some .int)
def tL_incomeShare : jTb := [(0, .aload_n 2, 1, 0, 0), (1, .iconst 0, 2, 0, 0), (2, .aload_n 0, 3, 0, 0), (3, .iload_n 1, 4, 0, 0), (4, .invokevirtual 39, 7, 0, 0), (7, .i2l, 8, 0, 0), (8, .lastore, 9, 0, 0), (9, .goto 6, 12, 15, 0), (12, .astore_n 3, 13, 0, 0), (13, .iconst 1, 14, 0, 1), (14, .ireturn, 15, 0, 0), (15, .iconst 0, 16, 0, 0), (16, .ireturn, 17, 0, 0)]
def hL_incomeShare : List (Nat × Nat × Nat × Nat) := [(0, 9, 12, 13)]
theorem TL_incomeShare : jT mL_incomeShare [] [] tL_incomeShare := jT.of (cs := []) (fun _ h => absurd h List.not_mem_nil) (fun _ h => absurd h List.not_mem_nil) (fun _ h => absurd h List.not_mem_nil) (by decide +kernel) (by decide +kernel)
theorem WL_incomeShare : jMsW mL_incomeShare hL_incomeShare 3 := ⟨⟨jGw_of 93 (by decide +kernel) (by decide +kernel), jGw_of 1357 (by decide +kernel) (by decide +kernel), ⟨by decide +kernel, by decide +kernel, by decide +kernel⟩, by decide⟩, jGw_of 1356 (by decide +kernel) (by decide +kernel)⟩
set_option maxRecDepth 100000 in
theorem NL_incomeShare {g : jG} (n d : Nat) {x : Int32} {σ : jM} {Q : Option Value → jM → Prop} (hv : ∀ v τ, Q v τ → ∃ a : Int32, v = some (.int a)) (hc : jCon g (n + d) mX11_incomeShare [.ref 0, .int x] σ Q) : jCoW g (n + d + 1) mL_incomeShare hL_incomeShare [.ref 0, .int x, .ref 352] σ (fun v τ => v = some (.int 0) ∧ ∃ (a : Int32) (τ' : jM), Q (some (.int a)) τ' ∧ τ = jupL τ' 352 0 a.toInt64) := by
  refine jCoW.of (by decide +kernel) (by simp [lg_sl, Value.category]) ?_
  refine jy_aloadn (j := 2) rfl (TL_incomeShare.row (show jtb tL_incomeShare 0 = _ from rfl)).1 ?_
  refine jy_iconst (v := 0) rfl (TL_incomeShare.row (show jtb tL_incomeShare 1 = _ from rfl)).1 ?_
  refine jy_aloadn (j := 0) rfl (TL_incomeShare.row (show jtb tL_incomeShare 2 = _ from rfl)).1 ?_
  refine jy_iloadn (j := 1) rfl (TL_incomeShare.row (show jtb tL_incomeShare 3 = _ from rfl)).1 ?_
  refine jy_callV (n' := n + d) (mt' := mX11_incomeShare) (as := [.int x]) (r := [.int 0, .ref 352]) (ci := 11) (a := 0) jzV_ok TL_incomeShare (show jtb tL_incomeShare 4 = _ from rfl) kL_39 WX11_incomeShare rfl (by decide +kernel) rfl (by omega) rfl (by simp [Value.category]) hc (fun v τ hq => ?_)
  obtain ⟨a, rfl⟩ := hv v τ hq
  refine jy_i2l (TL_incomeShare.row (show jtb tL_incomeShare 7 = _ from rfl)).1 ?_
  refine jy_last (a := 352) (by decide +kernel) (show jin 0 1 from ⟨by decide, by decide⟩) (TL_incomeShare.row (show jtb tL_incomeShare 8 = _ from rfl)).1 ?_
  refine jy_goto (tg := 15) (TL_incomeShare.row (show jtb tL_incomeShare 9 = _ from rfl)).1 rfl ?_
  refine jy_iconst (v := 0) rfl (TL_incomeShare.row (show jtb tL_incomeShare 15 = _ from rfl)).1 ?_
  exact jy_wret (Nat.zero_le _) (Nat.zero_le _) rfl ⟨rfl, a, τ, hq, rfl⟩ (TL_incomeShare.row (show jtb tL_incomeShare 16 = _ from rfl)).1
set_option maxRecDepth 100000 in
theorem PL_incomeShare {g : jG} (hX : jEx g) (n : Nat) {x : Int32} {σ : jM} {P : jM → Prop} (hc : jTh g n mX11_incomeShare [.ref 0, .int x] σ P) : jCoW g (n + 1) mL_incomeShare hL_incomeShare [.ref 0, .int x, .ref 352] σ (fun v τ => v = some (.int 1) ∧ P τ) := by
  refine jCoW.of (by decide +kernel) (by simp [lg_sl, Value.category]) ?_
  refine jy_aloadn (j := 2) rfl (TL_incomeShare.row (show jtb tL_incomeShare 0 = _ from rfl)).1 ?_
  refine jy_iconst (v := 0) rfl (TL_incomeShare.row (show jtb tL_incomeShare 1 = _ from rfl)).1 ?_
  refine jy_aloadn (j := 0) rfl (TL_incomeShare.row (show jtb tL_incomeShare 2 = _ from rfl)).1 ?_
  refine jy_iloadn (j := 1) rfl (TL_incomeShare.row (show jtb tL_incomeShare 3 = _ from rfl)).1 ?_
  refine jy_catch hX rfl rfl (n' := n) (mt' := mX11_incomeShare) (as := [.int x]) (r := [.int 0, .ref 352]) (ci := 11) (a := 0) TL_incomeShare (show jtb tL_incomeShare 4 = _ from rfl) kL_39 WX11_incomeShare rfl (by decide +kernel) rfl (by omega) rfl (by simp [Value.category]) (by decide +kernel) hc (ln := 1) (Or.inl ⟨(TL_incomeShare.row (show jtb tL_incomeShare 12 = _ from rfl)).1, rfl, by decide⟩) (fun τ hτ => ?_)
  refine jy_iconst (v := 1) rfl (TL_incomeShare.row (show jtb tL_incomeShare 13 = _ from rfl)).1 ?_
  exact jy_wret (Nat.le_refl _) (Nat.le_refl _) rfl ⟨rfl, hτ⟩ (TL_incomeShare.row (show jtb tL_incomeShare 14 = _ from rfl)).1
/-! proposedPayment -/
abbrev mL_proposedPayment : jMt := (yL_proposedPayment, cL_proposedPayment, 4, some .int)
def tL_proposedPayment : jTb := [(0, .aload_n 2, 1, 0, 0), (1, .iconst 0, 2, 0, 0), (2, .aload_n 0, 3, 0, 0), (3, .iload_n 1, 4, 0, 0), (4, .invokevirtual 42, 7, 0, 0), (7, .i2l, 8, 0, 0), (8, .lastore, 9, 0, 0), (9, .goto 6, 12, 15, 0), (12, .astore_n 3, 13, 0, 0), (13, .iconst 1, 14, 0, 1), (14, .ireturn, 15, 0, 0), (15, .iconst 0, 16, 0, 0), (16, .ireturn, 17, 0, 0)]
def hL_proposedPayment : List (Nat × Nat × Nat × Nat) := [(0, 9, 12, 13)]
theorem TL_proposedPayment : jT mL_proposedPayment [] [] tL_proposedPayment := jT.of (cs := []) (fun _ h => absurd h List.not_mem_nil) (fun _ h => absurd h List.not_mem_nil) (fun _ h => absurd h List.not_mem_nil) (by decide +kernel) (by decide +kernel)
theorem WL_proposedPayment : jMsW mL_proposedPayment hL_proposedPayment 3 := ⟨⟨jGw_of 93 (by decide +kernel) (by decide +kernel), jGw_of 1365 (by decide +kernel) (by decide +kernel), ⟨by decide +kernel, by decide +kernel, by decide +kernel⟩, by decide⟩, jGw_of 1364 (by decide +kernel) (by decide +kernel)⟩
set_option maxRecDepth 100000 in
theorem NL_proposedPayment {g : jG} (n d : Nat) {x : Int32} {σ : jM} {Q : Option Value → jM → Prop} (hv : ∀ v τ, Q v τ → ∃ a : Int32, v = some (.int a)) (hc : jCon g (n + d) mX11_proposedPayment [.ref 0, .int x] σ Q) : jCoW g (n + d + 1) mL_proposedPayment hL_proposedPayment [.ref 0, .int x, .ref 352] σ (fun v τ => v = some (.int 0) ∧ ∃ (a : Int32) (τ' : jM), Q (some (.int a)) τ' ∧ τ = jupL τ' 352 0 a.toInt64) := by
  refine jCoW.of (by decide +kernel) (by simp [lg_sl, Value.category]) ?_
  refine jy_aloadn (j := 2) rfl (TL_proposedPayment.row (show jtb tL_proposedPayment 0 = _ from rfl)).1 ?_
  refine jy_iconst (v := 0) rfl (TL_proposedPayment.row (show jtb tL_proposedPayment 1 = _ from rfl)).1 ?_
  refine jy_aloadn (j := 0) rfl (TL_proposedPayment.row (show jtb tL_proposedPayment 2 = _ from rfl)).1 ?_
  refine jy_iloadn (j := 1) rfl (TL_proposedPayment.row (show jtb tL_proposedPayment 3 = _ from rfl)).1 ?_
  refine jy_callV (n' := n + d) (mt' := mX11_proposedPayment) (as := [.int x]) (r := [.int 0, .ref 352]) (ci := 11) (a := 0) jzV_ok TL_proposedPayment (show jtb tL_proposedPayment 4 = _ from rfl) kL_42 WX11_proposedPayment rfl (by decide +kernel) rfl (by omega) rfl (by simp [Value.category]) hc (fun v τ hq => ?_)
  obtain ⟨a, rfl⟩ := hv v τ hq
  refine jy_i2l (TL_proposedPayment.row (show jtb tL_proposedPayment 7 = _ from rfl)).1 ?_
  refine jy_last (a := 352) (by decide +kernel) (show jin 0 1 from ⟨by decide, by decide⟩) (TL_proposedPayment.row (show jtb tL_proposedPayment 8 = _ from rfl)).1 ?_
  refine jy_goto (tg := 15) (TL_proposedPayment.row (show jtb tL_proposedPayment 9 = _ from rfl)).1 rfl ?_
  refine jy_iconst (v := 0) rfl (TL_proposedPayment.row (show jtb tL_proposedPayment 15 = _ from rfl)).1 ?_
  exact jy_wret (Nat.zero_le _) (Nat.zero_le _) rfl ⟨rfl, a, τ, hq, rfl⟩ (TL_proposedPayment.row (show jtb tL_proposedPayment 16 = _ from rfl)).1
set_option maxRecDepth 100000 in
theorem PL_proposedPayment {g : jG} (hX : jEx g) (n : Nat) {x : Int32} {σ : jM} {P : jM → Prop} (hc : jTh g n mX11_proposedPayment [.ref 0, .int x] σ P) : jCoW g (n + 1) mL_proposedPayment hL_proposedPayment [.ref 0, .int x, .ref 352] σ (fun v τ => v = some (.int 1) ∧ P τ) := by
  refine jCoW.of (by decide +kernel) (by simp [lg_sl, Value.category]) ?_
  refine jy_aloadn (j := 2) rfl (TL_proposedPayment.row (show jtb tL_proposedPayment 0 = _ from rfl)).1 ?_
  refine jy_iconst (v := 0) rfl (TL_proposedPayment.row (show jtb tL_proposedPayment 1 = _ from rfl)).1 ?_
  refine jy_aloadn (j := 0) rfl (TL_proposedPayment.row (show jtb tL_proposedPayment 2 = _ from rfl)).1 ?_
  refine jy_iloadn (j := 1) rfl (TL_proposedPayment.row (show jtb tL_proposedPayment 3 = _ from rfl)).1 ?_
  refine jy_catch hX rfl rfl (n' := n) (mt' := mX11_proposedPayment) (as := [.int x]) (r := [.int 0, .ref 352]) (ci := 11) (a := 0) TL_proposedPayment (show jtb tL_proposedPayment 4 = _ from rfl) kL_42 WX11_proposedPayment rfl (by decide +kernel) rfl (by omega) rfl (by simp [Value.category]) (by decide +kernel) hc (ln := 1) (Or.inl ⟨(TL_proposedPayment.row (show jtb tL_proposedPayment 12 = _ from rfl)).1, rfl, by decide⟩) (fun τ hτ => ?_)
  refine jy_iconst (v := 1) rfl (TL_proposedPayment.row (show jtb tL_proposedPayment 13 = _ from rfl)).1 ?_
  exact jy_wret (Nat.le_refl _) (Nat.le_refl _) rfl ⟨rfl, hτ⟩ (TL_proposedPayment.row (show jtb tL_proposedPayment 14 = _ from rfl)).1
/-! surplus -/
abbrev mL_surplus : jMt := (yL_surplus, cL_surplus, 4, some .int)
def tL_surplus : jTb := [(0, .aload_n 2, 1, 0, 0), (1, .iconst 0, 2, 0, 0), (2, .aload_n 0, 3, 0, 0), (3, .iload_n 1, 4, 0, 0), (4, .invokevirtual 45, 7, 0, 0), (7, .i2l, 8, 0, 0), (8, .lastore, 9, 0, 0), (9, .goto 6, 12, 15, 0), (12, .astore_n 3, 13, 0, 0), (13, .iconst 1, 14, 0, 1), (14, .ireturn, 15, 0, 0), (15, .iconst 0, 16, 0, 0), (16, .ireturn, 17, 0, 0)]
def hL_surplus : List (Nat × Nat × Nat × Nat) := [(0, 9, 12, 13)]
theorem TL_surplus : jT mL_surplus [] [] tL_surplus := jT.of (cs := []) (fun _ h => absurd h List.not_mem_nil) (fun _ h => absurd h List.not_mem_nil) (fun _ h => absurd h List.not_mem_nil) (by decide +kernel) (by decide +kernel)
theorem WL_surplus : jMsW mL_surplus hL_surplus 3 := ⟨⟨jGw_of 93 (by decide +kernel) (by decide +kernel), jGw_of 1372 (by decide +kernel) (by decide +kernel), ⟨by decide +kernel, by decide +kernel, by decide +kernel⟩, by decide⟩, jGw_of 1371 (by decide +kernel) (by decide +kernel)⟩
set_option maxRecDepth 100000 in
theorem NL_surplus {g : jG} (n d : Nat) {x : Int32} {σ : jM} {Q : Option Value → jM → Prop} (hv : ∀ v τ, Q v τ → ∃ a : Int32, v = some (.int a)) (hc : jCon g (n + d) mX11_surplus [.ref 0, .int x] σ Q) : jCoW g (n + d + 1) mL_surplus hL_surplus [.ref 0, .int x, .ref 352] σ (fun v τ => v = some (.int 0) ∧ ∃ (a : Int32) (τ' : jM), Q (some (.int a)) τ' ∧ τ = jupL τ' 352 0 a.toInt64) := by
  refine jCoW.of (by decide +kernel) (by simp [lg_sl, Value.category]) ?_
  refine jy_aloadn (j := 2) rfl (TL_surplus.row (show jtb tL_surplus 0 = _ from rfl)).1 ?_
  refine jy_iconst (v := 0) rfl (TL_surplus.row (show jtb tL_surplus 1 = _ from rfl)).1 ?_
  refine jy_aloadn (j := 0) rfl (TL_surplus.row (show jtb tL_surplus 2 = _ from rfl)).1 ?_
  refine jy_iloadn (j := 1) rfl (TL_surplus.row (show jtb tL_surplus 3 = _ from rfl)).1 ?_
  refine jy_callV (n' := n + d) (mt' := mX11_surplus) (as := [.int x]) (r := [.int 0, .ref 352]) (ci := 11) (a := 0) jzV_ok TL_surplus (show jtb tL_surplus 4 = _ from rfl) kL_45 WX11_surplus rfl (by decide +kernel) rfl (by omega) rfl (by simp [Value.category]) hc (fun v τ hq => ?_)
  obtain ⟨a, rfl⟩ := hv v τ hq
  refine jy_i2l (TL_surplus.row (show jtb tL_surplus 7 = _ from rfl)).1 ?_
  refine jy_last (a := 352) (by decide +kernel) (show jin 0 1 from ⟨by decide, by decide⟩) (TL_surplus.row (show jtb tL_surplus 8 = _ from rfl)).1 ?_
  refine jy_goto (tg := 15) (TL_surplus.row (show jtb tL_surplus 9 = _ from rfl)).1 rfl ?_
  refine jy_iconst (v := 0) rfl (TL_surplus.row (show jtb tL_surplus 15 = _ from rfl)).1 ?_
  exact jy_wret (Nat.zero_le _) (Nat.zero_le _) rfl ⟨rfl, a, τ, hq, rfl⟩ (TL_surplus.row (show jtb tL_surplus 16 = _ from rfl)).1
set_option maxRecDepth 100000 in
theorem PL_surplus {g : jG} (hX : jEx g) (n : Nat) {x : Int32} {σ : jM} {P : jM → Prop} (hc : jTh g n mX11_surplus [.ref 0, .int x] σ P) : jCoW g (n + 1) mL_surplus hL_surplus [.ref 0, .int x, .ref 352] σ (fun v τ => v = some (.int 1) ∧ P τ) := by
  refine jCoW.of (by decide +kernel) (by simp [lg_sl, Value.category]) ?_
  refine jy_aloadn (j := 2) rfl (TL_surplus.row (show jtb tL_surplus 0 = _ from rfl)).1 ?_
  refine jy_iconst (v := 0) rfl (TL_surplus.row (show jtb tL_surplus 1 = _ from rfl)).1 ?_
  refine jy_aloadn (j := 0) rfl (TL_surplus.row (show jtb tL_surplus 2 = _ from rfl)).1 ?_
  refine jy_iloadn (j := 1) rfl (TL_surplus.row (show jtb tL_surplus 3 = _ from rfl)).1 ?_
  refine jy_catch hX rfl rfl (n' := n) (mt' := mX11_surplus) (as := [.int x]) (r := [.int 0, .ref 352]) (ci := 11) (a := 0) TL_surplus (show jtb tL_surplus 4 = _ from rfl) kL_45 WX11_surplus rfl (by decide +kernel) rfl (by omega) rfl (by simp [Value.category]) (by decide +kernel) hc (ln := 1) (Or.inl ⟨(TL_surplus.row (show jtb tL_surplus 12 = _ from rfl)).1, rfl, by decide⟩) (fun τ hτ => ?_)
  refine jy_iconst (v := 1) rfl (TL_surplus.row (show jtb tL_surplus 13 = _ from rfl)).1 ?_
  exact jy_wret (Nat.le_refl _) (Nat.le_refl _) rfl ⟨rfl, hτ⟩ (TL_surplus.row (show jtb tL_surplus 14 = _ from rfl)).1
/-! leastValue -/
abbrev mL_leastValue : jMt := (yL_leastValue, cL_leastValue, 5, some .int)
def tL_leastValue : jTb := [(0, .aload_n 3, 1, 0, 0), (1, .iconst 0, 2, 0, 0), (2, .aload_n 0, 3, 0, 0), (3, .iload_n 1, 4, 0, 0), (4, .iload_n 2, 5, 0, 0), (5, .invokevirtual 48, 8, 0, 0), (8, .i2l, 9, 0, 0), (9, .lastore, 10, 0, 0), (10, .goto 7, 13, 17, 0), (13, .astore 4, 15, 0, 0), (15, .iconst 1, 16, 0, 1), (16, .ireturn, 17, 0, 0), (17, .iconst 0, 18, 0, 0), (18, .ireturn, 19, 0, 0)]
def hL_leastValue : List (Nat × Nat × Nat × Nat) := [(0, 10, 13, 13)]
theorem TL_leastValue : jT mL_leastValue [] [] tL_leastValue := jT.of (cs := []) (fun _ h => absurd h List.not_mem_nil) (fun _ h => absurd h List.not_mem_nil) (fun _ h => absurd h List.not_mem_nil) (by decide +kernel) (by decide +kernel)
theorem WL_leastValue : jMsW mL_leastValue hL_leastValue 4 := ⟨⟨jGw_of 93 (by decide +kernel) (by decide +kernel), jGw_of 1380 (by decide +kernel) (by decide +kernel), ⟨by decide +kernel, by decide +kernel, by decide +kernel⟩, by decide⟩, jGw_of 1379 (by decide +kernel) (by decide +kernel)⟩
set_option maxRecDepth 100000 in
theorem NL_leastValue {g : jG} (n d : Nat) {x y : Int32} {σ : jM} {Q : Option Value → jM → Prop} (hv : ∀ v τ, Q v τ → ∃ a : Int32, v = some (.int a)) (hc : jCon g (n + d) mX11_leastValue [.ref 0, .int x, .int y] σ Q) : jCoW g (n + d + 1) mL_leastValue hL_leastValue [.ref 0, .int x, .int y, .ref 352] σ (fun v τ => v = some (.int 0) ∧ ∃ (a : Int32) (τ' : jM), Q (some (.int a)) τ' ∧ τ = jupL τ' 352 0 a.toInt64) := by
  refine jCoW.of (by decide +kernel) (by simp [lg_sl, Value.category]) ?_
  refine jy_aloadn (j := 3) rfl (TL_leastValue.row (show jtb tL_leastValue 0 = _ from rfl)).1 ?_
  refine jy_iconst (v := 0) rfl (TL_leastValue.row (show jtb tL_leastValue 1 = _ from rfl)).1 ?_
  refine jy_aloadn (j := 0) rfl (TL_leastValue.row (show jtb tL_leastValue 2 = _ from rfl)).1 ?_
  refine jy_iloadn (j := 1) rfl (TL_leastValue.row (show jtb tL_leastValue 3 = _ from rfl)).1 ?_
  refine jy_iloadn (j := 2) rfl (TL_leastValue.row (show jtb tL_leastValue 4 = _ from rfl)).1 ?_
  refine jy_callV (n' := n + d) (mt' := mX11_leastValue) (as := [.int x, .int y]) (r := [.int 0, .ref 352]) (ci := 11) (a := 0) jzV_ok TL_leastValue (show jtb tL_leastValue 5 = _ from rfl) kL_48 WX11_leastValue rfl (by decide +kernel) rfl (by omega) rfl (by simp [Value.category]) hc (fun v τ hq => ?_)
  obtain ⟨a, rfl⟩ := hv v τ hq
  refine jy_i2l (TL_leastValue.row (show jtb tL_leastValue 8 = _ from rfl)).1 ?_
  refine jy_last (a := 352) (by decide +kernel) (show jin 0 1 from ⟨by decide, by decide⟩) (TL_leastValue.row (show jtb tL_leastValue 9 = _ from rfl)).1 ?_
  refine jy_goto (tg := 17) (TL_leastValue.row (show jtb tL_leastValue 10 = _ from rfl)).1 rfl ?_
  refine jy_iconst (v := 0) rfl (TL_leastValue.row (show jtb tL_leastValue 17 = _ from rfl)).1 ?_
  exact jy_wret (Nat.zero_le _) (Nat.zero_le _) rfl ⟨rfl, a, τ, hq, rfl⟩ (TL_leastValue.row (show jtb tL_leastValue 18 = _ from rfl)).1
set_option maxRecDepth 100000 in
theorem PL_leastValue {g : jG} (hX : jEx g) (n : Nat) {x y : Int32} {σ : jM} {P : jM → Prop} (hc : jTh g n mX11_leastValue [.ref 0, .int x, .int y] σ P) : jCoW g (n + 1) mL_leastValue hL_leastValue [.ref 0, .int x, .int y, .ref 352] σ (fun v τ => v = some (.int 1) ∧ P τ) := by
  refine jCoW.of (by decide +kernel) (by simp [lg_sl, Value.category]) ?_
  refine jy_aloadn (j := 3) rfl (TL_leastValue.row (show jtb tL_leastValue 0 = _ from rfl)).1 ?_
  refine jy_iconst (v := 0) rfl (TL_leastValue.row (show jtb tL_leastValue 1 = _ from rfl)).1 ?_
  refine jy_aloadn (j := 0) rfl (TL_leastValue.row (show jtb tL_leastValue 2 = _ from rfl)).1 ?_
  refine jy_iloadn (j := 1) rfl (TL_leastValue.row (show jtb tL_leastValue 3 = _ from rfl)).1 ?_
  refine jy_iloadn (j := 2) rfl (TL_leastValue.row (show jtb tL_leastValue 4 = _ from rfl)).1 ?_
  refine jy_catch hX rfl rfl (n' := n) (mt' := mX11_leastValue) (as := [.int x, .int y]) (r := [.int 0, .ref 352]) (ci := 11) (a := 0) TL_leastValue (show jtb tL_leastValue 5 = _ from rfl) kL_48 WX11_leastValue rfl (by decide +kernel) rfl (by omega) rfl (by simp [Value.category]) (by decide +kernel) hc (ln := 2) (Or.inr ⟨(TL_leastValue.row (show jtb tL_leastValue 13 = _ from rfl)).1, rfl, by decide⟩) (fun τ hτ => ?_)
  refine jy_iconst (v := 1) rfl (TL_leastValue.row (show jtb tL_leastValue 15 = _ from rfl)).1 ?_
  exact jy_wret (Nat.le_refl _) (Nat.le_refl _) rfl ⟨rfl, hτ⟩ (TL_leastValue.row (show jtb tL_leastValue 16 = _ from rfl)).1
/-! roomOf -/
abbrev mL_roomOf : jMt := (yL_roomOf, cL_roomOf, 4, some .int)
def tL_roomOf : jTb := [(0, .aload_n 2, 1, 0, 0), (1, .iconst 0, 2, 0, 0), (2, .aload_n 0, 3, 0, 0), (3, .iload_n 1, 4, 0, 0), (4, .invokevirtual 51, 7, 0, 0), (7, .i2l, 8, 0, 0), (8, .lastore, 9, 0, 0), (9, .goto 6, 12, 15, 0), (12, .astore_n 3, 13, 0, 0), (13, .iconst 1, 14, 0, 1), (14, .ireturn, 15, 0, 0), (15, .iconst 0, 16, 0, 0), (16, .ireturn, 17, 0, 0)]
def hL_roomOf : List (Nat × Nat × Nat × Nat) := [(0, 9, 12, 13)]
theorem TL_roomOf : jT mL_roomOf [] [] tL_roomOf := jT.of (cs := []) (fun _ h => absurd h List.not_mem_nil) (fun _ h => absurd h List.not_mem_nil) (fun _ h => absurd h List.not_mem_nil) (by decide +kernel) (by decide +kernel)
theorem WL_roomOf : jMsW mL_roomOf hL_roomOf 3 := ⟨⟨jGw_of 93 (by decide +kernel) (by decide +kernel), jGw_of 1399 (by decide +kernel) (by decide +kernel), ⟨by decide +kernel, by decide +kernel, by decide +kernel⟩, by decide⟩, jGw_of 1398 (by decide +kernel) (by decide +kernel)⟩
set_option maxRecDepth 100000 in
theorem NL_roomOf {g : jG} (n d : Nat) {x : Int32} {σ : jM} {Q : Option Value → jM → Prop} (hv : ∀ v τ, Q v τ → ∃ a : Int32, v = some (.int a)) (hc : jCon g (n + d) mX11_roomOf [.ref 0, .int x] σ Q) : jCoW g (n + d + 1) mL_roomOf hL_roomOf [.ref 0, .int x, .ref 352] σ (fun v τ => v = some (.int 0) ∧ ∃ (a : Int32) (τ' : jM), Q (some (.int a)) τ' ∧ τ = jupL τ' 352 0 a.toInt64) := by
  refine jCoW.of (by decide +kernel) (by simp [lg_sl, Value.category]) ?_
  refine jy_aloadn (j := 2) rfl (TL_roomOf.row (show jtb tL_roomOf 0 = _ from rfl)).1 ?_
  refine jy_iconst (v := 0) rfl (TL_roomOf.row (show jtb tL_roomOf 1 = _ from rfl)).1 ?_
  refine jy_aloadn (j := 0) rfl (TL_roomOf.row (show jtb tL_roomOf 2 = _ from rfl)).1 ?_
  refine jy_iloadn (j := 1) rfl (TL_roomOf.row (show jtb tL_roomOf 3 = _ from rfl)).1 ?_
  refine jy_callV (n' := n + d) (mt' := mX11_roomOf) (as := [.int x]) (r := [.int 0, .ref 352]) (ci := 11) (a := 0) jzV_ok TL_roomOf (show jtb tL_roomOf 4 = _ from rfl) kL_51 WX11_roomOf rfl (by decide +kernel) rfl (by omega) rfl (by simp [Value.category]) hc (fun v τ hq => ?_)
  obtain ⟨a, rfl⟩ := hv v τ hq
  refine jy_i2l (TL_roomOf.row (show jtb tL_roomOf 7 = _ from rfl)).1 ?_
  refine jy_last (a := 352) (by decide +kernel) (show jin 0 1 from ⟨by decide, by decide⟩) (TL_roomOf.row (show jtb tL_roomOf 8 = _ from rfl)).1 ?_
  refine jy_goto (tg := 15) (TL_roomOf.row (show jtb tL_roomOf 9 = _ from rfl)).1 rfl ?_
  refine jy_iconst (v := 0) rfl (TL_roomOf.row (show jtb tL_roomOf 15 = _ from rfl)).1 ?_
  exact jy_wret (Nat.zero_le _) (Nat.zero_le _) rfl ⟨rfl, a, τ, hq, rfl⟩ (TL_roomOf.row (show jtb tL_roomOf 16 = _ from rfl)).1
set_option maxRecDepth 100000 in
theorem PL_roomOf {g : jG} (hX : jEx g) (n : Nat) {x : Int32} {σ : jM} {P : jM → Prop} (hc : jTh g n mX11_roomOf [.ref 0, .int x] σ P) : jCoW g (n + 1) mL_roomOf hL_roomOf [.ref 0, .int x, .ref 352] σ (fun v τ => v = some (.int 1) ∧ P τ) := by
  refine jCoW.of (by decide +kernel) (by simp [lg_sl, Value.category]) ?_
  refine jy_aloadn (j := 2) rfl (TL_roomOf.row (show jtb tL_roomOf 0 = _ from rfl)).1 ?_
  refine jy_iconst (v := 0) rfl (TL_roomOf.row (show jtb tL_roomOf 1 = _ from rfl)).1 ?_
  refine jy_aloadn (j := 0) rfl (TL_roomOf.row (show jtb tL_roomOf 2 = _ from rfl)).1 ?_
  refine jy_iloadn (j := 1) rfl (TL_roomOf.row (show jtb tL_roomOf 3 = _ from rfl)).1 ?_
  refine jy_catch hX rfl rfl (n' := n) (mt' := mX11_roomOf) (as := [.int x]) (r := [.int 0, .ref 352]) (ci := 11) (a := 0) TL_roomOf (show jtb tL_roomOf 4 = _ from rfl) kL_51 WX11_roomOf rfl (by decide +kernel) rfl (by omega) rfl (by simp [Value.category]) (by decide +kernel) hc (ln := 1) (Or.inl ⟨(TL_roomOf.row (show jtb tL_roomOf 12 = _ from rfl)).1, rfl, by decide⟩) (fun τ hτ => ?_)
  refine jy_iconst (v := 1) rfl (TL_roomOf.row (show jtb tL_roomOf 13 = _ from rfl)).1 ?_
  exact jy_wret (Nat.le_refl _) (Nat.le_refl _) rfl ⟨rfl, hτ⟩ (TL_roomOf.row (show jtb tL_roomOf 14 = _ from rfl)).1
/-! personIn -/
abbrev mL_personIn : jMt := (yL_personIn, cL_personIn, 4, some .int)
def tL_personIn : jTb := [(0, .aload_n 2, 1, 0, 0), (1, .iconst 0, 2, 0, 0), (2, .aload_n 0, 3, 0, 0), (3, .iload_n 1, 4, 0, 0), (4, .invokevirtual 54, 7, 0, 0), (7, .i2l, 8, 0, 0), (8, .lastore, 9, 0, 0), (9, .goto 6, 12, 15, 0), (12, .astore_n 3, 13, 0, 0), (13, .iconst 1, 14, 0, 1), (14, .ireturn, 15, 0, 0), (15, .iconst 0, 16, 0, 0), (16, .ireturn, 17, 0, 0)]
def hL_personIn : List (Nat × Nat × Nat × Nat) := [(0, 9, 12, 13)]
theorem TL_personIn : jT mL_personIn [] [] tL_personIn := jT.of (cs := []) (fun _ h => absurd h List.not_mem_nil) (fun _ h => absurd h List.not_mem_nil) (fun _ h => absurd h List.not_mem_nil) (by decide +kernel) (by decide +kernel)
theorem WL_personIn : jMsW mL_personIn hL_personIn 3 := ⟨⟨jGw_of 93 (by decide +kernel) (by decide +kernel), jGw_of 1406 (by decide +kernel) (by decide +kernel), ⟨by decide +kernel, by decide +kernel, by decide +kernel⟩, by decide⟩, jGw_of 1405 (by decide +kernel) (by decide +kernel)⟩
set_option maxRecDepth 100000 in
theorem NL_personIn {g : jG} (n d : Nat) {x : Int32} {σ : jM} {Q : Option Value → jM → Prop} (hv : ∀ v τ, Q v τ → ∃ a : Int32, v = some (.int a)) (hc : jCon g (n + d) mX11_personIn [.ref 0, .int x] σ Q) : jCoW g (n + d + 1) mL_personIn hL_personIn [.ref 0, .int x, .ref 352] σ (fun v τ => v = some (.int 0) ∧ ∃ (a : Int32) (τ' : jM), Q (some (.int a)) τ' ∧ τ = jupL τ' 352 0 a.toInt64) := by
  refine jCoW.of (by decide +kernel) (by simp [lg_sl, Value.category]) ?_
  refine jy_aloadn (j := 2) rfl (TL_personIn.row (show jtb tL_personIn 0 = _ from rfl)).1 ?_
  refine jy_iconst (v := 0) rfl (TL_personIn.row (show jtb tL_personIn 1 = _ from rfl)).1 ?_
  refine jy_aloadn (j := 0) rfl (TL_personIn.row (show jtb tL_personIn 2 = _ from rfl)).1 ?_
  refine jy_iloadn (j := 1) rfl (TL_personIn.row (show jtb tL_personIn 3 = _ from rfl)).1 ?_
  refine jy_callV (n' := n + d) (mt' := mX11_personIn) (as := [.int x]) (r := [.int 0, .ref 352]) (ci := 11) (a := 0) jzV_ok TL_personIn (show jtb tL_personIn 4 = _ from rfl) kL_54 WX11_personIn rfl (by decide +kernel) rfl (by omega) rfl (by simp [Value.category]) hc (fun v τ hq => ?_)
  obtain ⟨a, rfl⟩ := hv v τ hq
  refine jy_i2l (TL_personIn.row (show jtb tL_personIn 7 = _ from rfl)).1 ?_
  refine jy_last (a := 352) (by decide +kernel) (show jin 0 1 from ⟨by decide, by decide⟩) (TL_personIn.row (show jtb tL_personIn 8 = _ from rfl)).1 ?_
  refine jy_goto (tg := 15) (TL_personIn.row (show jtb tL_personIn 9 = _ from rfl)).1 rfl ?_
  refine jy_iconst (v := 0) rfl (TL_personIn.row (show jtb tL_personIn 15 = _ from rfl)).1 ?_
  exact jy_wret (Nat.zero_le _) (Nat.zero_le _) rfl ⟨rfl, a, τ, hq, rfl⟩ (TL_personIn.row (show jtb tL_personIn 16 = _ from rfl)).1
set_option maxRecDepth 100000 in
theorem PL_personIn {g : jG} (hX : jEx g) (n : Nat) {x : Int32} {σ : jM} {P : jM → Prop} (hc : jTh g n mX11_personIn [.ref 0, .int x] σ P) : jCoW g (n + 1) mL_personIn hL_personIn [.ref 0, .int x, .ref 352] σ (fun v τ => v = some (.int 1) ∧ P τ) := by
  refine jCoW.of (by decide +kernel) (by simp [lg_sl, Value.category]) ?_
  refine jy_aloadn (j := 2) rfl (TL_personIn.row (show jtb tL_personIn 0 = _ from rfl)).1 ?_
  refine jy_iconst (v := 0) rfl (TL_personIn.row (show jtb tL_personIn 1 = _ from rfl)).1 ?_
  refine jy_aloadn (j := 0) rfl (TL_personIn.row (show jtb tL_personIn 2 = _ from rfl)).1 ?_
  refine jy_iloadn (j := 1) rfl (TL_personIn.row (show jtb tL_personIn 3 = _ from rfl)).1 ?_
  refine jy_catch hX rfl rfl (n' := n) (mt' := mX11_personIn) (as := [.int x]) (r := [.int 0, .ref 352]) (ci := 11) (a := 0) TL_personIn (show jtb tL_personIn 4 = _ from rfl) kL_54 WX11_personIn rfl (by decide +kernel) rfl (by omega) rfl (by simp [Value.category]) (by decide +kernel) hc (ln := 1) (Or.inl ⟨(TL_personIn.row (show jtb tL_personIn 12 = _ from rfl)).1, rfl, by decide⟩) (fun τ hτ => ?_)
  refine jy_iconst (v := 1) rfl (TL_personIn.row (show jtb tL_personIn 13 = _ from rfl)).1 ?_
  exact jy_wret (Nat.le_refl _) (Nat.le_refl _) rfl ⟨rfl, hτ⟩ (TL_personIn.row (show jtb tL_personIn 14 = _ from rfl)).1
/-! payment -/
abbrev mL_payment : jMt := (yL_payment, cL_payment, 4, some .int)
def tL_payment : jTb := [(0, .aload_n 2, 1, 0, 0), (1, .iconst 0, 2, 0, 0), (2, .aload_n 0, 3, 0, 0), (3, .iload_n 1, 4, 0, 0), (4, .invokevirtual 57, 7, 0, 0), (7, .i2l, 8, 0, 0), (8, .lastore, 9, 0, 0), (9, .goto 6, 12, 15, 0), (12, .astore_n 3, 13, 0, 0), (13, .iconst 1, 14, 0, 1), (14, .ireturn, 15, 0, 0), (15, .iconst 0, 16, 0, 0), (16, .ireturn, 17, 0, 0)]
def hL_payment : List (Nat × Nat × Nat × Nat) := [(0, 9, 12, 13)]
theorem TL_payment : jT mL_payment [] [] tL_payment := jT.of (cs := []) (fun _ h => absurd h List.not_mem_nil) (fun _ h => absurd h List.not_mem_nil) (fun _ h => absurd h List.not_mem_nil) (by decide +kernel) (by decide +kernel)
theorem WL_payment : jMsW mL_payment hL_payment 3 := ⟨⟨jGw_of 93 (by decide +kernel) (by decide +kernel), jGw_of 1413 (by decide +kernel) (by decide +kernel), ⟨by decide +kernel, by decide +kernel, by decide +kernel⟩, by decide⟩, jGw_of 1412 (by decide +kernel) (by decide +kernel)⟩
set_option maxRecDepth 100000 in
theorem NL_payment {g : jG} (n d : Nat) {x : Int32} {σ : jM} {Q : Option Value → jM → Prop} (hv : ∀ v τ, Q v τ → ∃ a : Int32, v = some (.int a)) (hc : jCon g (n + d) mX11_payment [.ref 0, .int x] σ Q) : jCoW g (n + d + 1) mL_payment hL_payment [.ref 0, .int x, .ref 352] σ (fun v τ => v = some (.int 0) ∧ ∃ (a : Int32) (τ' : jM), Q (some (.int a)) τ' ∧ τ = jupL τ' 352 0 a.toInt64) := by
  refine jCoW.of (by decide +kernel) (by simp [lg_sl, Value.category]) ?_
  refine jy_aloadn (j := 2) rfl (TL_payment.row (show jtb tL_payment 0 = _ from rfl)).1 ?_
  refine jy_iconst (v := 0) rfl (TL_payment.row (show jtb tL_payment 1 = _ from rfl)).1 ?_
  refine jy_aloadn (j := 0) rfl (TL_payment.row (show jtb tL_payment 2 = _ from rfl)).1 ?_
  refine jy_iloadn (j := 1) rfl (TL_payment.row (show jtb tL_payment 3 = _ from rfl)).1 ?_
  refine jy_callV (n' := n + d) (mt' := mX11_payment) (as := [.int x]) (r := [.int 0, .ref 352]) (ci := 11) (a := 0) jzV_ok TL_payment (show jtb tL_payment 4 = _ from rfl) kL_57 WX11_payment rfl (by decide +kernel) rfl (by omega) rfl (by simp [Value.category]) hc (fun v τ hq => ?_)
  obtain ⟨a, rfl⟩ := hv v τ hq
  refine jy_i2l (TL_payment.row (show jtb tL_payment 7 = _ from rfl)).1 ?_
  refine jy_last (a := 352) (by decide +kernel) (show jin 0 1 from ⟨by decide, by decide⟩) (TL_payment.row (show jtb tL_payment 8 = _ from rfl)).1 ?_
  refine jy_goto (tg := 15) (TL_payment.row (show jtb tL_payment 9 = _ from rfl)).1 rfl ?_
  refine jy_iconst (v := 0) rfl (TL_payment.row (show jtb tL_payment 15 = _ from rfl)).1 ?_
  exact jy_wret (Nat.zero_le _) (Nat.zero_le _) rfl ⟨rfl, a, τ, hq, rfl⟩ (TL_payment.row (show jtb tL_payment 16 = _ from rfl)).1
set_option maxRecDepth 100000 in
theorem PL_payment {g : jG} (hX : jEx g) (n : Nat) {x : Int32} {σ : jM} {P : jM → Prop} (hc : jTh g n mX11_payment [.ref 0, .int x] σ P) : jCoW g (n + 1) mL_payment hL_payment [.ref 0, .int x, .ref 352] σ (fun v τ => v = some (.int 1) ∧ P τ) := by
  refine jCoW.of (by decide +kernel) (by simp [lg_sl, Value.category]) ?_
  refine jy_aloadn (j := 2) rfl (TL_payment.row (show jtb tL_payment 0 = _ from rfl)).1 ?_
  refine jy_iconst (v := 0) rfl (TL_payment.row (show jtb tL_payment 1 = _ from rfl)).1 ?_
  refine jy_aloadn (j := 0) rfl (TL_payment.row (show jtb tL_payment 2 = _ from rfl)).1 ?_
  refine jy_iloadn (j := 1) rfl (TL_payment.row (show jtb tL_payment 3 = _ from rfl)).1 ?_
  refine jy_catch hX rfl rfl (n' := n) (mt' := mX11_payment) (as := [.int x]) (r := [.int 0, .ref 352]) (ci := 11) (a := 0) TL_payment (show jtb tL_payment 4 = _ from rfl) kL_57 WX11_payment rfl (by decide +kernel) rfl (by omega) rfl (by simp [Value.category]) (by decide +kernel) hc (ln := 1) (Or.inl ⟨(TL_payment.row (show jtb tL_payment 12 = _ from rfl)).1, rfl, by decide⟩) (fun τ hτ => ?_)
  refine jy_iconst (v := 1) rfl (TL_payment.row (show jtb tL_payment 13 = _ from rfl)).1 ?_
  exact jy_wret (Nat.le_refl _) (Nat.le_refl _) rfl ⟨rfl, hτ⟩ (TL_payment.row (show jtb tL_payment 14 = _ from rfl)).1
/-! envyOf -/
abbrev mL_envyOf : jMt := (yL_envyOf, cL_envyOf, 5, some .int)
def tL_envyOf : jTb := [(0, .aload_n 3, 1, 0, 0), (1, .iconst 0, 2, 0, 0), (2, .aload_n 0, 3, 0, 0), (3, .iload_n 1, 4, 0, 0), (4, .iload_n 2, 5, 0, 0), (5, .invokevirtual 60, 8, 0, 0), (8, .i2l, 9, 0, 0), (9, .lastore, 10, 0, 0), (10, .goto 7, 13, 17, 0), (13, .astore 4, 15, 0, 0), (15, .iconst 1, 16, 0, 1), (16, .ireturn, 17, 0, 0), (17, .iconst 0, 18, 0, 0), (18, .ireturn, 19, 0, 0)]
def hL_envyOf : List (Nat × Nat × Nat × Nat) := [(0, 10, 13, 13)]
theorem TL_envyOf : jT mL_envyOf [] [] tL_envyOf := jT.of (cs := []) (fun _ h => absurd h List.not_mem_nil) (fun _ h => absurd h List.not_mem_nil) (fun _ h => absurd h List.not_mem_nil) (by decide +kernel) (by decide +kernel)
theorem WL_envyOf : jMsW mL_envyOf hL_envyOf 4 := ⟨⟨jGw_of 93 (by decide +kernel) (by decide +kernel), jGw_of 1420 (by decide +kernel) (by decide +kernel), ⟨by decide +kernel, by decide +kernel, by decide +kernel⟩, by decide⟩, jGw_of 1419 (by decide +kernel) (by decide +kernel)⟩
set_option maxRecDepth 100000 in
theorem NL_envyOf {g : jG} (n d : Nat) {x y : Int32} {σ : jM} {Q : Option Value → jM → Prop} (hv : ∀ v τ, Q v τ → ∃ a : Int32, v = some (.int a)) (hc : jCon g (n + d) mX11_envyOf [.ref 0, .int x, .int y] σ Q) : jCoW g (n + d + 1) mL_envyOf hL_envyOf [.ref 0, .int x, .int y, .ref 352] σ (fun v τ => v = some (.int 0) ∧ ∃ (a : Int32) (τ' : jM), Q (some (.int a)) τ' ∧ τ = jupL τ' 352 0 a.toInt64) := by
  refine jCoW.of (by decide +kernel) (by simp [lg_sl, Value.category]) ?_
  refine jy_aloadn (j := 3) rfl (TL_envyOf.row (show jtb tL_envyOf 0 = _ from rfl)).1 ?_
  refine jy_iconst (v := 0) rfl (TL_envyOf.row (show jtb tL_envyOf 1 = _ from rfl)).1 ?_
  refine jy_aloadn (j := 0) rfl (TL_envyOf.row (show jtb tL_envyOf 2 = _ from rfl)).1 ?_
  refine jy_iloadn (j := 1) rfl (TL_envyOf.row (show jtb tL_envyOf 3 = _ from rfl)).1 ?_
  refine jy_iloadn (j := 2) rfl (TL_envyOf.row (show jtb tL_envyOf 4 = _ from rfl)).1 ?_
  refine jy_callV (n' := n + d) (mt' := mX11_envyOf) (as := [.int x, .int y]) (r := [.int 0, .ref 352]) (ci := 11) (a := 0) jzV_ok TL_envyOf (show jtb tL_envyOf 5 = _ from rfl) kL_60 WX11_envyOf rfl (by decide +kernel) rfl (by omega) rfl (by simp [Value.category]) hc (fun v τ hq => ?_)
  obtain ⟨a, rfl⟩ := hv v τ hq
  refine jy_i2l (TL_envyOf.row (show jtb tL_envyOf 8 = _ from rfl)).1 ?_
  refine jy_last (a := 352) (by decide +kernel) (show jin 0 1 from ⟨by decide, by decide⟩) (TL_envyOf.row (show jtb tL_envyOf 9 = _ from rfl)).1 ?_
  refine jy_goto (tg := 17) (TL_envyOf.row (show jtb tL_envyOf 10 = _ from rfl)).1 rfl ?_
  refine jy_iconst (v := 0) rfl (TL_envyOf.row (show jtb tL_envyOf 17 = _ from rfl)).1 ?_
  exact jy_wret (Nat.zero_le _) (Nat.zero_le _) rfl ⟨rfl, a, τ, hq, rfl⟩ (TL_envyOf.row (show jtb tL_envyOf 18 = _ from rfl)).1
set_option maxRecDepth 100000 in
theorem PL_envyOf {g : jG} (hX : jEx g) (n : Nat) {x y : Int32} {σ : jM} {P : jM → Prop} (hc : jTh g n mX11_envyOf [.ref 0, .int x, .int y] σ P) : jCoW g (n + 1) mL_envyOf hL_envyOf [.ref 0, .int x, .int y, .ref 352] σ (fun v τ => v = some (.int 1) ∧ P τ) := by
  refine jCoW.of (by decide +kernel) (by simp [lg_sl, Value.category]) ?_
  refine jy_aloadn (j := 3) rfl (TL_envyOf.row (show jtb tL_envyOf 0 = _ from rfl)).1 ?_
  refine jy_iconst (v := 0) rfl (TL_envyOf.row (show jtb tL_envyOf 1 = _ from rfl)).1 ?_
  refine jy_aloadn (j := 0) rfl (TL_envyOf.row (show jtb tL_envyOf 2 = _ from rfl)).1 ?_
  refine jy_iloadn (j := 1) rfl (TL_envyOf.row (show jtb tL_envyOf 3 = _ from rfl)).1 ?_
  refine jy_iloadn (j := 2) rfl (TL_envyOf.row (show jtb tL_envyOf 4 = _ from rfl)).1 ?_
  refine jy_catch hX rfl rfl (n' := n) (mt' := mX11_envyOf) (as := [.int x, .int y]) (r := [.int 0, .ref 352]) (ci := 11) (a := 0) TL_envyOf (show jtb tL_envyOf 5 = _ from rfl) kL_60 WX11_envyOf rfl (by decide +kernel) rfl (by omega) rfl (by simp [Value.category]) (by decide +kernel) hc (ln := 2) (Or.inr ⟨(TL_envyOf.row (show jtb tL_envyOf 13 = _ from rfl)).1, rfl, by decide⟩) (fun τ hτ => ?_)
  refine jy_iconst (v := 1) rfl (TL_envyOf.row (show jtb tL_envyOf 15 = _ from rfl)).1 ?_
  exact jy_wret (Nat.le_refl _) (Nat.le_refl _) rfl ⟨rfl, hτ⟩ (TL_envyOf.row (show jtb tL_envyOf 16 = _ from rfl)).1
/-! enviers -/
abbrev mL_enviers : jMt := (yL_enviers, cL_enviers, 4, some .int)
def tL_enviers : jTb := [(0, .aload_n 2, 1, 0, 0), (1, .iconst 0, 2, 0, 0), (2, .aload_n 0, 3, 0, 0), (3, .iload_n 1, 4, 0, 0), (4, .invokevirtual 63, 7, 0, 0), (7, .i2l, 8, 0, 0), (8, .lastore, 9, 0, 0), (9, .goto 6, 12, 15, 0), (12, .astore_n 3, 13, 0, 0), (13, .iconst 1, 14, 0, 1), (14, .ireturn, 15, 0, 0), (15, .iconst 0, 16, 0, 0), (16, .ireturn, 17, 0, 0)]
def hL_enviers : List (Nat × Nat × Nat × Nat) := [(0, 9, 12, 13)]
theorem TL_enviers : jT mL_enviers [] [] tL_enviers := jT.of (cs := []) (fun _ h => absurd h List.not_mem_nil) (fun _ h => absurd h List.not_mem_nil) (fun _ h => absurd h List.not_mem_nil) (by decide +kernel) (by decide +kernel)
theorem WL_enviers : jMsW mL_enviers hL_enviers 3 := ⟨⟨jGw_of 93 (by decide +kernel) (by decide +kernel), jGw_of 1428 (by decide +kernel) (by decide +kernel), ⟨by decide +kernel, by decide +kernel, by decide +kernel⟩, by decide⟩, jGw_of 1427 (by decide +kernel) (by decide +kernel)⟩
set_option maxRecDepth 100000 in
theorem NL_enviers {g : jG} (n d : Nat) {x : Int32} {σ : jM} {Q : Option Value → jM → Prop} (hv : ∀ v τ, Q v τ → ∃ a : Int32, v = some (.int a)) (hc : jCon g (n + d) mX11_enviers [.ref 0, .int x] σ Q) : jCoW g (n + d + 1) mL_enviers hL_enviers [.ref 0, .int x, .ref 352] σ (fun v τ => v = some (.int 0) ∧ ∃ (a : Int32) (τ' : jM), Q (some (.int a)) τ' ∧ τ = jupL τ' 352 0 a.toInt64) := by
  refine jCoW.of (by decide +kernel) (by simp [lg_sl, Value.category]) ?_
  refine jy_aloadn (j := 2) rfl (TL_enviers.row (show jtb tL_enviers 0 = _ from rfl)).1 ?_
  refine jy_iconst (v := 0) rfl (TL_enviers.row (show jtb tL_enviers 1 = _ from rfl)).1 ?_
  refine jy_aloadn (j := 0) rfl (TL_enviers.row (show jtb tL_enviers 2 = _ from rfl)).1 ?_
  refine jy_iloadn (j := 1) rfl (TL_enviers.row (show jtb tL_enviers 3 = _ from rfl)).1 ?_
  refine jy_callV (n' := n + d) (mt' := mX11_enviers) (as := [.int x]) (r := [.int 0, .ref 352]) (ci := 11) (a := 0) jzV_ok TL_enviers (show jtb tL_enviers 4 = _ from rfl) kL_63 WX11_enviers rfl (by decide +kernel) rfl (by omega) rfl (by simp [Value.category]) hc (fun v τ hq => ?_)
  obtain ⟨a, rfl⟩ := hv v τ hq
  refine jy_i2l (TL_enviers.row (show jtb tL_enviers 7 = _ from rfl)).1 ?_
  refine jy_last (a := 352) (by decide +kernel) (show jin 0 1 from ⟨by decide, by decide⟩) (TL_enviers.row (show jtb tL_enviers 8 = _ from rfl)).1 ?_
  refine jy_goto (tg := 15) (TL_enviers.row (show jtb tL_enviers 9 = _ from rfl)).1 rfl ?_
  refine jy_iconst (v := 0) rfl (TL_enviers.row (show jtb tL_enviers 15 = _ from rfl)).1 ?_
  exact jy_wret (Nat.zero_le _) (Nat.zero_le _) rfl ⟨rfl, a, τ, hq, rfl⟩ (TL_enviers.row (show jtb tL_enviers 16 = _ from rfl)).1
set_option maxRecDepth 100000 in
theorem PL_enviers {g : jG} (hX : jEx g) (n : Nat) {x : Int32} {σ : jM} {P : jM → Prop} (hc : jTh g n mX11_enviers [.ref 0, .int x] σ P) : jCoW g (n + 1) mL_enviers hL_enviers [.ref 0, .int x, .ref 352] σ (fun v τ => v = some (.int 1) ∧ P τ) := by
  refine jCoW.of (by decide +kernel) (by simp [lg_sl, Value.category]) ?_
  refine jy_aloadn (j := 2) rfl (TL_enviers.row (show jtb tL_enviers 0 = _ from rfl)).1 ?_
  refine jy_iconst (v := 0) rfl (TL_enviers.row (show jtb tL_enviers 1 = _ from rfl)).1 ?_
  refine jy_aloadn (j := 0) rfl (TL_enviers.row (show jtb tL_enviers 2 = _ from rfl)).1 ?_
  refine jy_iloadn (j := 1) rfl (TL_enviers.row (show jtb tL_enviers 3 = _ from rfl)).1 ?_
  refine jy_catch hX rfl rfl (n' := n) (mt' := mX11_enviers) (as := [.int x]) (r := [.int 0, .ref 352]) (ci := 11) (a := 0) TL_enviers (show jtb tL_enviers 4 = _ from rfl) kL_63 WX11_enviers rfl (by decide +kernel) rfl (by omega) rfl (by simp [Value.category]) (by decide +kernel) hc (ln := 1) (Or.inl ⟨(TL_enviers.row (show jtb tL_enviers 12 = _ from rfl)).1, rfl, by decide⟩) (fun τ hτ => ?_)
  refine jy_iconst (v := 1) rfl (TL_enviers.row (show jtb tL_enviers 13 = _ from rfl)).1 ?_
  exact jy_wret (Nat.le_refl _) (Nat.le_refl _) rfl ⟨rfl, hτ⟩ (TL_enviers.row (show jtb tL_enviers 14 = _ from rfl)).1
/-! wouldSwap -/
abbrev mL_wouldSwap : jMt := (yL_wouldSwap, cL_wouldSwap, 5, some .int)
def tL_wouldSwap : jTb := [(0, .aload_n 3, 1, 0, 0), (1, .iconst 0, 2, 0, 0), (2, .aload_n 0, 3, 0, 0), (3, .iload_n 1, 4, 0, 0), (4, .iload_n 2, 5, 0, 0), (5, .invokevirtual 66, 8, 0, 0), (8, .ifCond .eq 7, 11, 15, 0), (11, .lconst 1, 12, 0, 0), (12, .goto 4, 15, 16, 0), (15, .lconst 0, 16, 0, 0), (16, .lastore, 17, 0, 0), (17, .goto 7, 20, 24, 0), (20, .astore 4, 22, 0, 0), (22, .iconst 1, 23, 0, 1), (23, .ireturn, 24, 0, 0), (24, .iconst 0, 25, 0, 0), (25, .ireturn, 26, 0, 0)]
def hL_wouldSwap : List (Nat × Nat × Nat × Nat) := [(0, 17, 20, 13)]
theorem TL_wouldSwap : jT mL_wouldSwap [] [] tL_wouldSwap := jT.of (cs := []) (fun _ h => absurd h List.not_mem_nil) (fun _ h => absurd h List.not_mem_nil) (fun _ h => absurd h List.not_mem_nil) (by decide +kernel) (by decide +kernel)
theorem WL_wouldSwap : jMsW mL_wouldSwap hL_wouldSwap 4 := ⟨⟨jGw_of 93 (by decide +kernel) (by decide +kernel), jGw_of 1435 (by decide +kernel) (by decide +kernel), ⟨by decide +kernel, by decide +kernel, by decide +kernel⟩, by decide⟩, jGw_of 1434 (by decide +kernel) (by decide +kernel)⟩
set_option maxRecDepth 100000 in
theorem NL_wouldSwap {g : jG} (n d : Nat) {x y : Int32} {σ : jM} {Q : Option Value → jM → Prop} (hv : ∀ v τ, Q v τ → ∃ a : Int32, v = some (.int a)) (hc : jCon g (n + d) mX11_wouldSwap [.ref 0, .int x, .int y] σ Q) : jCoW g (n + d + 1) mL_wouldSwap hL_wouldSwap [.ref 0, .int x, .int y, .ref 352] σ (fun v τ => v = some (.int 0) ∧ ∃ (a : Int32) (τ' : jM), Q (some (.int a)) τ' ∧ τ = jupL τ' 352 0 (if a = 0 then 0 else 1)) := by
  refine jCoW.of (by decide +kernel) (by simp [lg_sl, Value.category]) ?_
  refine jy_aloadn (j := 3) rfl (TL_wouldSwap.row (show jtb tL_wouldSwap 0 = _ from rfl)).1 ?_
  refine jy_iconst (v := 0) rfl (TL_wouldSwap.row (show jtb tL_wouldSwap 1 = _ from rfl)).1 ?_
  refine jy_aloadn (j := 0) rfl (TL_wouldSwap.row (show jtb tL_wouldSwap 2 = _ from rfl)).1 ?_
  refine jy_iloadn (j := 1) rfl (TL_wouldSwap.row (show jtb tL_wouldSwap 3 = _ from rfl)).1 ?_
  refine jy_iloadn (j := 2) rfl (TL_wouldSwap.row (show jtb tL_wouldSwap 4 = _ from rfl)).1 ?_
  refine jy_callV (n' := n + d) (mt' := mX11_wouldSwap) (as := [.int x, .int y]) (r := [.int 0, .ref 352]) (ci := 11) (a := 0) jzV_ok TL_wouldSwap (show jtb tL_wouldSwap 5 = _ from rfl) kL_66 WX11_wouldSwap rfl (by decide +kernel) rfl (by omega) rfl (by simp [Value.category]) hc (fun v τ hq => ?_)
  obtain ⟨a, rfl⟩ := hv v τ hq
  by_cases ha : a = 0
  · refine jy_if (tg := 15) (TL_wouldSwap.row (show jtb tL_wouldSwap 8 = _ from rfl)).1 rfl ⟨fun _ => ?_, fun h => absurd ha h⟩
    refine jy_lconst (v := 0) rfl (TL_wouldSwap.row (show jtb tL_wouldSwap 15 = _ from rfl)).1 ?_
    refine jy_last (a := 352) (x := 0) (by decide +kernel) (show jin 0 1 from ⟨by decide, by decide⟩) (TL_wouldSwap.row (show jtb tL_wouldSwap 16 = _ from rfl)).1 ?_
    refine jy_goto (tg := 24) (TL_wouldSwap.row (show jtb tL_wouldSwap 17 = _ from rfl)).1 rfl ?_
    refine jy_iconst (v := 0) rfl (TL_wouldSwap.row (show jtb tL_wouldSwap 24 = _ from rfl)).1 ?_
    exact jy_wret (Nat.zero_le _) (Nat.zero_le _) rfl ⟨rfl, a, τ, hq, by rw [if_pos ha]; rfl⟩ (TL_wouldSwap.row (show jtb tL_wouldSwap 25 = _ from rfl)).1
  · refine jy_if (tg := 15) (TL_wouldSwap.row (show jtb tL_wouldSwap 8 = _ from rfl)).1 rfl ⟨fun h => absurd h ha, fun _ => ?_⟩
    refine jy_lconst (v := 1) rfl (TL_wouldSwap.row (show jtb tL_wouldSwap 11 = _ from rfl)).1 ?_
    refine jy_goto (tg := 16) (TL_wouldSwap.row (show jtb tL_wouldSwap 12 = _ from rfl)).1 rfl ?_
    refine jy_last (a := 352) (x := 1) (by decide +kernel) (show jin 0 1 from ⟨by decide, by decide⟩) (TL_wouldSwap.row (show jtb tL_wouldSwap 16 = _ from rfl)).1 ?_
    refine jy_goto (tg := 24) (TL_wouldSwap.row (show jtb tL_wouldSwap 17 = _ from rfl)).1 rfl ?_
    refine jy_iconst (v := 0) rfl (TL_wouldSwap.row (show jtb tL_wouldSwap 24 = _ from rfl)).1 ?_
    exact jy_wret (Nat.zero_le _) (Nat.zero_le _) rfl ⟨rfl, a, τ, hq, by rw [if_neg ha]; rfl⟩ (TL_wouldSwap.row (show jtb tL_wouldSwap 25 = _ from rfl)).1
set_option maxRecDepth 100000 in
theorem PL_wouldSwap {g : jG} (hX : jEx g) (n : Nat) {x y : Int32} {σ : jM} {P : jM → Prop} (hc : jTh g n mX11_wouldSwap [.ref 0, .int x, .int y] σ P) : jCoW g (n + 1) mL_wouldSwap hL_wouldSwap [.ref 0, .int x, .int y, .ref 352] σ (fun v τ => v = some (.int 1) ∧ P τ) := by
  refine jCoW.of (by decide +kernel) (by simp [lg_sl, Value.category]) ?_
  refine jy_aloadn (j := 3) rfl (TL_wouldSwap.row (show jtb tL_wouldSwap 0 = _ from rfl)).1 ?_
  refine jy_iconst (v := 0) rfl (TL_wouldSwap.row (show jtb tL_wouldSwap 1 = _ from rfl)).1 ?_
  refine jy_aloadn (j := 0) rfl (TL_wouldSwap.row (show jtb tL_wouldSwap 2 = _ from rfl)).1 ?_
  refine jy_iloadn (j := 1) rfl (TL_wouldSwap.row (show jtb tL_wouldSwap 3 = _ from rfl)).1 ?_
  refine jy_iloadn (j := 2) rfl (TL_wouldSwap.row (show jtb tL_wouldSwap 4 = _ from rfl)).1 ?_
  refine jy_catch hX rfl rfl (n' := n) (mt' := mX11_wouldSwap) (as := [.int x, .int y]) (r := [.int 0, .ref 352]) (ci := 11) (a := 0) TL_wouldSwap (show jtb tL_wouldSwap 5 = _ from rfl) kL_66 WX11_wouldSwap rfl (by decide +kernel) rfl (by omega) rfl (by simp [Value.category]) (by decide +kernel) hc (ln := 2) (Or.inr ⟨(TL_wouldSwap.row (show jtb tL_wouldSwap 20 = _ from rfl)).1, rfl, by decide⟩) (fun τ hτ => ?_)
  refine jy_iconst (v := 1) rfl (TL_wouldSwap.row (show jtb tL_wouldSwap 22 = _ from rfl)).1 ?_
  exact jy_wret (Nat.le_refl _) (Nat.le_refl _) rfl ⟨rfl, hτ⟩ (TL_wouldSwap.row (show jtb tL_wouldSwap 23 = _ from rfl)).1
/-! burden -/
abbrev mL_burden : jMt := (yL_burden, cL_burden, 4, some .int)
def tL_burden : jTb := [(0, .aload_n 2, 1, 0, 0), (1, .iconst 0, 2, 0, 0), (2, .aload_n 0, 3, 0, 0), (3, .iload_n 1, 4, 0, 0), (4, .invokevirtual 69, 7, 0, 0), (7, .dastore, 8, 0, 0), (8, .goto 6, 11, 14, 0), (11, .astore_n 3, 12, 0, 0), (12, .iconst 1, 13, 0, 1), (13, .ireturn, 14, 0, 0), (14, .iconst 0, 15, 0, 0), (15, .ireturn, 16, 0, 0)]
def hL_burden : List (Nat × Nat × Nat × Nat) := [(0, 8, 11, 13)]
theorem TL_burden : jT mL_burden [] [] tL_burden := jT.of (cs := []) (fun _ h => absurd h List.not_mem_nil) (fun _ h => absurd h List.not_mem_nil) (fun _ h => absurd h List.not_mem_nil) (by decide +kernel) (by decide +kernel)
theorem WL_burden : jMsW mL_burden hL_burden 3 := ⟨⟨jGw_of 93 (by decide +kernel) (by decide +kernel), jGw_of 1442 (by decide +kernel) (by decide +kernel), ⟨by decide +kernel, by decide +kernel, by decide +kernel⟩, by decide⟩, jGw_of 1441 (by decide +kernel) (by decide +kernel)⟩
set_option maxRecDepth 100000 in
theorem NL_burden {g : jG} (n d : Nat) {x : Int32} {σ : jM} {Q : Option Value → jM → Prop} (hv : ∀ v τ, Q v τ → ∃ a : UInt64, v = some (.double a)) (hc : jCon g (n + d) mX11_burden [.ref 0, .int x] σ Q) : jCoW g (n + d + 1) mL_burden hL_burden [.ref 0, .int x, .ref 353] σ (fun v τ => v = some (.int 0) ∧ ∃ (a : UInt64) (τ' : jM), Q (some (.double a)) τ' ∧ τ = jupD τ' 353 0 a) := by
  refine jCoW.of (by decide +kernel) (by simp [lg_sl, Value.category]) ?_
  refine jy_aloadn (j := 2) rfl (TL_burden.row (show jtb tL_burden 0 = _ from rfl)).1 ?_
  refine jy_iconst (v := 0) rfl (TL_burden.row (show jtb tL_burden 1 = _ from rfl)).1 ?_
  refine jy_aloadn (j := 0) rfl (TL_burden.row (show jtb tL_burden 2 = _ from rfl)).1 ?_
  refine jy_iloadn (j := 1) rfl (TL_burden.row (show jtb tL_burden 3 = _ from rfl)).1 ?_
  refine jy_callV (n' := n + d) (mt' := mX11_burden) (as := [.int x]) (r := [.int 0, .ref 353]) (ci := 11) (a := 0) jzV_ok TL_burden (show jtb tL_burden 4 = _ from rfl) kL_69 WX11_burden rfl (by decide +kernel) rfl (by omega) rfl (by simp [Value.category]) hc (fun v τ hq => ?_)
  obtain ⟨a, rfl⟩ := hv v τ hq
  refine jy_dast (a := 353) (by decide +kernel) (show jin 0 1 from ⟨by decide, by decide⟩) (TL_burden.row (show jtb tL_burden 7 = _ from rfl)).1 ?_
  refine jy_goto (tg := 14) (TL_burden.row (show jtb tL_burden 8 = _ from rfl)).1 rfl ?_
  refine jy_iconst (v := 0) rfl (TL_burden.row (show jtb tL_burden 14 = _ from rfl)).1 ?_
  exact jy_wret (Nat.zero_le _) (Nat.zero_le _) rfl ⟨rfl, a, τ, hq, rfl⟩ (TL_burden.row (show jtb tL_burden 15 = _ from rfl)).1
set_option maxRecDepth 100000 in
theorem PL_burden {g : jG} (hX : jEx g) (n : Nat) {x : Int32} {σ : jM} {P : jM → Prop} (hc : jTh g n mX11_burden [.ref 0, .int x] σ P) : jCoW g (n + 1) mL_burden hL_burden [.ref 0, .int x, .ref 353] σ (fun v τ => v = some (.int 1) ∧ P τ) := by
  refine jCoW.of (by decide +kernel) (by simp [lg_sl, Value.category]) ?_
  refine jy_aloadn (j := 2) rfl (TL_burden.row (show jtb tL_burden 0 = _ from rfl)).1 ?_
  refine jy_iconst (v := 0) rfl (TL_burden.row (show jtb tL_burden 1 = _ from rfl)).1 ?_
  refine jy_aloadn (j := 0) rfl (TL_burden.row (show jtb tL_burden 2 = _ from rfl)).1 ?_
  refine jy_iloadn (j := 1) rfl (TL_burden.row (show jtb tL_burden 3 = _ from rfl)).1 ?_
  refine jy_catch hX rfl rfl (n' := n) (mt' := mX11_burden) (as := [.int x]) (r := [.int 0, .ref 353]) (ci := 11) (a := 0) TL_burden (show jtb tL_burden 4 = _ from rfl) kL_69 WX11_burden rfl (by decide +kernel) rfl (by omega) rfl (by simp [Value.category]) (by decide +kernel) hc (ln := 1) (Or.inl ⟨(TL_burden.row (show jtb tL_burden 11 = _ from rfl)).1, rfl, by decide⟩) (fun τ hτ => ?_)
  refine jy_iconst (v := 1) rfl (TL_burden.row (show jtb tL_burden 12 = _ from rfl)).1 ?_
  exact jy_wret (Nat.le_refl _) (Nat.le_refl _) rfl ⟨rfl, hτ⟩ (TL_burden.row (show jtb tL_burden 13 = _ from rfl)).1
/-! paid -/
abbrev mL_paid : jMt := (yL_paid, cL_paid, 5, some .int)
def tL_paid : jTb := [(0, .aload_n 3, 1, 0, 0), (1, .iconst 0, 2, 0, 0), (2, .aload_n 0, 3, 0, 0), (3, .iload_n 1, 4, 0, 0), (4, .iload_n 2, 5, 0, 0), (5, .invokevirtual 73, 8, 0, 0), (8, .i2l, 9, 0, 0), (9, .lastore, 10, 0, 0), (10, .goto 7, 13, 17, 0), (13, .astore 4, 15, 0, 0), (15, .iconst 1, 16, 0, 1), (16, .ireturn, 17, 0, 0), (17, .iconst 0, 18, 0, 0), (18, .ireturn, 19, 0, 0)]
def hL_paid : List (Nat × Nat × Nat × Nat) := [(0, 10, 13, 13)]
theorem TL_paid : jT mL_paid [] [] tL_paid := jT.of (cs := []) (fun _ h => absurd h List.not_mem_nil) (fun _ h => absurd h List.not_mem_nil) (fun _ h => absurd h List.not_mem_nil) (by decide +kernel) (by decide +kernel)
theorem WL_paid : jMsW mL_paid hL_paid 4 := ⟨⟨jGw_of 93 (by decide +kernel) (by decide +kernel), jGw_of 1449 (by decide +kernel) (by decide +kernel), ⟨by decide +kernel, by decide +kernel, by decide +kernel⟩, by decide⟩, jGw_of 1448 (by decide +kernel) (by decide +kernel)⟩
set_option maxRecDepth 100000 in
theorem NL_paid {g : jG} (n d : Nat) {x y : Int32} {σ : jM} {Q : Option Value → jM → Prop} (hv : ∀ v τ, Q v τ → ∃ a : Int32, v = some (.int a)) (hc : jCon g (n + d) mX11_paid [.ref 0, .int x, .int y] σ Q) : jCoW g (n + d + 1) mL_paid hL_paid [.ref 0, .int x, .int y, .ref 352] σ (fun v τ => v = some (.int 0) ∧ ∃ (a : Int32) (τ' : jM), Q (some (.int a)) τ' ∧ τ = jupL τ' 352 0 a.toInt64) := by
  refine jCoW.of (by decide +kernel) (by simp [lg_sl, Value.category]) ?_
  refine jy_aloadn (j := 3) rfl (TL_paid.row (show jtb tL_paid 0 = _ from rfl)).1 ?_
  refine jy_iconst (v := 0) rfl (TL_paid.row (show jtb tL_paid 1 = _ from rfl)).1 ?_
  refine jy_aloadn (j := 0) rfl (TL_paid.row (show jtb tL_paid 2 = _ from rfl)).1 ?_
  refine jy_iloadn (j := 1) rfl (TL_paid.row (show jtb tL_paid 3 = _ from rfl)).1 ?_
  refine jy_iloadn (j := 2) rfl (TL_paid.row (show jtb tL_paid 4 = _ from rfl)).1 ?_
  refine jy_callV (n' := n + d) (mt' := mX11_paid) (as := [.int x, .int y]) (r := [.int 0, .ref 352]) (ci := 11) (a := 0) jzV_ok TL_paid (show jtb tL_paid 5 = _ from rfl) kL_73 WX11_paid rfl (by decide +kernel) rfl (by omega) rfl (by simp [Value.category]) hc (fun v τ hq => ?_)
  obtain ⟨a, rfl⟩ := hv v τ hq
  refine jy_i2l (TL_paid.row (show jtb tL_paid 8 = _ from rfl)).1 ?_
  refine jy_last (a := 352) (by decide +kernel) (show jin 0 1 from ⟨by decide, by decide⟩) (TL_paid.row (show jtb tL_paid 9 = _ from rfl)).1 ?_
  refine jy_goto (tg := 17) (TL_paid.row (show jtb tL_paid 10 = _ from rfl)).1 rfl ?_
  refine jy_iconst (v := 0) rfl (TL_paid.row (show jtb tL_paid 17 = _ from rfl)).1 ?_
  exact jy_wret (Nat.zero_le _) (Nat.zero_le _) rfl ⟨rfl, a, τ, hq, rfl⟩ (TL_paid.row (show jtb tL_paid 18 = _ from rfl)).1
set_option maxRecDepth 100000 in
theorem PL_paid {g : jG} (hX : jEx g) (n : Nat) {x y : Int32} {σ : jM} {P : jM → Prop} (hc : jTh g n mX11_paid [.ref 0, .int x, .int y] σ P) : jCoW g (n + 1) mL_paid hL_paid [.ref 0, .int x, .int y, .ref 352] σ (fun v τ => v = some (.int 1) ∧ P τ) := by
  refine jCoW.of (by decide +kernel) (by simp [lg_sl, Value.category]) ?_
  refine jy_aloadn (j := 3) rfl (TL_paid.row (show jtb tL_paid 0 = _ from rfl)).1 ?_
  refine jy_iconst (v := 0) rfl (TL_paid.row (show jtb tL_paid 1 = _ from rfl)).1 ?_
  refine jy_aloadn (j := 0) rfl (TL_paid.row (show jtb tL_paid 2 = _ from rfl)).1 ?_
  refine jy_iloadn (j := 1) rfl (TL_paid.row (show jtb tL_paid 3 = _ from rfl)).1 ?_
  refine jy_iloadn (j := 2) rfl (TL_paid.row (show jtb tL_paid 4 = _ from rfl)).1 ?_
  refine jy_catch hX rfl rfl (n' := n) (mt' := mX11_paid) (as := [.int x, .int y]) (r := [.int 0, .ref 352]) (ci := 11) (a := 0) TL_paid (show jtb tL_paid 5 = _ from rfl) kL_73 WX11_paid rfl (by decide +kernel) rfl (by omega) rfl (by simp [Value.category]) (by decide +kernel) hc (ln := 2) (Or.inr ⟨(TL_paid.row (show jtb tL_paid 13 = _ from rfl)).1, rfl, by decide⟩) (fun τ hτ => ?_)
  refine jy_iconst (v := 1) rfl (TL_paid.row (show jtb tL_paid 15 = _ from rfl)).1 ?_
  exact jy_wret (Nat.le_refl _) (Nat.le_refl _) rfl ⟨rfl, hτ⟩ (TL_paid.row (show jtb tL_paid 16 = _ from rfl)).1
/-! target -/
abbrev mL_target : jMt := (yL_target, cL_target, 4, some .int)
def tL_target : jTb := [(0, .aload_n 2, 1, 0, 0), (1, .iconst 0, 2, 0, 0), (2, .aload_n 0, 3, 0, 0), (3, .iload_n 1, 4, 0, 0), (4, .invokevirtual 76, 7, 0, 0), (7, .i2l, 8, 0, 0), (8, .lastore, 9, 0, 0), (9, .goto 6, 12, 15, 0), (12, .astore_n 3, 13, 0, 0), (13, .iconst 1, 14, 0, 1), (14, .ireturn, 15, 0, 0), (15, .iconst 0, 16, 0, 0), (16, .ireturn, 17, 0, 0)]
def hL_target : List (Nat × Nat × Nat × Nat) := [(0, 9, 12, 13)]
theorem TL_target : jT mL_target [] [] tL_target := jT.of (cs := []) (fun _ h => absurd h List.not_mem_nil) (fun _ h => absurd h List.not_mem_nil) (fun _ h => absurd h List.not_mem_nil) (by decide +kernel) (by decide +kernel)
theorem WL_target : jMsW mL_target hL_target 3 := ⟨⟨jGw_of 93 (by decide +kernel) (by decide +kernel), jGw_of 1456 (by decide +kernel) (by decide +kernel), ⟨by decide +kernel, by decide +kernel, by decide +kernel⟩, by decide⟩, jGw_of 1455 (by decide +kernel) (by decide +kernel)⟩
set_option maxRecDepth 100000 in
theorem NL_target {g : jG} (n d : Nat) {x : Int32} {σ : jM} {Q : Option Value → jM → Prop} (hv : ∀ v τ, Q v τ → ∃ a : Int32, v = some (.int a)) (hc : jCon g (n + d) mX11_target [.ref 0, .int x] σ Q) : jCoW g (n + d + 1) mL_target hL_target [.ref 0, .int x, .ref 352] σ (fun v τ => v = some (.int 0) ∧ ∃ (a : Int32) (τ' : jM), Q (some (.int a)) τ' ∧ τ = jupL τ' 352 0 a.toInt64) := by
  refine jCoW.of (by decide +kernel) (by simp [lg_sl, Value.category]) ?_
  refine jy_aloadn (j := 2) rfl (TL_target.row (show jtb tL_target 0 = _ from rfl)).1 ?_
  refine jy_iconst (v := 0) rfl (TL_target.row (show jtb tL_target 1 = _ from rfl)).1 ?_
  refine jy_aloadn (j := 0) rfl (TL_target.row (show jtb tL_target 2 = _ from rfl)).1 ?_
  refine jy_iloadn (j := 1) rfl (TL_target.row (show jtb tL_target 3 = _ from rfl)).1 ?_
  refine jy_callV (n' := n + d) (mt' := mX11_target) (as := [.int x]) (r := [.int 0, .ref 352]) (ci := 11) (a := 0) jzV_ok TL_target (show jtb tL_target 4 = _ from rfl) kL_76 WX11_target rfl (by decide +kernel) rfl (by omega) rfl (by simp [Value.category]) hc (fun v τ hq => ?_)
  obtain ⟨a, rfl⟩ := hv v τ hq
  refine jy_i2l (TL_target.row (show jtb tL_target 7 = _ from rfl)).1 ?_
  refine jy_last (a := 352) (by decide +kernel) (show jin 0 1 from ⟨by decide, by decide⟩) (TL_target.row (show jtb tL_target 8 = _ from rfl)).1 ?_
  refine jy_goto (tg := 15) (TL_target.row (show jtb tL_target 9 = _ from rfl)).1 rfl ?_
  refine jy_iconst (v := 0) rfl (TL_target.row (show jtb tL_target 15 = _ from rfl)).1 ?_
  exact jy_wret (Nat.zero_le _) (Nat.zero_le _) rfl ⟨rfl, a, τ, hq, rfl⟩ (TL_target.row (show jtb tL_target 16 = _ from rfl)).1
set_option maxRecDepth 100000 in
theorem PL_target {g : jG} (hX : jEx g) (n : Nat) {x : Int32} {σ : jM} {P : jM → Prop} (hc : jTh g n mX11_target [.ref 0, .int x] σ P) : jCoW g (n + 1) mL_target hL_target [.ref 0, .int x, .ref 352] σ (fun v τ => v = some (.int 1) ∧ P τ) := by
  refine jCoW.of (by decide +kernel) (by simp [lg_sl, Value.category]) ?_
  refine jy_aloadn (j := 2) rfl (TL_target.row (show jtb tL_target 0 = _ from rfl)).1 ?_
  refine jy_iconst (v := 0) rfl (TL_target.row (show jtb tL_target 1 = _ from rfl)).1 ?_
  refine jy_aloadn (j := 0) rfl (TL_target.row (show jtb tL_target 2 = _ from rfl)).1 ?_
  refine jy_iloadn (j := 1) rfl (TL_target.row (show jtb tL_target 3 = _ from rfl)).1 ?_
  refine jy_catch hX rfl rfl (n' := n) (mt' := mX11_target) (as := [.int x]) (r := [.int 0, .ref 352]) (ci := 11) (a := 0) TL_target (show jtb tL_target 4 = _ from rfl) kL_76 WX11_target rfl (by decide +kernel) rfl (by omega) rfl (by simp [Value.category]) (by decide +kernel) hc (ln := 1) (Or.inl ⟨(TL_target.row (show jtb tL_target 12 = _ from rfl)).1, rfl, by decide⟩) (fun τ hτ => ?_)
  refine jy_iconst (v := 1) rfl (TL_target.row (show jtb tL_target 13 = _ from rfl)).1 ?_
  exact jy_wret (Nat.le_refl _) (Nat.le_refl _) rfl ⟨rfl, hτ⟩ (TL_target.row (show jtb tL_target 14 = _ from rfl)).1
/-! transfer -/
abbrev mL_transfer : jMt := (yL_transfer, cL_transfer, 5, some .int)
def tL_transfer : jTb := [(0, .aload_n 3, 1, 0, 0), (1, .iconst 0, 2, 0, 0), (2, .aload_n 0, 3, 0, 0), (3, .iload_n 1, 4, 0, 0), (4, .iload_n 2, 5, 0, 0), (5, .invokevirtual 79, 8, 0, 0), (8, .i2l, 9, 0, 0), (9, .lastore, 10, 0, 0), (10, .goto 7, 13, 17, 0), (13, .astore 4, 15, 0, 0), (15, .iconst 1, 16, 0, 1), (16, .ireturn, 17, 0, 0), (17, .iconst 0, 18, 0, 0), (18, .ireturn, 19, 0, 0)]
def hL_transfer : List (Nat × Nat × Nat × Nat) := [(0, 10, 13, 13)]
theorem TL_transfer : jT mL_transfer [] [] tL_transfer := jT.of (cs := []) (fun _ h => absurd h List.not_mem_nil) (fun _ h => absurd h List.not_mem_nil) (fun _ h => absurd h List.not_mem_nil) (by decide +kernel) (by decide +kernel)
theorem WL_transfer : jMsW mL_transfer hL_transfer 4 := ⟨⟨jGw_of 93 (by decide +kernel) (by decide +kernel), jGw_of 1464 (by decide +kernel) (by decide +kernel), ⟨by decide +kernel, by decide +kernel, by decide +kernel⟩, by decide⟩, jGw_of 1463 (by decide +kernel) (by decide +kernel)⟩
set_option maxRecDepth 100000 in
theorem NL_transfer {g : jG} (n d : Nat) {x y : Int32} {σ : jM} {Q : Option Value → jM → Prop} (hv : ∀ v τ, Q v τ → ∃ a : Int32, v = some (.int a)) (hc : jCon g (n + d) mX11_transfer [.ref 0, .int x, .int y] σ Q) : jCoW g (n + d + 1) mL_transfer hL_transfer [.ref 0, .int x, .int y, .ref 352] σ (fun v τ => v = some (.int 0) ∧ ∃ (a : Int32) (τ' : jM), Q (some (.int a)) τ' ∧ τ = jupL τ' 352 0 a.toInt64) := by
  refine jCoW.of (by decide +kernel) (by simp [lg_sl, Value.category]) ?_
  refine jy_aloadn (j := 3) rfl (TL_transfer.row (show jtb tL_transfer 0 = _ from rfl)).1 ?_
  refine jy_iconst (v := 0) rfl (TL_transfer.row (show jtb tL_transfer 1 = _ from rfl)).1 ?_
  refine jy_aloadn (j := 0) rfl (TL_transfer.row (show jtb tL_transfer 2 = _ from rfl)).1 ?_
  refine jy_iloadn (j := 1) rfl (TL_transfer.row (show jtb tL_transfer 3 = _ from rfl)).1 ?_
  refine jy_iloadn (j := 2) rfl (TL_transfer.row (show jtb tL_transfer 4 = _ from rfl)).1 ?_
  refine jy_callV (n' := n + d) (mt' := mX11_transfer) (as := [.int x, .int y]) (r := [.int 0, .ref 352]) (ci := 11) (a := 0) jzV_ok TL_transfer (show jtb tL_transfer 5 = _ from rfl) kL_79 WX11_transfer rfl (by decide +kernel) rfl (by omega) rfl (by simp [Value.category]) hc (fun v τ hq => ?_)
  obtain ⟨a, rfl⟩ := hv v τ hq
  refine jy_i2l (TL_transfer.row (show jtb tL_transfer 8 = _ from rfl)).1 ?_
  refine jy_last (a := 352) (by decide +kernel) (show jin 0 1 from ⟨by decide, by decide⟩) (TL_transfer.row (show jtb tL_transfer 9 = _ from rfl)).1 ?_
  refine jy_goto (tg := 17) (TL_transfer.row (show jtb tL_transfer 10 = _ from rfl)).1 rfl ?_
  refine jy_iconst (v := 0) rfl (TL_transfer.row (show jtb tL_transfer 17 = _ from rfl)).1 ?_
  exact jy_wret (Nat.zero_le _) (Nat.zero_le _) rfl ⟨rfl, a, τ, hq, rfl⟩ (TL_transfer.row (show jtb tL_transfer 18 = _ from rfl)).1
set_option maxRecDepth 100000 in
theorem PL_transfer {g : jG} (hX : jEx g) (n : Nat) {x y : Int32} {σ : jM} {P : jM → Prop} (hc : jTh g n mX11_transfer [.ref 0, .int x, .int y] σ P) : jCoW g (n + 1) mL_transfer hL_transfer [.ref 0, .int x, .int y, .ref 352] σ (fun v τ => v = some (.int 1) ∧ P τ) := by
  refine jCoW.of (by decide +kernel) (by simp [lg_sl, Value.category]) ?_
  refine jy_aloadn (j := 3) rfl (TL_transfer.row (show jtb tL_transfer 0 = _ from rfl)).1 ?_
  refine jy_iconst (v := 0) rfl (TL_transfer.row (show jtb tL_transfer 1 = _ from rfl)).1 ?_
  refine jy_aloadn (j := 0) rfl (TL_transfer.row (show jtb tL_transfer 2 = _ from rfl)).1 ?_
  refine jy_iloadn (j := 1) rfl (TL_transfer.row (show jtb tL_transfer 3 = _ from rfl)).1 ?_
  refine jy_iloadn (j := 2) rfl (TL_transfer.row (show jtb tL_transfer 4 = _ from rfl)).1 ?_
  refine jy_catch hX rfl rfl (n' := n) (mt' := mX11_transfer) (as := [.int x, .int y]) (r := [.int 0, .ref 352]) (ci := 11) (a := 0) TL_transfer (show jtb tL_transfer 5 = _ from rfl) kL_79 WX11_transfer rfl (by decide +kernel) rfl (by omega) rfl (by simp [Value.category]) (by decide +kernel) hc (ln := 2) (Or.inr ⟨(TL_transfer.row (show jtb tL_transfer 13 = _ from rfl)).1, rfl, by decide⟩) (fun τ hτ => ?_)
  refine jy_iconst (v := 1) rfl (TL_transfer.row (show jtb tL_transfer 15 = _ from rfl)).1 ?_
  exact jy_wret (Nat.le_refl _) (Nat.le_refl _) rfl ⟨rfl, hτ⟩ (TL_transfer.row (show jtb tL_transfer 16 = _ from rfl)).1
