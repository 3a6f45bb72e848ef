/-! throwing: an IndexOutOfBoundsException with a constant text -/
def xIx : String := "java/lang/IndexOutOfBoundsException"
def xNm : List String := ["java/lang/RuntimeException", "java/lang/Exception"]
def xDl : List Cond := [.declares (Bundle.initS "java/lang/RuntimeException"), .declares (Bundle.initS "java/lang/Exception"), .declares (Bundle.initS Bundle.tN), .castable xIx xIx]
theorem xDt : ∀ w ∈ xDl, w.onTables = true := by decide +kernel
theorem xA4 : ∀ w ∈ vx_atS RX11 170 xIx xNm, w ∈ lw_tbl := by decide +kernel
theorem xB4 : ∀ w ∈ vx_atS RX11 170 xIx xNm, goodWord w = true ∨ w ∈ xDl := by decide +kernel
theorem xB5 : ∀ w ∈ vx_atS RX11 170 xIx xNm, vx_ot w = true := by decide +kernel
/-- what is known of the heap and the tables where something may be thrown -/
def jEx (g : jG) : Prop := jEs g ∧ ∀ (U : State) (H : Heap), jE g U H → ∀ w ∈ xDl, w.before #[] U = true
theorem xL : Cond.classLink RX11 166 xIx ∈ jGw := jGw_of 1220 (by decide +kernel) (by decide +kernel)
theorem xI : Cond.initialized xIx ∈ jGw := jGw_of 117 (by decide +kernel) (by decide +kernel)
theorem xG {w : Cond} (h : w ∈ jGw) : vx_ot w = true := by
  unfold vx_ot
  rw [(List.mem_filter.mp h).2, Bool.or_true]
def jrx (n : Nat) : Room := { frames := n, cells := 1, slots := 6, locals := 64 * n }
def jXC (g : jG) (P : jM → Prop) : String → State → State → Prop := fun E st t => E = xIx ∧ (∃ τ, P τ ∧ jHp g τ t.heap) ∧ va_F (jA g) st t
def jQn : Array Value → State → Outcome → State → Prop := fun _ _ _ _ => False
def jzX (g : jG) (n : Nat) (P : jM → Prop) : jZ := (jrx n, 0, 0, fun below a s => vx_MQ below jQn (jXC g P) a s 1 6 (jA g), fun c => ∀ x ∈ c.exceptionTable.toList, False)
theorem jzX_ok (g : jG) (n : Nat) (P : jM → Prop) : jZok (jzX g n P) n := ⟨Nat.le_refl _, Nat.le_refl _, Nat.zero_le _, Nat.zero_le _⟩
/-- a method that throws, the numbers then as P says -/
def jTh (g : jG) (n : Nat) (mt : jMt) (args : List Value) (σ : jM) (P : jM → Prop) : Prop :=
  jInj g → vx_Met g.1 mt.1 (jwd mt) (jrx n) (jPc g args σ) jQn (jXC g P) 1 6 (jA g)
theorem jTh.of {g : jG} {n : Nat} {mt : jMt} {args : List Value} {σ : jM} {P : jM → Prop} (hy : plainName mt.1.cls = true) (hlen : (lg_sl args).length ≤ mt.2.2.1)
    (k : jY g (jzX g n P) mt n 0 (lv_args 0 args) [] σ) : jTh g n mt args σ P := by
  intro hI
  refine vx_ofW (cc := mt.2.1) (maxL := mt.2.2.1) (ret := mt.2.2.2) hy rfl ?_
  intro p e s m as below meth c s₁ B hml hex hv
  obtain ⟨rfl, hP, hC⟩ := hv
  have hl := lv_entry (args.map (jrl g)) (n := mt.2.2.1) (by rw [jsl_len]; exact hlen)
  rw [lg_entry_eq]
  rw [jL_args] at hl
  exact k p e s m _ below meth c s.heap [] _ ⟨⟨B.exec, B.bytes, hml, B.returns, B.notSynchronized, findClass_of_methodNamed B.named, jwX_of (atoms_spec (ws := jwd mt) B.pre), hI, hC⟩, hex⟩ hP va_S.rf hl
section XT
variable {g : jG} {mt : jMt} {n : Nat} {pc : Nat} {L : List (Nat × Value)} {st : List Value} {σ : jM} {P : jM → Prop}
theorem jy_throwW (hX : jEx g) (hmt : mt.1.cls = RX11) {i ix : Nat} (hi : i < 17) (hc : (stT.getD i ("", 0, "")).1 = RX11) (hx : (stT.getD i ("", 0, "")).2.1 = ix) (hn : 10 ≤ n) (hP : P σ) (hst : (st.map fun v => v.category).sum ≤ 8)
    (d0 : decode mt.2.1 pc = .ok (.new 166, 3)) (d3 : decode mt.2.1 (pc + 3) = .ok (.dup, 1)) (d4 : decode mt.2.1 (pc + 4) = .ok (.ldc_w ix, 3)) (d7 : decode mt.2.1 (pc + 7) = .ok (.invokespecial 170, 3)) (d10 : decode mt.2.1 (pc + 10) = .ok (.athrow, 1)) : jY g (jzX g n P) mt n pc L st σ := by
  intro p e s m as below meth c H locs ls XK hP0 hS hl
  obtain ⟨X, hex⟩ := XK
  have hE := hX.1
  have hdc := hX.2 s s.heap X.2.2.2.2.2.2.2.2.2.2.2
  have hts : ∀ w ∈ jGw, w.before as s = true := fun w hw => X.2.2.2.2.2.2.1 _ (List.mem_cons_of_mem _ hw)
  have hEp := hE.1 s s.heap X.2.2.2.2.2.2.2.2.2.2.2
  have hown : s.vm.findClass RX11 = some m.cls := by rw [← hmt]; exact X.2.2.2.2.2.1
  have hR := hEp.2.1 i hi
  rw [hc, hx] at hR
  refine vx_throwSW (names := xNm) (A := jA g) X.1 X.2.1 hE.2 hown (by decide +kernel) (by decide +kernel) (hts _ xL) (hts _ xI) hR (fun w hw => ?_) (fun w hw => ?_) hEp.2.2.2.2.1 hEp.2.2.2.2.2 hS (hl.1.trans X.2.2.1.symm) d0 d3 d4 d7 d10 (fun x hx => (hex x hx).elim) ?_ ?_ (Nat.le_refl _) (Nat.le_refl _) X.2.2.2.2.1 (fun t hvm hz hk => ?_) hS.2.2 (Nat.le_refl _) (Nat.le_refl _)
  · rcases xB4 w hw with h | h
    · exact hts w (List.mem_filter.mpr ⟨xA4 w hw, h⟩)
    · have h1 := hdc w h
      exact va_tabs (xDt w h) rfl h1
  · rcases List.mem_cons.mp hw with rfl | hw
    · exact xG xL
    · rcases List.mem_cons.mp hw with rfl | hw
      · exact xG xI
      · exact xB5 w hw
  · show xNm.length + 3 < n
    have : xNm.length = 2 := rfl
    omega
  · have e1 : ((st.map (jrl g)).map fun v => v.category).sum = (st.map fun v => v.category).sum := by simp [jrl_cat, Function.comp_def]
    rw [e1]
    have : xNm.length = 2 := rfl
    show _ ≤ 64 * n
    omega
  · exact ⟨rfl, ⟨σ, hP, va_P.kept hP0 (fun k q hk2 => hk _ (hP0 k q hk2).lt)⟩, Nat.le_trans hS.1 hz, fun q h1 h2 => (hk q (Nat.lt_of_lt_of_le h1 hS.1)).trans (hS.2.1 q h1 h2)⟩
end XT
