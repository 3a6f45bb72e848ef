/-! newborn: a method called while things are made: its world is its caller's -/
def kPm (g : jG) (h0 me t : Nat) (fs : List Value) (σ : jM) (args : List Value) : Array Value → State → Prop := va_Pc (args.map (jrl g)) (fun U => U.heap.size = h0 + t ∧ va_P g.2.1 vwCl (kws g σ me fs t) U.heap ∧ va_K g.2.1 vwCl (jtys g) U ∧ kNw U)
def kQm (g : jG) (h0 me t : Nat) (fs : List Value) (σ : jM) : Array Value → State → Outcome → State → Prop := fun _ st oc u =>
  oc = .returned none ∧ va_P g.2.1 vwCl (kws g σ me fs t) u.heap ∧ va_F (kA h0 me) st u
def kMe (g : jG) (h0 n : Nat) (mt : jMt) (args : List Value) (me t : Nat) (fs fs1 : List Value) (σ τ : jM) : Prop :=
  Met g.1 mt.1 (jwd mt) (krm n 0 0) (kPm g h0 me t fs σ args) (kQm g h0 me t fs1 τ) 0 0 (kA h0 me)
def kMR (g : jG) (h0 me t : Nat) (fs : List Value) (σ : jM) : lwT := fun below a s => MQ below (kQm g h0 me t fs σ) a s 0 0 (kA h0 me)
theorem kMe.of {g : jG} {h0 n : Nat} {mt : jMt} {args : List Value} {me t : Nat} {fs fs1 : List Value} {σ τ : jM} (hy : plainName mt.1.cls = true) (hlen : (lg_sl args).length ≤ mt.2.2.1) (ht : me ≤ t)
    (k : kW g h0 (krm n 0 0) mt me (kMR g h0 me t fs1 τ) 0 0 0 (lv_args 0 args) [] t fs σ) : kMe g h0 n mt args me t fs fs1 σ τ := by
  refine Met.ofW (cc := mt.2.1) (maxL := mt.2.2.1) (ret := mt.2.2.2) hy rfl ?_
  intro p e s m as below meth c s₁ B hml9 hv
  obtain ⟨rfl, hsz, hP, hK, hNw⟩ := hv
  have hl := lv_entry (args.map (jrl g)) (n := mt.2.2.1) (by rw [jsl_len]; exact hlen)
  rw [lg_entry_eq]
  rw [jL_args] at hl
  have h9 := atoms_spec (ws := jwd mt) B.pre
  exact k p e s m _ below meth c s.heap [] _ ⟨B.exec, B.bytes, hml9, B.returns, B.notSynchronized, findClass_of_methodNamed B.named, jwX_of h9, hK, hNw, (name_of_methodNamed B.named B.method).1⟩ ⟨by omega, by omega⟩ hP va_S.rf hl
section KV
variable {g : jG} {h0 : Nat} {rm : Room} {mt : jMt} {me : Nat} {pc : Nat} {L : List (Nat × Value)} {t : Nat} {fs : List Value} {σ : jM}
theorem kw_mret (hr : mt.2.2.2 = none) (d : decode mt.2.1 pc = .ok (.return_, 1)) : kW g h0 rm mt me (kMR g h0 me t fs σ) 0 0 pc L [] t fs σ := by
  intro p e s m as below meth c H locs ls X hz hP hS hl
  have hlocks := X.2.2.2.2.1
  exact W.vret X.1 X.2.1 (X.2.2.2.1.trans hr) (fun u hu hW => ⟨rfl, by rw [hu]; exact hP, hS.F hu⟩) hS.2.2 d hlocks
end KV
