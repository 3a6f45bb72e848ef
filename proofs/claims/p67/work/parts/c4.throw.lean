/-! throwing: an IndexOutOfBoundsException with a constant text -/
def xIx : String := "java/lang/IndexOutOfBoundsException"
def jrx (n : Nat) : Room := { frames := n, cells := 1, slots := 6, locals := 64 * n }
def jXC (g : jG) (P : jM → Prop) : String → State → State → Prop := fun E st t => E = xIx ∧ (∃ τ, P τ ∧ jHp g τ t.heap) ∧ va_F (jA g) st t
def jQn : Array Value → State → Outcome → State → Prop := fun _ _ _ _ => False
def jzX (g : jG) (n : Nat) (P : jM → Prop) : jZ := (jrx n, 0, 0, fun below a s => vx_MQ below jQn (jXC g P) a s 1 6 (jA g), fun c => ∀ x ∈ c.exceptionTable.toList, False)
/-- a method that throws, the numbers then as P says -/
def jTh (g : jG) (n : Nat) (mt : jMt) (args : List Value) (σ : jM) (P : jM → Prop) : Prop :=
  jInj g → vx_Met g.1 mt.1 (jwd mt) (jrx n) (jPc g args σ) jQn (jXC g P) 1 6 (jA g)
theorem jTh.of {g : jG} {n : Nat} {mt : jMt} {args : List Value} {σ : jM} {P : jM → Prop} (hy : plainName mt.1.cls = true) (hlen : (lg_sl args).length ≤ mt.2.2.1)
    (k : jY g (jzX g n P) mt n 0 (lv_args 0 args) [] σ) : jTh g n mt args σ P := by
  intro hI
  refine vx_ofW (cc := mt.2.1) (maxL := mt.2.2.1) (ret := mt.2.2.2) hy rfl ?_
  intro p e s m as below meth c s₁ B hml hex hv
  obtain ⟨rfl, hP, hC⟩ := hv
  have hl := lv_entry (args.map (jrl g)) (n := mt.2.2.1) (by rw [jsl_len]; exact hlen)
  rw [lg_entry_eq]
  rw [jL_args] at hl
  exact k p e s m _ below meth c s.heap [] _ ⟨⟨B.exec, B.bytes, hml, B.returns, B.notSynchronized, findClass_of_methodNamed B.named, jwX_of (atoms_spec (ws := jwd mt) B.pre), hI, hC⟩, hex⟩ hP va_S.rf hl
section XT
variable {g : jG} {mt : jMt} {n : Nat} {pc : Nat} {L : List (Nat × Value)} {st : List Value} {σ : jM} {P : jM → Prop}
end XT
