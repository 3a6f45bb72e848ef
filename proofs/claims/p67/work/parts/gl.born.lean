/-! newborn: Arrays.fill(int[], int) over a whole cell -/
theorem kMe.ofF {g : jG} {h0 n : Nat} {mt : jMt} {args : List Value} {me t : Nat} {fs fs1 : List Value} {σ τ : jM} (hy : plainFor mt.1 = true) (hlen : (lg_sl args).length ≤ mt.2.2.1) (ht : me ≤ t)
    (k : kW g h0 (krm n 0 0) mt me (kMR g h0 me t fs1 τ) 0 0 0 (lv_args 0 args) [] t fs σ) : kMe g h0 n mt args me t fs fs1 σ τ := by
  refine jMetF (cc := mt.2.1) (maxL := mt.2.2.1) (ret := mt.2.2.2) hy rfl ?_
  intro p e s m as below meth c s₁ B hml9 hv
  obtain ⟨rfl, hsz, hP, hK, hNw⟩ := hv
  have hl := lv_entry (args.map (jrl g)) (n := mt.2.2.1) (by rw [jsl_len]; exact hlen)
  rw [lg_entry_eq]
  rw [jL_args] at hl
  have h9 := atoms_spec (ws := jwd mt) B.pre
  exact k p e s m _ below meth c s.heap [] _ ⟨B.exec, B.bytes, hml9, B.returns, B.notSynchronized, findClass_of_methodNamed B.named, jwX_of h9, hK, hNw, (name_of_methodNamed B.named B.method).1⟩ ⟨by omega, by omega⟩ hP va_S.rf hl
section KL
variable {g : jG} {h0 : Nat} {rm : Room} {mt : jMt} {me : Nat} {T : lwT} {c0 s0 pc : Nat} {L : List (Nat × Value)} {r : List Value} {t : Nat} {fs : List Value} {σ : jM}
theorem kw_alen {a kind tt : Nat} (h1 : me < a) (h2 : a < t) (ha : jarr a kind tt = true) (ht : tt < 8) (hk : kind = 1 ∨ kind = 4) (d : decode mt.2.1 pc = .ok (.arraylength, 1)) (k : kW g h0 rm mt me T c0 s0 (pc + 1) L (.int (Int32.ofNat (jlen a)) :: r) t fs σ) : kW g h0 rm mt me T c0 s0 pc L (.ref a :: r) t fs σ := by
  intro p e s m as below meth c H locs ls X hz hP hS hl
  obtain ⟨b1, b2, b3⟩ := jarr_spec ha
  have hg := kws_get g σ fs h1 h2
  unfold kpe at hg
  rcases hk with rfl | rfl
  · rw [jcell_1 b2, b3] at hg
    exact va_alen X.1 X.2.1 X.2.2.2.2.2.2.2.1 hP (a - me) tt hg (jtys_get g ht) rfl d (k p e s m as below meth c H locs ls X hz hP hS hl)
  · rw [jcell_4 b2, b3] at hg
    exact va_alen X.1 X.2.1 X.2.2.2.2.2.2.2.1 hP (a - me) tt hg (jtys_get g ht) rfl d (k p e s m as below meth c H locs ls X hz hP hS hl)
end KL
theorem KM_fill {g : jG} {h0 : Nat} (hB : kB g h0) {me t a : Nat} {fs : List Value} {σ : jM} {x : Int32} (h1 : me < a) (h2 : a < t) (hN : t ≤ jN) (ha : jarr a 1 0 = true) : kMe g h0 0 mJ7_fill_53178 [.ref a, .int x] me t fs fs σ (jfil σ a (jlen a) x) := by
  have hlen := jlen_le a (jarr_spec ha).1
  refine kMe.ofF (by decide +kernel) (by simp [lg_sl, Value.category]) (by omega) ?_
  refine kw_iconst (v := 0) rfl (show decode cJ7_fill_53178 0 = .ok (.iconst 0, 1) by decide +kernel) ?_
  refine kw_istoren (j := 2) (by decide) (show decode cJ7_fill_53178 1 = .ok (.istore_n 2, 1) by decide +kernel) ?_
  refine kw_aloadn (j := 0) (x := a) rfl (show decode cJ7_fill_53178 2 = .ok (.aload_n 0, 1) by decide +kernel) ?_
  refine kw_alen h1 h2 ha (by decide) (Or.inl rfl) (show decode cJ7_fill_53178 3 = .ok (.arraylength, 1) by decide +kernel) ?_
  refine kw_istoren (j := 3) (by decide) (show decode cJ7_fill_53178 4 = .ok (.istore_n 3, 1) by decide +kernel) ?_
  refine (show kW g h0 (krm 0 0 0) mJ7_fill_53178 me (kMR g h0 me t fs (jfil σ a (jlen a) x)) 0 0 5 [(0, .ref a), (1, .int x), (2, .int (nI 0)), (3, .int (nI (jlen a)))] [] t fs (jfil σ a 0 x) → _ from fun h => by rw [jfil_0] at h; exact h) ?_
  refine jloop (P := fun k => kW g h0 (krm 0 0 0) mJ7_fill_53178 me (kMR g h0 me t fs (jfil σ a (jlen a) x)) 0 0 5 [(0, .ref a), (1, .int x), (2, .int (nI k)), (3, .int (nI (jlen a)))] [] t fs (jfil σ a k x)) (N := jlen a) ?_ (fun k hk ih => ?_)
  · refine kw_iloadn (j := 2) (x := nI (jlen a)) rfl (show decode cJ7_fill_53178 5 = .ok (.iload_n 2, 1) by decide +kernel) ?_
    refine kw_iloadn (j := 3) (x := nI (jlen a)) rfl (show decode cJ7_fill_53178 6 = .ok (.iload_n 3, 1) by decide +kernel) ?_
    refine kw_icmp (tg := 20) (show decode cJ7_fill_53178 7 = .ok (.if_icmp .ge 13, 3) by decide +kernel) (by decide) ⟨fun _ => ?_, fun h => absurd ((nI_ltI (by omega) (by omega)).mp h) (Nat.lt_irrefl _)⟩
    exact kw_mret rfl (show decode cJ7_fill_53178 20 = .ok (.return_, 1) by decide +kernel)
  · refine kw_iloadn (j := 2) (x := nI k) rfl (show decode cJ7_fill_53178 5 = .ok (.iload_n 2, 1) by decide +kernel) ?_
    refine kw_iloadn (j := 3) (x := nI (jlen a)) rfl (show decode cJ7_fill_53178 6 = .ok (.iload_n 3, 1) by decide +kernel) ?_
    refine kw_icmp (tg := 20) (show decode cJ7_fill_53178 7 = .ok (.if_icmp .ge 13, 3) by decide +kernel) (by decide) ⟨fun h => absurd ((nI_ltI (by omega) (by omega)).mpr hk) h, fun _ => ?_⟩
    refine kw_aloadn (j := 0) (x := a) rfl (show decode cJ7_fill_53178 10 = .ok (.aload_n 0, 1) by decide +kernel) ?_
    refine kw_iloadn (j := 2) (x := nI k) rfl (show decode cJ7_fill_53178 11 = .ok (.iload_n 2, 1) by decide +kernel) ?_
    refine kw_iloadn (j := 1) (x := x) rfl (show decode cJ7_fill_53178 12 = .ok (.iload_n 1, 1) by decide +kernel) ?_
    refine kw_iast hB hN h1 h2 ha (jin_nI hk (by omega)) (show decode cJ7_fill_53178 13 = .ok (.iastore, 1) by decide +kernel) ?_
    refine kw_iinc (j := 2) (x := nI k) (v := 1) rfl rfl (by decide) (show decode cJ7_fill_53178 14 = .ok (.iinc 2 1, 3) by decide +kernel) ?_
    refine kw_goto (tg := 5) (show decode cJ7_fill_53178 17 = .ok (.goto (-12), 3) by decide +kernel) (by decide) ?_
    rw [nI_clamp (show k < 2 ^ 31 by omega), jfil_s, nI_1]
    exact ih
