/-! rows for the class: a row copied over another, switches -/
section JR80
variable {g : jG} {mt : jMt} {n : Nat} {post : Option Value → jM → Prop} {pc nx tg : Nat} {kk : Int32} {L : List (Nat × Value)} {r : List Value} {σ : jM} {F : List (Nat × Nat × Nat × Nat)} {C2 : List (Nat × Int64)} {tb : jTb} {idx sa da : Nat}
theorem jr_copy {sp dp m : Int32} (hT : jT mt F C2 tb) (e : jtb tb pc = some (.invokestatic idx, nx, tg, kk)) (hlk : Cond.methodLink mt.1.cls idx arraycopyName ∈ jGw) (hnat : Cond.native arraycopyName ∈ jGw) (hstat : Cond.static arraycopyName ∈ jGw) (hini : Cond.initialized "java/lang/System" ∈ jGw)
    (hsa : jarr sa 1 0 = true) (hda : jarr da 1 0 = true) (h1 : ¬ sp < 0) (h2 : ¬ dp < 0) (h3 : ¬ m < 0) (h4 : sp.toNatClampNeg + m.toNatClampNeg ≤ jlen sa) (h5 : dp.toNatClampNeg + m.toNatClampNeg ≤ jlen da) (hst : jcat r ≤ 8) (hn : 0 < n)
    (k : jW g mt n post nx L r (jcpy σ da sa sp.toNatClampNeg dp.toNatClampNeg m.toNatClampNeg)) : jW g mt n post pc L (.int m :: .int dp :: .ref da :: .int sp :: .ref sa :: r) σ := by
  obtain ⟨hd, rfl⟩ := hT.row e
  intro p e s mm as below meth c H locs ls X hP hS hl
  obtain ⟨a1, a2, a3⟩ := jarr_spec hsa
  obtain ⟨b1, b2, b3⟩ := jarr_spec hda
  have hg := jws_get g σ a1
  rw [jcell_1 a2, a3] at hg
  have hg2 := jws_get g σ b1
  rw [jcell_1 b2, b3] at hg2
  have hts := X.2.2.2.2.2.2.1
  refine va_copyi (n := m) X.1 X.2.1 (X.2.2.1.trans hl.1.symm) X.2.2.2.2.2.1 (hts _ (List.mem_cons_of_mem _ hlk)) (hts _ (List.mem_cons_of_mem _ hnat)) (hts _ (List.mem_cons_of_mem _ hstat)) (hts _ (List.mem_cons_of_mem _ hini)) X.2.2.2.2.2.2.2.2.1 hP (jD g X.2.2.2.2.2.2.2.1 σ) hS sa da 0 0 hg hg2 (jtys_get g (by decide)) (jtys_get g (by decide)) rfl h1 h2 h3 h4 h5 (fun i hi => rfl) ?_ ?_ hd (fun H1 locs1 hP1 hD1 hS1 => ?_)
  · show 1 ≤ n
    omega
  · rw [jcat_sum] at hst
    have e1 : ((r.map (jrl g)).map fun v => v.category).sum = (r.map fun v => v.category).sum := by simp [jrl_cat, Function.comp_def]
    rw [e1]
    have e2 : nativeFrameWords "java/lang/System" "arraycopy" 5 = 7 := by decide
    rw [e2]
    show _ ≤ 64 * n
    omega
  · have e1 : (jws g σ).set da (jad g da, .inl (jta g 0, (jshp da).2.2.1, .inl (va_cpy (σ.1 sa) (σ.1 da) sp.toNatClampNeg dp.toNatClampNeg m.toNatClampNeg))) = jws g (jcpy σ da sa sp.toNatClampNeg dp.toNatClampNeg m.toNatClampNeg) := by
      refine jws_set g b1 ?_ (fun q hq => jcpy_other q hq)
      rw [jcell_1 b2, b3]
      congr 4
      funext z
      simp [jcpy, va_cpy]
    rw [e1] at hP1
    exact k p e s mm as below meth c H1 locs1 ls X hP1 hS1 hl
/-- a switch, its row given by hand -/
theorem jr_tOut {dflt lo hi : Int} {offs : Array Int} {len : Nat} {x : Int32} {tgt : Nat} (hd : decode mt.2.1 pc = .ok (.tableswitch dflt lo hi offs, len)) (h : x.toInt < lo ∨ hi < x.toInt) (ht : (pc : Int) + dflt = (tgt : Int)) (k : jW g mt n post tgt L r σ) : jW g mt n post pc L (.int x :: r) σ := by
  intro p e s mm as below meth c H locs ls X hP hS hl
  exact lv_tableOut X.1 X.2.1 hd h ht (k p e s mm as below meth c H locs ls X hP hS hl)
theorem jr_tIn {dflt lo hi : Int} {offs : Array Int} {len : Nat} {x : Int32} {off : Int} {tgt : Nat} (hd : decode mt.2.1 pc = .ok (.tableswitch dflt lo hi offs, len)) (h1 : ¬ x.toInt < lo) (h2 : ¬ hi < x.toInt) (ho : offs[(x.toInt - lo).toNat]? = some off) (ht : (pc : Int) + off = (tgt : Int)) (k : jW g mt n post tgt L r σ) : jW g mt n post pc L (.int x :: r) σ := by
  intro p e s mm as below meth c H locs ls X hP hS hl
  exact lv_tableIn X.1 X.2.1 hd h1 h2 ho ht (k p e s mm as below meth c H locs ls X hP hS hl)
theorem jr_look {dflt : Int} {ps : Array (Int × Int)} {len : Nat} {x : Int32} {off : Int} {tgt : Nat} (hd : decode mt.2.1 pc = .ok (.lookupswitch dflt ps, len)) (hp : (ps.toList.zip (ps.toList.drop 1)).all (fun (a, next) => a.1 < next.1) = true) (ho : Op.lookupswitch.offset ps.toList dflt x.toInt = off) (ht : (pc : Int) + off = (tgt : Int)) (k : jW g mt n post tgt L r σ) : jW g mt n post pc L (.int x :: r) σ := by
  intro p e s mm as below meth c H locs ls X hP hS hl
  exact lv_lookup X.1 X.2.1 hd hp ho ht (k p e s mm as below meth c H locs ls X hP hS hl)
end JR80
