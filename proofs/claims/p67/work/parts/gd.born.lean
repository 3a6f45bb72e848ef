/-! newborn: an array of arrays -/
theorem arrV_cg {c : ClassId} {N : Nat} {f f' : Nat → Value} (h : ∀ j, j < N → f j = f' j) : arrV c N f = arrV c N f' := by
  unfold arrV
  have e : (fun j : Fin N => f j.val) = fun j : Fin N => f' j.val := funext fun j => h j.val j.isLt
  rw [e]
theorem kOut (c : ClassId) (N h : Nat) : ∀ i : Nat, Jvm.Free.Multi.outerC c N h i = arrV c N (fun j => if j < i then .ref (h + 1 + j) else .null)
  | 0 => by
    show ({ cls := c, slots := Array.replicate N .null, vm := .none } : Cell) = _
    rw [arrV_new]
    exact arrV_cg (fun j _ => by simp)
  | i + 1 => by
    show (Jvm.Free.Multi.outerC c N h i).setSlot i (.ref (h + 1 + i)) = _
    rw [kOut c N h i, arrV_store]
    refine arrV_cg (fun j _ => ?_)
    by_cases e : j = i
    · subst e
      simp [updV]
    · by_cases h9 : j < i
      · simp [updV, e, h9, Nat.lt_succ_of_lt h9]
      · simp [updV, e, h9, show ¬ j < i + 1 by omega]
section KM
variable {g : jG} {h0 : Nat} {rm : Room} {mt : jMt} {me : Nat} {T : lwT} {c0 s0 pc : Nat} {L : List (Nat × Value)} {r : List Value} {t : Nat} {fs : List Value} {σ : jM}
theorem kw_mna {index N' K' : Nat} {n9 k9 : Int32} (hB : kB g h0) (ht : me < t) (hN : t + 1 + N' ≤ jN) (hs1 : (jshp t).1 = 4 ∧ (jshp t).2.1 = 6 ∧ (jshp t).2.2.1 = N' ∧ ∀ j, j < N' → jelt t j = t + 1 + j) (hs2 : ∀ i, i < N' → (jshp (t + 1 + i)).1 = 1 ∧ (jshp (t + 1 + i)).2.1 = 0 ∧ (jshp (t + 1 + i)).2.2.1 = K') (hz : ∀ i, i < N' → ∀ j, σ.1 (t + 1 + i) j = 0)
    (w1 : Cond.classLink mt.1.cls index "[[I" ∈ jGw) (hn : ¬ n9 < 0) (hk : ¬ k9 < 0) (hn9 : n9.toNatClampNeg = N') (hk9 : k9.toNatClampNeg = K') (hb : N' ≤ 1000) (hb2 : K' ≤ 1000) (hcells : c0 + (1 + N') ≤ rm.cells) (hslots : s0 + (N' + N' * K') ≤ rm.slots) (d : decode mt.2.1 pc = .ok (.multianewarray index 2, 4))
    (k : kW g h0 rm mt me T (c0 + 1 + N') (s0 + N' + N' * K') (pc + 4) L (.ref t :: r) (t + 1 + N') fs σ) : kW g h0 rm mt me T c0 s0 pc L (.int k9 :: .int n9 :: r) t fs σ := by
  subst hn9
  subst hk9
  intro p e s m as below meth c H locs ls X hz9 hP hS hl
  have hz1 := hz9.1
  have hz2 := hz9.2
  intro T0 hT0 X0
  have hts : ∀ w ∈ jGw, w.before as s = true := fun w hw => X.2.2.2.2.2.2.1 _ (List.mem_cons_of_mem _ hw)
  have hsz := X0.heapSize
  rw [hT0] at hsz
  have hge : h0 + t ≤ H.size := by
    rcases Nat.lt_or_ge (me + 1) t with c9 | c9
    · have := vx_lt hP (kws_get g σ fs (k := t - 1) (by omega) (by omega))
      have e2 : (kpe g σ (t - 1)).1 = h0 + (t - 1) := hB _ (by omega)
      omega
    · have := vx_lt hP (k := 0) (q := (jad g me, .inr ((jshp me).2.1, fs.map (jrl g)))) rfl
      have e2 : jad g me = h0 + me := hB _ (by omega)
      have e3 : jad g me < H.size := this
      omega
  have hH : H.size = h0 + t := by omega
  obtain ⟨vm₁, cA, comp, -, fA, fC, -, -, X', step⟩ := X0.multianewarray2F (ty := .int) X.1 X.2.2.2.2.2.1 (hts _ w1) X.2.2.2.2.2.2.2.2.1.2.1 (hts (.arrayClass .int) (jGw_of 438 (by decide +kernel) (by decide +kernel))) (g := F0 m pc ls (.int k9 :: .int n9 :: r.map (jrl g))) rfl (by rw [X.2.1]; exact d) rfl hn hk (by omega) (by
      have : componentBytes .int = 4 := rfl
      rw [this]
      omega) (by omega) rfl rfl hcells hslots
  have eA : cA = jta g 6 := Option.some.inj (fA.symm.trans (X.2.2.2.2.2.2.2.1.2 6 _ (jtys_get g (by decide))).2)
  have eC : comp = jta g 0 := Option.some.inj (fC.symm.trans (X.2.2.2.2.2.2.2.1.2 0 _ (jtys_get g (by decide))).2)
  subst eA
  subst eC
  generalize hF : Jvm.Free.Multi.fill (T0.setVm vm₁) (jta g 6) (jta g 0) n9.toNatClampNeg k9.toNatClampNeg (defaultValue .int) n9.toNatClampNeg = F at X' step
  have hTh : (T0.setVm vm₁).heap = H := hT0
  obtain ⟨f1, f2, -, -⟩ := Jvm.Free.Multi.fill_facts (T0.setVm vm₁) (jta g 6) (jta g 0) n9.toNatClampNeg k9.toNatClampNeg (defaultValue .int) n9.toNatClampNeg
  rw [hF, hTh] at f1 f2
  have hold : ∀ x : Nat, x < H.size → F.heap[x]? = H[x]? := fun x hx => by
    have := Jvm.Free.Multi.fill_old (T0.setVm vm₁) (jta g 6) (jta g 0) n9.toNatClampNeg k9.toNatClampNeg (defaultValue .int) (a := x) (by rw [hTh]; exact hx) n9.toNatClampNeg
    rw [hF, hTh] at this
    exact this
  have hrow : ∀ j : Nat, j < n9.toNatClampNeg → F.heap[H.size + 1 + j]? = some (arrV (jta g 0) k9.toNatClampNeg (fun _ => .int 0)) := fun j hj => by
    have := Jvm.Free.Multi.fill_inner (T0.setVm vm₁) (jta g 6) (jta g 0) n9.toNatClampNeg k9.toNatClampNeg (defaultValue .int) n9.toNatClampNeg j hj
    rw [hF, hTh] at this
    rw [this, ← arrV_new]
    rfl
  rw [kOut] at f2
  have hP9 : va_P g.2.1 vwCl (kws g σ me fs (t + 1 + n9.toNatClampNeg)) F.heap := by
    refine kws_mk ?_ (fun q h1q h2q => ?_)
    · exact va_at_kept (hP 0 _ rfl) (hold _ (by show jad g me < _; rw [hB me (by omega)]; omega))
    · rcases Nat.lt_or_ge q t with c9 | c9
      · exact va_at_kept (hP _ _ (kws_get g σ fs h1q c9)) (hold _ (by show jad g q < _; rw [hB q (by omega)]; omega))
      · rcases Nat.lt_or_ge t q with c8 | c8
        · obtain ⟨i, rfl⟩ : ∃ i, q = t + 1 + i := ⟨q - t - 1, by omega⟩
          obtain ⟨b1, b2, b3⟩ := hs2 i (by omega)
          unfold kpe va_at
          rw [jcell_1 b1, b2, b3]
          show F.heap[jad g (t + 1 + i)]? = some (arrV (jta g 0) k9.toNatClampNeg (fun j => .int (σ.1 (t + 1 + i) j)))
          have e9 : jad g (t + 1 + i) = H.size + 1 + i := by
            rw [hB _ (by omega)]
            omega
          rw [e9, hrow i (by omega)]
          exact congrArg some (arrV_cg (fun j _ => by rw [hz i (by omega) j]))
        · have e8 : q = t := by omega
          subst e8
          unfold kpe va_at
          rw [jcell_4 hs1.1, hs1.2.1, hs1.2.2.1]
          show F.heap[jad g q]? = some (arrV (jta g 6) n9.toNatClampNeg (fun j => va_rf (some (jad g (jelt q j)))))
          have e9 : jad g q = H.size := by
            rw [hB _ (by omega)]
            omega
          rw [e9, f2]
          refine congrArg some (arrV_cg (fun j hj => ?_))
          rw [if_pos hj, hs1.2.2.2 j hj]
          show Value.ref (H.size + 1 + j) = Value.ref (jad g (q + 1 + j))
          have e6 := hs1.2.2.1
          have e7 : jad g (q + 1 + j) = h0 + (q + 1 + j) := hB _ (by omega)
          have e5 : H.size + 1 + j = h0 + (q + 1 + j) := by omega
          rw [e7, ← e5]
  obtain ⟨t2, a1, b1⟩ := k p e s m as below meth c F.heap locs ls X ⟨by omega, hz2⟩ hP9 ⟨by rw [f1]; have := hS.1; omega, fun x h1x h2x => (hold x (Nat.lt_of_lt_of_le h1x hS.1)).trans (hS.2.1 x h1x h2x), hS.2.2⟩ hl F rfl X'
  refine ⟨t2, step t2 ?_, b1⟩
  have e : (Value.ref T0.heap.size) = jrl g (.ref t) := by
    show Value.ref T0.heap.size = Value.ref (jad g t)
    rw [hT0, hB t (by omega), hH]
  rw [e]
  exact a1
end KM
