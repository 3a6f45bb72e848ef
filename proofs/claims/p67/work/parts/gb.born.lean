/-! newborn: an object is made by its constructor -/
theorem kws_mk {g : jG} {σ : jM} {me t : Nat} {fs : List Value} {H : Heap} (h0 : va_at g.2.1 vwCl (jad g me, .inr ((jshp me).2.1, fs.map (jrl g))) H) (h : ∀ k, me < k → k < t → va_at g.2.1 vwCl (kpe g σ k) H) : va_P g.2.1 vwCl (kws g σ me fs t) H := by
  intro i q hi
  unfold kws at hi
  match i, hi with
  | 0, hi =>
    cases hi
    exact h0
  | i + 1, hi =>
    rw [List.getElem?_cons_succ, List.getElem?_map] at hi
    by_cases hl : i < t - me - 1
    · rw [List.getElem?_range hl] at hi
      cases hi
      exact h (me + 1 + i) (by omega) (by omega)
    · have hn : (List.range (t - me - 1))[i]? = none := List.getElem?_eq_none (by rw [List.length_range]; omega)
      rw [hn] at hi
      cases hi
theorem va_at_kept {D : va_G} {cl : List vw_C} {q : Nat × va_E} {H H1 : Heap} (h : va_at D cl q H) (e : H1[q.1]? = H[q.1]?) : va_at D cl q H1 := by
  have hP : va_P D cl [q] H := fun k x hx => by
    have hz : k < 1 := (List.getElem?_eq_some_iff.mp hx).1
    rw [show k = 0 by omega] at hx
    cases hx
    exact h
  exact hP.kept (fun k x hx => by
    have hz : k < 1 := (List.getElem?_eq_some_iff.mp hx).1
    rw [show k = 0 by omega] at hx
    cases hx
    exact e) 0 q rfl
theorem va_P1 {D : va_G} {cl : List vw_C} {q : Nat × va_E} {H : Heap} (h : va_at D cl q H) : va_P D cl [q] H := fun k x hx => by
  have hz : k < 1 := (List.getElem?_eq_some_iff.mp hx).1
  rw [show k = 0 by omega] at hx
  cases hx
  exact h
theorem jNw_mv {s U : State} (hW : s.WarmedH U.vm) (h : ∀ w ∈ jNw, va_Nw w s) : ∀ w ∈ jNw, va_Nw w U := fun w hw => by
  have h1 := (List.mem_filter.mp hw).2
  have h2 := h w hw
  cases w <;> first | exact va_Nw.warmF hW h2 | exact va_Nw.warmM hW h2 | (exfalso; simp at h1)
theorem jNw_call {U : State} {f : JFrame} {mk : MethodId} {a : Array Value} (h : ∀ w ∈ jNw, va_Nw w U) : ∀ w ∈ jNw, va_Nw w (U.calling f mk a) := fun w hw => by
  have h1 := (List.mem_filter.mp hw).2
  have h2 := h w hw
  cases w <;> first | exact va_Nw.same rfl rfl h2 | (exfalso; simp at h1)
theorem kNw_mv {s U : State} (hW : s.WarmedH U.vm) (h : kNw s) : kNw U := ⟨jNw_mv hW h.1, kAO_mv hW.alike h.2.1, h.2.2.moved hW.alike⟩
theorem kNw_call {U : State} {f : JFrame} {mk : MethodId} {a : Array Value} (h : kNw U) : kNw (U.calling f mk a) := ⟨jNw_call h.1, kAO_mv (u := U) (Vm.Alike.refl U.vm) h.2.1, va_AO.moved (u := U) (Vm.Alike.refl U.vm) h.2.2⟩
section KN
variable {g : jG} {h0 : Nat} {rm : Room} {mt : jMt} {me : Nat} {T : lwT} {c0 s0 pc : Nat} {L : List (Nat × Value)} {r : List Value} {t : Nat} {fs : List Value} {σ : jM}
theorem kw_new {mt' : jMt} {ci N9 nn ms n' j1 j2 : Nat} {T9 : u_T} {ty9 : Nat → FieldType} (hB : kB g h0) (ht : me < t) (hN : t + nn ≤ jN) (h1 : 1 ≤ nn) (hsh : (jshp t).2.1 = ci) (hcl : jCls ci mt'.1.cls T9 N9) (hty : (∀ k, k < N9 → parseFieldDescriptor (T9 k).2.2.1 = some (ty9 k)) ∧ ∀ j, j < N9 → defaultValue (ty9 j) = vp_V (kfr (jshp t).2.2.2) j)
    (w1 : Cond.classLink mt.1.cls j1 mt'.1.cls ∈ jGw) (w2 : Cond.instantiable mt'.1.cls N9 ∈ jGw) (w3 : Cond.initialized mt'.1.cls ∈ jGw) (w4 : Cond.methodLink mt.1.cls j2 mt'.1 ∈ jGw) (w5 : Cond.instanceMethod mt'.1 ∈ jGw) (w6 : Cond.code mt'.1 mt'.2.1 mt'.2.2.1 mt'.2.2.2 ∈ jGw) (hnm : mt'.1.name = "<init>") (hrt : mt'.2.2.2 = none)
    (hmh : (mt'.1.cls ≠ "java/lang/invoke/MethodHandle" ∧ mt'.1.cls ≠ "java/lang/invoke/VarHandle" ∧ (parseMethodDescriptor mt'.1.desc).map (fun d => d.parameters.length) = some 0)) (hfr : n' + 1 ≤ rm.frames ∧ 8 + (mt'.2.2.1 + 11) + 64 * n' ≤ rm.locals) (hcells : c0 + nn ≤ rm.cells) (hslots : s0 + N9 + ms ≤ rm.slots) (hst : (r.map fun v => v.category).sum ≤ 4)
    (hc : kCon g h0 n' mt' t nn ms σ) (d0 : decode mt.2.1 pc = .ok (.new j1, 3)) (d3 : decode mt.2.1 (pc + 3) = .ok (.dup, 1)) (d4 : decode mt.2.1 (pc + 4) = .ok (.invokespecial j2, 3))
    (k : kW g h0 rm mt me T (c0 + nn) (s0 + N9 + ms) (pc + 7) L (.ref t :: r) (t + nn) fs σ) : kW g h0 rm mt me T c0 s0 pc L r t fs σ := by
  obtain ⟨y', b', ml', rt'⟩ := mt'
  obtain rfl : rt' = none := hrt
  intro p e s m as below meth c H locs ls X hz hP hS hl
  have hz1 := hz.1
  have hz2 := hz.2
  have hts : ∀ w ∈ jGw, w.before as s = true := fun w hw => X.2.2.2.2.2.2.1 _ (List.mem_cons_of_mem _ hw)
  have hA : ∀ q, s.heap.size ≤ q → kA h0 me q := fun q hq => by
    unfold kA
    omega
  obtain ⟨q1, q2, -, q4, q5⟩ := hcl
  refine va_new (ci := ci) (fs := kfr (jshp t).2.2.2) X.1 X.2.1 X.2.2.2.2.2.2.1 (fun w hw => List.mem_cons_of_mem _ (q2 w hw)) ty9 hty.1 X.2.2.2.2.2.1 (hts _ w1) (hts _ w2) (hts _ w3) X.2.2.2.2.2.2.2.1 hP (kD hB σ fs ht (by omega)) hS hA q1 hty.2 (by omega) (by omega) d0 (fun q H1 hP1 hD1 hS1 => ?_)
  intro T0 hT0 X0
  have hsz := X0.heapSize
  rw [hT0] at hsz
  have hqlt : q < H1.size := vx_lt hP1 (k := (kws g σ me fs t).length) (q := (q, .inr (ci, kfr (jshp t).2.2.2))) (by simp)
  have hq2 := k_new hB ht (by omega) hD1 (show q < h0 + t + 1 by omega)
  subst hq2
  have hjt : jad g t = h0 + t := hB t (by omega)
  have hH1 : H1.size = h0 + t + 1 := by omega
  have hself : va_at g.2.1 vwCl (jad g t, .inr (ci, kfr (jshp t).2.2.2)) H1 := hP1 (kws g σ me fs t).length _ (by simp)
  have hold : ∀ i q, (kws g σ me fs t)[i]? = some q → va_at g.2.1 vwCl q H1 := fun i q hi => hP1 i q (by rw [List.getElem?_append_left (List.getElem?_eq_some_iff.mp hi).1]; exact hi)
  have key : W p g.1 e rm s m as below meth c H1 locs (c0 + 1) (s0 + N9) (T below as s) (F0 m (pc + 3) ls (.ref (jad g t) :: r.map (jrl g))) := by
    refine lv_dup X.1 X.2.1 d3 rfl ?_
    have hcat : ((Value.ref (jad g t) :: r.map (jrl g)).map fun v => v.category).sum ≤ 8 := by
      have h4 : ((r.map (jrl g)).map fun v => v.category).sum ≤ 4 := by simpa [jrl_cat, Function.comp_def] using hst
      rw [List.map_cons, List.sum_cons]
      have h5 : (Value.ref (jad g t)).category = 1 := rfl
      omega
    have hr : va_Run p g.1 e rm s m as below meth c H1 locs (c0 + 1) (s0 + N9) (nn - 1) ms (F0 m (pc + 4) ls (.ref (jad g t) :: .ref (jad g t) :: r.map (jrl g))) (.ref (jad g t) :: r.map (jrl g)) (kQc g h0 t nn σ (#[.ref (jad g t)])) (kA h0 t) := by
      have hcw := cwI (R := rm) (rm := krm n' (nn - 1) ms) (mc := nn - 1) (ms := ms) 0 X.2.2.2.2.2.2.1 (jGI (jwd_in w6)) rfl rfl rfl (hts _ w3) (hts _ w4) (hts _ w5) hnm hmh hfr
      exact va_runI (As := []) (b := jad g t) (n := 0) ⟨X.1, X.2.1, X.2.2.1, X.2.2.2.2.2.1, X.2.2.2.2.2.2.1⟩ hc hcw ⟨fun a U f mk q => ⟨q.1, q.2.1, q.2.2.1, va_K.moved (u := U) (U := U.calling f mk a) (Vm.Alike.refl U.vm) q.2.2.2.1, kNw_call q.2.2.2.2⟩, fun U hU hW => ⟨rfl, by rw [hU]; exact hH1, by rw [hU, hsh]; exact va_P1 hself, va_K.moved hW.alike X.2.2.2.2.2.2.2.1, kNw_mv hW X.2.2.2.2.2.2.2.2.1⟩⟩ rfl rfl hl.1 rfl (lv_room hcat) d4 ⟨by show c0 + 1 + (nn - 1) ≤ _; omega, hslots⟩
    intro T1 hT1 X1
    obtain ⟨v, st₀, t9, T', L', h00, X'', hL, e1, e2, hq9, stp⟩ := hr T1 hT1 X1
    have hv := hq9.1
    have hsz9 := hq9.2.1
    have hcs := hq9.2.2.1
    have hz9 := hq9.2.2.2.1
    have hk9 := hq9.2.2.2.2
    have hv0 : v = none := by injection hv
    subst hv0
    rw [h00] at hz9 hk9
    have hkept : ∀ q : Nat, q < h0 + t → T'.heap[q]? = H1[q]? := fun q hq => by
      rw [e1]
      exact hk9 q (by omega) (fun z => by
        unfold kA at z
        omega)
    have hP9 : va_P g.2.1 vwCl (kws g σ me fs (t + nn)) T'.heap := by
      refine kws_mk ?_ (fun k h1k h2k => ?_)
      · exact va_at_kept (hold 0 _ rfl) (hkept _ (by show jad g me < _; rw [hB me (by omega)]; omega))
      · rcases Nat.lt_or_ge k t with c9 | c9
        · exact va_at_kept (hold _ _ (kws_get g σ fs h1k c9)) (hkept _ (by show jad g k < _; rw [hB k (by omega)]; omega))
        · rw [e1]
          exact hcs k c9 h2k
    have hS9 : va_S (kA h0 me) s.heap T'.heap (locs ++ L') := by
      refine ⟨Nat.le_trans hS1.1 (by rw [e1]; exact hz9), fun q h1q h2q => ?_, fun q hq => ?_⟩
      · rw [hkept q (by omega)]
        exact hS1.2.1 q h1q h2q
      · rcases List.mem_append.mp hq with h | h
        · exact hS1.2.2 q h
        · have := hL q h
          unfold kA at this ⊢
          omega
    have e9 : c0 + 1 + (nn - 1) = c0 + nn := by omega
    rw [e9] at X''
    obtain ⟨t2, a1, b1⟩ := k p e s m as below meth c T'.heap (locs ++ L') ls X ⟨by omega, hz2⟩ hP9 hS9 hl T' rfl X''
    exact ⟨t2, stp t2 a1, b1⟩
  exact key T0 hT0 X0
end KN
