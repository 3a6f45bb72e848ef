/-! calls in the judgement DW: of the class's methods (by jCon), of the law's own and the JDK's (by dCon) -/
def Dlo : List Value → Bool
  | [] => true
  | .ref k :: r => Nat.blt k 1000 && Dlo r
  | _ :: r => Dlo r
theorem Dlo_map {g : jG} {da : Nat → Nat} : ∀ {st : List Value}, Dlo st = true → st.map (jrl (Dg g da)) = st.map (jrl g)
  | [], _ => rfl
  | v :: r, h => by
    have h1 : Dlo r = true ∧ jrl (Dg g da) v = jrl g v := by
      cases v with
      | ref k =>
        simp only [Dlo, Bool.and_eq_true, Nat.blt_eq] at h
        exact ⟨h.2, congrArg Value.ref (by show Dadr g da k = jad g k; unfold Dadr; rw [if_pos h.1])⟩
      | _ => exact ⟨h, rfl⟩
    rw [List.map_cons, List.map_cons, Dlo_map h1.1, h1.2]
theorem Dg_lo {g : jG} {da : Nat → Nat} {k : Nat} (h : k < 1000) : Dadr g da k = jad g k := by
  unfold Dadr
  rw [if_pos h]
/-- every reference is kept where it is -/
def Dkp (kp : Nat → Bool) (st : List Value) : Prop := ∀ k, Value.ref k ∈ st → k < 1000 ∨ kp k = true
theorem Dmap_kp {g : jG} {da db : Nat → Nat} {kp : Nat → Bool} (h : ∀ k, kp k = true → db k = da k) {st : List Value} (hs : Dkp kp st) : st.map (jrl (Dg g db)) = st.map (jrl (Dg g da)) := by
  refine List.map_congr_left (fun v hv => ?_)
  cases v with
  | ref k =>
    refine congrArg Value.ref ?_
    show Dadr g db k = Dadr g da k
    unfold Dadr
    rcases hs k hv with h1 | h1
    · rw [if_pos h1, if_pos h1]
    · rw [h k h1]
  | _ => rfl
theorem DjL_kp {g : jG} {da db : Nat → Nat} {kp : Nat → Bool} (h : ∀ k, kp k = true → db k = da k) {L : List (Nat × Value)} (hs : Dkp kp (L.map Prod.snd)) : jL (Dg g db) L = jL (Dg g da) L := by
  refine List.map_congr_left (fun q hq => ?_)
  have h2 := Dmap_kp (g := g) (st := [q.2]) h (fun k hk => hs k (by
    rw [List.mem_singleton] at hk
    rw [hk]
    exact List.mem_map.mpr ⟨q, hq, rfl⟩))
  simp only [List.map_cons, List.map_nil, List.cons.injEq, and_true] at h2
  rw [h2]
theorem DA_lo {g : jG} {h0 : Nat} {da : Nat → Nat} {σ : dM} (hD : Dok g h0 da σ) {q : Nat} (h : jA g q) : h0 ≤ q := by
  obtain ⟨k, hk, rfl⟩ := h
  have hN : jN = 322 := rfl
  have := hD.2.1 k (Dal_lo hk)
  rw [Dg_lo (by omega)] at this
  exact this
theorem Djinj {g : jG} {h0 : Nat} {da : Nat → Nat} {σ : dM} (hD : Dok g h0 da σ) : jInj g := fun i j hi hj e => by
  have hN : jN = 322 := rfl
  refine hD.1 i j (Dal_lo hi) (Dal_lo hj) ?_
  rw [Dg_lo (by omega), Dg_lo (by omega)]
  exact e
theorem DC_jC {g : jG} {h0 : Nat} {da : Nat → Nat} {σ : dM} {U : State} (hD : Dok g h0 da σ) (h : DC g h0 U) : jC g U :=
  ⟨Dtys_sub h.1, h.2.1, ⟨h.2.2.1.1, h.2.2.1.2.1, fun U H H1 a b => h.2.2.1.2.2 U H H1 a (fun x h1 h2 => b x h1 (fun z => by have := DA_lo hD z; omega))⟩, h.2.2.2⟩
theorem Dws_j {g : jG} {da : Nat → Nat} {σ : dM} {H : Heap} (hP : va_P g.2.1 vwCl (Dws g da σ) H) : jHp g (DS σ) H := by
  intro i q hi
  obtain ⟨h1, rfl⟩ := jws_inv hi
  have hN : jN = 322 := rfl
  have h2 := Dws_at hP (Dal_lo h1)
  rw [Dg_lo (by omega)] at h2
  unfold Dce at h2
  rw [if_pos (by omega)] at h2
  exact h2
theorem Dws_back {g : jG} {h0 : Nat} {da : Nat → Nat} {σ : dM} {τ : jM} {H H1 : Heap} (hD : Dok g h0 da σ) (hP : va_P g.2.1 vwCl (Dws g da σ) H) (hP1 : jHp g τ H1) (hq : ∀ q : Nat, q < H.size → ¬ jA g q → H1[q]? = H[q]?) : va_P g.2.1 vwCl (Dws g da (DuS σ τ)) H1 := by
  have hN : jN = 322 := rfl
  refine Dws_of (fun k hk => ?_)
  have hk' : Dal σ k = true := hk
  rcases Nat.lt_or_ge k jN with c | c
  · have h1 := hP1 k _ (jws_get g τ c)
    rw [Dg_lo (by omega)]
    unfold Dce
    rw [if_pos (by omega)]
    exact h1
  · obtain ⟨h1, h2⟩ := Dal_lt hk'
    have hk2 : 1000 ≤ k := by
      rcases h2 with h2 | h2
      · omega
      · exact h2.1
    have h3 := Dws_at hP hk'
    have e : Dce g da (DuS σ τ) k = Dce g da σ k := by
      unfold Dce
      have hk3 : ¬ k < 1000 := by omega
      simp only [if_neg hk3]
      rfl
    rw [e]
    refine va_at_kept h3 (hq _ ?_ ?_)
    · obtain ⟨i, -, hi⟩ := Dws_get (g := g) (da := da) hk'
      exact vx_lt hP hi
    · rintro ⟨j, hj, e2⟩
      have e3 : Dadr g da k = Dadr g da j := by
        rw [Dg_lo (k := j) (by omega)]
        exact e2
      have := hD.1 k j hk' (Dal_lo hj) e3
      omega
section DC9
variable {g : jG} {z : dZ} {mt mt' : jMt} {pc : Nat} {L : List (Nat × Value)} {st r as : List Value} {σ : dM} {c0 s0 : Nat} {idx na n' a ci : Nat} {T : u_T} {N : Nat}
theorem Dcat (da : Nat → Nat) {r : List Value} (h : (r.map fun v => v.category).sum ≤ 8) : ((r.map (jrl (Dg g da))).map fun v => v.category).sum ≤ 8 := by
  simpa [jrl_cat, Function.comp_def] using h
/-- a method of the class -/
theorem dr_callC {post' : Option Value → jM → Prop} (hz : n' + 1 ≤ z.1.frames ∧ 8 + (mt'.2.2.1 + 11) + 64 * n' ≤ z.1.locals ∧ c0 ≤ z.1.cells ∧ s0 ≤ z.1.slots) (hd : decode mt.2.1 pc = .ok (.invokevirtual idx, 3)) (hlk : Cond.methodLink mt.1.cls idx mt'.1 ∈ jGw) (hm : jMv mt' na) (hcl : vwCl[ci]? = some (mt'.1.cls, T, N)) (ha : jisO a ci = true) (hs : st = as.reverse ++ .ref a :: r) (hna : as.length = na) (hst : (r.map fun v => v.category).sum ≤ 8) (hlo : Dlo as = true)
    (hc : jCon g n' mt' (.ref a :: as) (DS σ) post') (k : ∀ v τ, post' v τ → Dlo v.toList = true ∧ DW g z mt (pc + 3) L (v.toList ++ r) (DuS σ τ) c0 s0) : DW g z mt pc L st σ c0 s0 := by
  obtain ⟨⟨hi, hco, hmh, hml⟩, him, hse⟩ := hm
  obtain ⟨h1, h2, h3⟩ := jisO_spec ha
  have hN : jN = 322 := rfl
  intro p e s m as0 below meth c H locs ls da X hD hP hS hl T0 hT0 X0
  have hts := X.2.2.2.2.2.2.1
  have hM := hc (Djinj hD.1)
  have hPj := Dws_j hP
  have hg := jws_get g (DS σ) h1
  rw [jcell_o h2, h3] at hg
  have ea : Dadr g da a = jad g a := Dg_lo (by omega)
  have hr : va_Run p g.1 e z.1 s m as0 below meth c H locs c0 s0 0 0 (F0 m pc ls (st.map (jrl (Dg g da)))) (r.map (jrl (Dg g da))) (jQ g post' (Value.ref (jad g a) :: as.map (jrl g)).toArray) (jA g) := by
    refine va_runV (As := as.map (jrl g)) (rest := r.map (jrl (Dg g da))) (b := jad g a) (C := mt'.1.cls) (n := na) (maxL := mt'.2.2.1) (ret := mt'.2.2.2) (bytes := mt'.2.1) ⟨X.1, X.2.1, X.2.2.1, X.2.2.2.2.2.1, hts⟩ hM
      (cwV na hts (jGI (fun w hw => ?_)) rfl rfl rfl ⟨rfl, hmh⟩ ⟨hz.1, hz.2.1⟩) ⟨jblind g _ _, va_recv (q := (mt'.1.cls, T, N)) (Dtys_sub X.2.2.2.2.2.2.2.2.1) hPj hcl hg, fun U hU hW => ⟨by simp [jrl], by rw [hU]; exact hPj, DC_jC hD.1 (X.2.2.2.2.2.2.2.2.moved hW (fun a h1 h2 => by rw [hU]; exact hS.2.1 a h1 (Dge_not h2)))⟩⟩ rfl (by simp [hna]) hl.1 (by rw [hs, ← Dlo_map (da := da) hlo]; simp [jrl]; exact ea) (lv_room (Dcat da hst)) hd ⟨hz.2.2.1, hz.2.2.2⟩
    unfold wsV at hw
    rcases List.mem_append.mp hw with hw | hw
    · simp only [List.mem_cons, List.not_mem_nil, or_false] at hw
      rcases hw with rfl | rfl | rfl | rfl
      · exact hlk
      · exact him
      · exact hse
      · exact hi
    · exact jwd_in hco w hw
  obtain ⟨v, st₀, t, T', L', h00, X'', hL, e1, e2, ⟨⟨v0, τ, hv, hp, hP1, hC1⟩, hzz, hk⟩, stp⟩ := hr T0 hT0 X0
  have hv0 : v = v0.map (jrl g) := by injection hv
  subst hv0
  rw [h00] at hzz hk
  have hq9 : ∀ q : Nat, q < H.size → ¬ jA g q → T'.heap[q]? = H[q]? := fun q h1 h2 => by rw [e1]; exact hk q h1 h2
  have hS' : va_S (Dge z.2.2.2.2) s.heap T'.heap (locs ++ L') := by
    refine ⟨Nat.le_trans hS.1 (by rw [e1]; exact hzz), fun q h1 h2 => ?_, fun q hq => ?_⟩
    · rw [hq9 q (Nat.lt_of_lt_of_le h1 hS.1) (fun z9 => h2 (DA_lo hD.1 z9))]
      exact hS.2.1 q h1 h2
    · rcases List.mem_append.mp hq with h | h
      · exact hS.2.2 q h
      · exact DA_lo hD.1 (hL q h)
  obtain ⟨hv9, hk9⟩ := k v0 τ hp
  obtain ⟨t2, a1, b1⟩ := hk9 p e s m as0 below meth c T'.heap (locs ++ L') ls da X ⟨⟨hD.1.1, hD.1.2.1, hD.1.2.2⟩, hD.2⟩ (Dws_back hD.1 hP (by rw [e1]; exact hP1) hq9) hS' hl T' rfl X''
  refine ⟨t2, stp t2 ?_, b1⟩
  have hst9 : ((v0.map (jrl g)).toList ++ r.map (jrl (Dg g da))) = (v0.toList ++ r).map (jrl (Dg g da)) := by
    rw [List.map_append, Dlo_map hv9]
    cases v0 <;> simp
  have hg9 : ({ F0 m pc ls (st.map (jrl (Dg g da))) with pc := (F0 m pc ls (st.map (jrl (Dg g da)))).pc + 3, stack := (v0.map (jrl g)).toList ++ r.map (jrl (Dg g da)) } : JFrame) = F0 m (pc + 3) ls ((v0.toList ++ r).map (jrl (Dg g da))) := by rw [hst9]
  rw [hg9]
  exact a1
theorem dblind {h0 : Nat} {da : Nat → Nat} {args : List Value} {δ : dM} : FrameBlind (dPc g h0 da args δ) := fun a U f mk q => by
  obtain ⟨q0, q1, q2, q3, q4⟩ := q
  exact ⟨q0, q1, q2, q3, q4.calling⟩
/-- what a call's run gives -/
theorem DW.back {mc ms : Nat} {kp : Nat → Bool} {post' : Option Value → dM → Prop} {p : Program} {e : Env} {s : State} {m : MethodId} {as0 : Array Value} {below : List Frame} {meth : Method} {c : Code} {H : Heap} {locs : List Loc} {ls : Array Slot} {a9 : Array Value} {da : Nat → Nat}
    (hkz : ∀ k, z.2.2.1 k = true → kp k = true) (hL : Dkp kp (L.map Prod.snd)) (hr9 : Dkp kp r)
    (X : dX g z.2.2.2.2 mt p s m as0 meth c) (hD : Dok g z.2.2.2.2 da σ ∧ ∀ k, z.2.2.1 k = true → da k = z.2.2.2.1 k) (hS : va_S (Dge z.2.2.2.2) s.heap H locs) (hl : lv_has ls mt.2.2.1 (jL (Dg g da) L))
    (hr : va_Run p g.1 e z.1 s m as0 below meth c H locs c0 s0 mc ms (F0 m pc ls (st.map (jrl (Dg g da)))) (r.map (jrl (Dg g da))) (dQ g z.2.2.2.2 kp da post' a9) (Dge z.2.2.2.2))
    (k : ∀ v τ, post' v τ → DW g z mt (pc + 3) L (v.toList ++ r) τ (c0 + mc) (s0 + ms)) :
    W p g.1 e z.1 s m as0 below meth c H locs c0 s0 (z.2.1 below as0 s) (F0 m pc ls (st.map (jrl (Dg g da)))) := by
  intro T0 hT0 X0
  obtain ⟨v, st₀, t, T', L', h00, X'', hL9, e1, e2, ⟨⟨v0, τ, db, hv, hp, hok, hkp, hP1, hC1⟩, hzz, hk⟩, stp⟩ := hr T0 hT0 X0
  have hv0 : v = v0.map (jrl (Dg g db)) := by injection hv
  subst hv0
  rw [h00] at hzz hk
  have hS' : va_S (Dge z.2.2.2.2) s.heap T'.heap (locs ++ L') := by
    refine ⟨Nat.le_trans hS.1 (by rw [e1]; exact hzz), fun q h1 h2 => ?_, fun q hq => ?_⟩
    · rw [e1, hk q (Nat.lt_of_lt_of_le h1 hS.1) h2]
      exact hS.2.1 q h1 h2
    · rcases List.mem_append.mp hq with h | h
      · exact hS.2.2 q h
      · exact hL9 q h
  obtain ⟨t2, a1, b1⟩ := k v0 τ hp p e s m as0 below meth c T'.heap (locs ++ L') ls db X ⟨hok, fun k hk => (hkp k (hkz k hk)).trans (hD.2 k hk)⟩ (by rw [e1]; exact hP1) hS' (by rw [DjL_kp hkp hL]; exact hl) T' rfl X''
  refine ⟨t2, stp t2 ?_, b1⟩
  have hst9 : ((v0.map (jrl (Dg g db))).toList ++ r.map (jrl (Dg g da))) = (v0.toList ++ r).map (jrl (Dg g db)) := by
    rw [List.map_append, Dmap_kp hkp hr9]
    cases v0 <;> simp
  have hg9 : ({ F0 m pc ls (st.map (jrl (Dg g da))) with pc := (F0 m pc ls (st.map (jrl (Dg g da)))).pc + 3, stack := (v0.map (jrl (Dg g db))).toList ++ r.map (jrl (Dg g da)) } : JFrame) = F0 m (pc + 3) ls ((v0.toList ++ r).map (jrl (Dg g db))) := by rw [hst9]
  rw [hg9]
  exact a1
/-- the room that a callee asks for -/
def Dfit (z : dZ) (mt' : jMt) (n' mc ms c0 s0 : Nat) : Prop := n' + 1 ≤ z.1.frames ∧ 8 + (mt'.2.2.1 + 11) + 64 * n' ≤ z.1.locals ∧ c0 + mc ≤ z.1.cells ∧ s0 + ms ≤ z.1.slots
/-- the names that a callee may give anew aren't at hand -/
def Dfree (z : dZ) (L : List (Nat × Value)) (r : List Value) : List Nat → Prop
  | [] => True
  | a :: tl => (z.2.2.1 a = false ∧ DnL a L = true ∧ Dnr a r = true) ∧ Dfree z L r tl
theorem Dfree_at {L : List (Nat × Value)} {r : List Value} : ∀ {tl : List Nat}, Dfree z L r tl → ∀ a ∈ tl, z.2.2.1 a = false ∧ DnL a L = true ∧ Dnr a r = true
  | [], _, _, h => absurd h List.not_mem_nil
  | b :: tl, h, a, ha => by
    rcases List.mem_cons.mp ha with rfl | ha
    · exact h.1
    · exact Dfree_at h.2 a ha
theorem Dnr_mem {a : Nat} : ∀ {st : List Value}, Dnr a st = true → Value.ref a ∉ st
  | [], _ => List.not_mem_nil
  | v :: r, h => by
    have h1 : Dnr a r = true ∧ v ≠ .ref a := by
      cases v with
      | ref k =>
        simp only [Dnr, Bool.and_eq_true, Bool.not_eq_true', beq_eq_false_iff_ne] at h
        exact ⟨h.2, fun z => h.1 (by injection z)⟩
      | _ => exact ⟨h, fun z => (by cases z)⟩
    intro hm
    rcases List.mem_cons.mp hm with e | e
    · exact h1.2 e.symm
    · exact Dnr_mem h1.1 e
theorem DnL_mem {a : Nat} : ∀ {L : List (Nat × Value)}, DnL a L = true → Value.ref a ∉ L.map Prod.snd
  | [], _ => List.not_mem_nil
  | (i, v) :: r, h => by
    have h1 : DnL a r = true ∧ v ≠ .ref a := by
      cases v with
      | ref k =>
        simp only [DnL, Bool.and_eq_true, Bool.not_eq_true', beq_eq_false_iff_ne] at h
        exact ⟨h.2, fun z => h.1 (by injection z)⟩
      | _ => exact ⟨h, fun z => (by cases z)⟩
    intro hm
    rcases List.mem_cons.mp hm with e | e
    · exact h1.2 e.symm
    · exact DnL_mem h1.1 e
/-- what is kept by a call: what the caller keeps, and what it holds -/
def Dkeep (z : dZ) (L : List (Nat × Value)) (r : List Value) : Nat → Bool := fun k => z.2.2.1 k || (List.any (L.map Prod.snd ++ r) (fun v => match v with | .ref q => q == k | _ => false))
theorem Dkeep_z {k : Nat} (h : z.2.2.1 k = true) : Dkeep z L r k = true := by
  unfold Dkeep
  rw [h]
  rfl
theorem Dkeep_L : Dkp (Dkeep z L r) (L.map Prod.snd) := fun k hk => Or.inr (by
  unfold Dkeep
  rw [Bool.or_eq_true]
  exact Or.inr (List.any_eq_true.mpr ⟨.ref k, List.mem_append_left _ hk, by simp⟩))
theorem Dkeep_r : Dkp (Dkeep z L r) r := fun k hk => Or.inr (by
  unfold Dkeep
  rw [Bool.or_eq_true]
  exact Or.inr (List.any_eq_true.mpr ⟨.ref k, List.mem_append_right _ hk, by simp⟩))
theorem Dkeep_no {tl : List Nat} (h : Dfree z L r tl) : ∀ a ∈ tl, Dkeep z L r a = false := fun a ha => by
  obtain ⟨h1, h2, h3⟩ := Dfree_at h a ha
  unfold Dkeep
  rw [h1, Bool.false_or]
  cases h4 : List.any (L.map Prod.snd ++ r) (fun v => match v with | .ref q => q == a | _ => false) with
  | false => rfl
  | true =>
    obtain ⟨v, hv, hv2⟩ := List.any_eq_true.mp h4
    exfalso
    cases v with
    | ref q =>
      have e : q = a := by simpa using hv2
      subst e
      rcases List.mem_append.mp hv with h5 | h5
      · exact DnL_mem h2 h5
      · exact Dnr_mem h3 h5
    | _ => exact absurd hv2 (by simp)
/-- a static method of the law's or the JDK's -/
theorem dr_callS {mc ms : Nat} {tl : List Nat} {post' : Option Value → dM → Prop} (hf : Dfit z mt' n' mc ms c0 s0) (hfr : Dfree z L r tl) (hd : decode mt.2.1 pc = .ok (.invokestatic idx, 3)) (hlk : Cond.methodLink mt.1.cls idx mt'.1 ∈ jGw ∨ ∃ host, Cond.methodLinkNest mt.1.cls idx mt'.1 host ∈ jNw) (hm : jMs mt' na) (hs : st = as.reverse ++ r) (hna : as.length = na) (hst : (r.map fun v => v.category).sum ≤ 8)
    (hc : dCon g z.2.2.2.2 n' mc ms tl mt' as σ post') (k : ∀ v τ, post' v τ → DW g z mt (pc + 3) L (v.toList ++ r) τ (c0 + mc) (s0 + ms)) : DW g z mt pc L st σ c0 s0 := by
  obtain ⟨⟨hi, hco, hmh, hml⟩, hstat⟩ := hm
  intro p e s m as0 below meth c H locs ls da X hD hP hS hl
  have hts := X.2.2.2.2.2.2.1
  have hM := hc (Dkeep z L r) (Dkeep_no hfr) da
  have hpre : PreS s H (dPc g z.2.2.2.2 da as σ) (as.map (jrl (Dg g da))) := ⟨dblind, fun U hU hW => ⟨by simp, by rw [hU]; exact hP, hD.1, by rw [hU]; exact Nat.le_trans X.2.2.2.2.2.2.2.1 hS.1, X.2.2.2.2.2.2.2.2.moved hW (fun a h1 h2 => by rw [hU]; exact hS.2.1 a h1 (Dge_not h2))⟩⟩
  refine DW.back (a9 := (as.map (jrl (Dg g da))).toArray) (kp := Dkeep z L r) (fun k hk => Dkeep_z hk) Dkeep_L Dkeep_r X hD hS hl ?_ k
  rcases hlk with hlk | ⟨host, hlk⟩
  · exact va_runS (As := as.map (jrl (Dg g da))) (rest := r.map (jrl (Dg g da))) (n := na) (maxL := mt'.2.2.1) (ret := mt'.2.2.2) (bytes := mt'.2.1) ⟨X.1, X.2.1, X.2.2.1, X.2.2.2.2.2.1, hts⟩ hM
      ⟨callB_of na hts (jGI (jwd_in hco)) rfl rfl rfl (hts _ (List.mem_cons_of_mem _ hi)) (hts _ (List.mem_cons_of_mem _ hlk)) hmh ⟨hf.1, hf.2.1⟩, hts _ (List.mem_cons_of_mem _ hstat)⟩ hpre rfl (by simp [hna]) hl.1 (by rw [hs]; simp) (lv_room (Dcat da hst)) hd ⟨hf.2.2.1, hf.2.2.2⟩
  · exact va_runSN (As := as.map (jrl (Dg g da))) (rest := r.map (jrl (Dg g da))) (n := na) (maxL := mt'.2.2.1) (ret := mt'.2.2.2) (bytes := mt'.2.1) (host := host) ⟨X.1, X.2.1, X.2.2.1, X.2.2.2.2.2.1, hts⟩ hM
      ⟨va_cnB na hts (jGI (jwd_in hco)) rfl rfl rfl (X.2.2.2.2.2.2.2.2.2.1 _ hlk) (hts _ (List.mem_cons_of_mem _ hi)) hmh ⟨hf.1, hf.2.1⟩, hts _ (List.mem_cons_of_mem _ hstat), trivial⟩ hpre rfl (by simp [hna]) hl.1 (by rw [hs]; simp) (lv_room (Dcat da hst)) hd ⟨hf.2.2.1, hf.2.2.2⟩
/-- an instance's method -/
theorem dr_callV {mc ms : Nat} {tl : List Nat} {post' : Option Value → dM → Prop} (hf : Dfit z mt' n' mc ms c0 s0) (hfr : Dfree z L r tl) (hd : decode mt.2.1 pc = .ok (.invokevirtual idx, 3)) (hlk : Cond.methodLink mt.1.cls idx mt'.1 ∈ jGw) (hm : jMv mt' na) (hcl : vwCl[ci]? = some (mt'.1.cls, T, N)) (ha : disO a ci = true) (hA : DA σ a = true) (hs : st = as.reverse ++ .ref a :: r) (hna : as.length = na) (hst : (r.map fun v => v.category).sum ≤ 8)
    (hc : dCon g z.2.2.2.2 n' mc ms tl mt' (.ref a :: as) σ post') (k : ∀ v τ, post' v τ → DW g z mt (pc + 3) L (v.toList ++ r) τ (c0 + mc) (s0 + ms)) : DW g z mt pc L st σ c0 s0 := by
  obtain ⟨⟨hi, hco, hmh, hml⟩, him, hse⟩ := hm
  obtain ⟨h1, h2, h3, h4⟩ := disO_spec ha
  intro p e s m as0 below meth c H locs ls da X hD hP hS hl
  have hts := X.2.2.2.2.2.2.1
  have hM := hc (Dkeep z L r) (Dkeep_no hfr) da
  obtain ⟨i, -, hg⟩ := Dws_get (g := g) (da := da) (Dal_hi h1 h2 hA)
  rw [Dce_o h1 h3, h4] at hg
  refine DW.back (a9 := (Value.ref (Dadr g da a) :: as.map (jrl (Dg g da))).toArray) (kp := Dkeep z L r) (fun k hk => Dkeep_z hk) Dkeep_L Dkeep_r X hD hS hl ?_ k
  refine va_runV (As := as.map (jrl (Dg g da))) (rest := r.map (jrl (Dg g da))) (b := Dadr g da a) (C := mt'.1.cls) (n := na) (maxL := mt'.2.2.1) (ret := mt'.2.2.2) (bytes := mt'.2.1) ⟨X.1, X.2.1, X.2.2.1, X.2.2.2.2.2.1, hts⟩ hM
    (cwV na hts (jGI (fun w hw => ?_)) rfl rfl rfl ⟨rfl, hmh⟩ ⟨hf.1, hf.2.1⟩) ⟨dblind, va_recv (q := (mt'.1.cls, T, N)) X.2.2.2.2.2.2.2.2.1 hP hcl hg, fun U hU hW => ⟨by simp [jrl]; rfl, by rw [hU]; exact hP, hD.1, by rw [hU]; exact Nat.le_trans X.2.2.2.2.2.2.2.1 hS.1, X.2.2.2.2.2.2.2.2.moved hW (fun a h1 h2 => by rw [hU]; exact hS.2.1 a h1 (Dge_not h2))⟩⟩ rfl (by simp [hna]) hl.1 (by rw [hs]; simp [jrl]; rfl) (lv_room (Dcat da hst)) hd ⟨hf.2.2.1, hf.2.2.2⟩
  unfold wsV at hw
  rcases List.mem_append.mp hw with hw | hw
  · simp only [List.mem_cons, List.not_mem_nil, or_false] at hw
    rcases hw with rfl | rfl | rfl | rfl
    · exact hlk
    · exact him
    · exact hse
    · exact hi
  · exact jwd_in hco w hw
end DC9
