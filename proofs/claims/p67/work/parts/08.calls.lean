/-! calls: a callee's contract (jCon) used at a call; the numbers behind it are what the contract says -/
theorem jGI {ws : List Cond} (h : ∀ w ∈ ws, w ∈ jGw) : GoodIn jwX ws := fun w hw => ⟨List.mem_cons_of_mem _ (h w hw), jGw_good (h w hw)⟩
theorem jwd_in {mt : jMt} (h : Cond.code mt.1 mt.2.1 mt.2.2.1 mt.2.2.2 ∈ jGw) : ∀ w ∈ jwd mt, w ∈ jGw := fun w hw => (List.mem_cons.mp hw).elim (fun e => e ▸ h) id
def jLkC (mt' : jMt) (na : Nat) : Prop := Cond.initialized mt'.1.cls ∈ jGw ∧ Cond.code mt'.1 mt'.2.1 mt'.2.2.1 mt'.2.2.2 ∈ jGw ∧ (mt'.1.cls ≠ "java/lang/invoke/MethodHandle" ∧ mt'.1.cls ≠ "java/lang/invoke/VarHandle" ∧ (parseMethodDescriptor mt'.1.desc).map (fun d => d.parameters.length) = some na) ∧ mt'.2.2.1 ≤ 40
/-- a callee by an instance: its own words -/
def jMv (mt' : jMt) (na : Nat) : Prop := jLkC mt' na ∧ Cond.instanceMethod mt'.1 ∈ jGw ∧ Cond.selects mt'.1.cls mt'.1 mt'.1 ∈ jGw
/-- a static callee: its own words -/
def jMs (mt' : jMt) (na : Nat) : Prop := jLkC mt' na ∧ Cond.static mt'.1 ∈ jGw
theorem jblind (g : jG) (args : List Value) (σ : jM) : FrameBlind (jPc g args σ) := fun a U f mk q => by
  obtain ⟨q0, q1, q2⟩ := q
  exact ⟨q0, q1, q2.calling⟩
section JCall
variable {g : jG} {mt mt' : jMt} {n n' : Nat} {post post' : Option Value → jM → Prop} {pc nx tg : Nat} {kk : Int32} {L : List (Nat × Value)} {st r : List Value} {σ : jM} {F : List (Nat × Nat × Nat × Nat)} {C2 : List (Nat × Int64)} {tb : jTb} {idx na a ci : Nat} {as : List Value} {T : u_T} {N : Nat}
theorem jT.row (hT : jT mt F C2 tb) {i : Instr} (e : jtb tb pc = some (i, nx, tg, kk)) : decode mt.2.1 pc = .ok (i, jln i) ∧ nx = pc + jln i := by
  have h1 := List.all_eq_true.mp hT.2.2.1 _ (jtb_mem e)
  simp only [jEok, Bool.and_eq_true, decide_eq_true_eq, beq_iff_eq] at h1
  exact ⟨h1.1, h1.2.1⟩
/-- what a call's run gives, in the judgement's words -/
theorem jr_back {p : Program} {e : Env} {s : State} {m : MethodId} {as0 : Array Value} {below : List Frame} {meth : Method} {c : Code} {H : Heap} {locs : List Loc} {ls : Array Slot} {a9 : Array Value}
    (X : jX g mt p s m as0 meth c) (hS : va_S (jA g) s.heap H locs) (hl : lv_has ls mt.2.2.1 (jL g L))
    (hr : va_Run p g.1 e (jrm n) s m as0 below meth c H locs 0 0 0 0 (F0 m pc ls (st.map (jrl g))) (r.map (jrl g)) (jQ g post' a9) (jA g))
    (k : ∀ v τ, post' v τ → jW g mt n post (pc + 3) L (v.toList ++ r) τ) :
    W p g.1 e (jrm n) s m as0 below meth c H locs 0 0 (MQ below (jQ g post) as0 s 0 0 (jA g)) (F0 m pc ls (st.map (jrl g))) := by
  intro T0 hT0 X'
  obtain ⟨v, st₀, t, T', L', h0, X'', hL, e1, e2, ⟨⟨v0, τ, hv, hp, hP1, hC1⟩, hz, hk⟩, stp⟩ := hr T0 hT0 X'
  have hv0 : v = v0.map (jrl g) := by injection hv
  subst hv0
  rw [h0] at hz hk
  have hS' : va_S (jA g) s.heap T'.heap (locs ++ L') := by
    refine ⟨Nat.le_trans hS.1 (by rw [e1]; exact hz), fun q h1 h2 => ?_, fun q hq => ?_⟩
    · rw [e1, hk q (Nat.lt_of_lt_of_le h1 hS.1) h2]
      exact hS.2.1 q h1 h2
    · rcases List.mem_append.mp hq with h | h
      · exact hS.2.2 q h
      · exact hL q h
  have hst : ((v0.map (jrl g)).toList ++ r.map (jrl g)) = (v0.toList ++ r).map (jrl g) := by cases v0 <;> simp
  obtain ⟨t2, a1, b1⟩ := k v0 τ hp p e s m as0 below meth c T'.heap (locs ++ L') ls X (by rw [e1]; exact hP1) hS' hl T' rfl X''
  refine ⟨t2, stp t2 ?_, b1⟩
  have hg : ({ F0 m pc ls (st.map (jrl g)) with pc := (F0 m pc ls (st.map (jrl g))).pc + 3, stack := (v0.map (jrl g)).toList ++ r.map (jrl g) } : JFrame) = F0 m (pc + 3) ls ((v0.toList ++ r).map (jrl g)) := by rw [hst]
  rw [hg]
  exact a1
theorem jr_callV (hT : jT mt F C2 tb) (e : jtb tb pc = some (.invokevirtual idx, nx, tg, kk)) (hlk : Cond.methodLink mt.1.cls idx mt'.1 ∈ jGw) (hm : jMv mt' na) (hcl : vwCl[ci]? = some (mt'.1.cls, T, N)) (ha : jisO a ci = true) (hs : st = as.reverse ++ .ref a :: r) (hn : n' < n) (hna : as.length = na) (hst : (r.map fun v => v.category).sum ≤ 8)
    (hc : jCon g n' mt' (.ref a :: as) σ post') (k : ∀ v τ, post' v τ → jW g mt n post nx L (v.toList ++ r) τ) : jW g mt n post pc L st σ := by
  obtain ⟨hd, rfl⟩ := hT.row e
  obtain ⟨⟨hi, hco, hmh, hml⟩, him, hse⟩ := hm
  obtain ⟨h1, h2, h3⟩ := jisO_spec ha
  intro p e s m as0 below meth c H locs ls X hP hS hl
  have hM := hc X.2.2.2.2.2.2.2.1
  have hg := jws_get g σ h1
  rw [jcell_o h2, h3] at hg
  refine jr_back (a9 := (Value.ref (jad g a) :: as.map (jrl g)).toArray) X hS hl ?_ k
  refine va_runV (As := as.map (jrl g)) (rest := r.map (jrl g)) (b := jad g a) (C := mt'.1.cls) (n := na) (maxL := mt'.2.2.1) (ret := mt'.2.2.2) (bytes := mt'.2.1) ⟨X.1, X.2.1, X.2.2.1, X.2.2.2.2.2.1, X.2.2.2.2.2.2.1⟩ hM
    (cwV na X.2.2.2.2.2.2.1 (jGI (fun w hw => ?_)) rfl rfl rfl ⟨rfl, hmh⟩ ⟨?_, ?_⟩) ⟨jblind g _ σ, va_recv (q := (mt'.1.cls, T, N)) X.2.2.2.2.2.2.2.2.1 hP hcl hg, fun U hU hW => ⟨by simp [jrl], by rw [hU]; exact hP, X.2.2.2.2.2.2.2.2.moved hW (fun a h1 h2 => by rw [hU]; exact hS.2.1 a h1 h2)⟩⟩ rfl (by simp [hna]) hl.1 (by rw [hs]; simp [jrl]) (lv_room (by simpa [jrl_cat, Function.comp_def] using hst)) hd ⟨Nat.le_refl _, Nat.le_refl _⟩
  · unfold wsV at hw
    rcases List.mem_append.mp hw with hw | hw
    · simp only [List.mem_cons, List.not_mem_nil, or_false] at hw
      rcases hw with rfl | rfl | rfl | rfl
      · exact hlk
      · exact him
      · exact hse
      · exact hi
    · exact jwd_in hco w hw
  · show n' + 1 ≤ n
    omega
  · show 8 + (mt'.2.2.1 + 11) + 64 * n' ≤ 64 * n
    omega
theorem jr_callS (hT : jT mt F C2 tb) (e : jtb tb pc = some (.invokestatic idx, nx, tg, kk)) (hlk : Cond.methodLink mt.1.cls idx mt'.1 ∈ jGw) (hm : jMs mt' na) (hs : st = as.reverse ++ r) (hn : n' < n) (hna : as.length = na) (hst : (r.map fun v => v.category).sum ≤ 8)
    (hc : jCon g n' mt' as σ post') (k : ∀ v τ, post' v τ → jW g mt n post nx L (v.toList ++ r) τ) : jW g mt n post pc L st σ := by
  obtain ⟨hd, rfl⟩ := hT.row e
  obtain ⟨⟨hi, hco, hmh, hml⟩, hstat⟩ := hm
  intro p e s m as0 below meth c H locs ls X hP hS hl
  have hM := hc X.2.2.2.2.2.2.2.1
  have hts := X.2.2.2.2.2.2.1
  refine jr_back (a9 := (as.map (jrl g)).toArray) X hS hl ?_ k
  refine va_runS (As := as.map (jrl g)) (rest := r.map (jrl g)) (n := na) (maxL := mt'.2.2.1) (ret := mt'.2.2.2) (bytes := mt'.2.1) ⟨X.1, X.2.1, X.2.2.1, X.2.2.2.2.2.1, hts⟩ hM
    ⟨callB_of na hts (jGI (jwd_in hco)) rfl rfl rfl (hts _ (List.mem_cons_of_mem _ hi)) (hts _ (List.mem_cons_of_mem _ hlk)) hmh ⟨?_, ?_⟩, hts _ (List.mem_cons_of_mem _ hstat)⟩ ⟨jblind g _ σ, fun U hU hW => ⟨by simp, by rw [hU]; exact hP, X.2.2.2.2.2.2.2.2.moved hW (fun a h1 h2 => by rw [hU]; exact hS.2.1 a h1 h2)⟩⟩ rfl (by simp [hna]) hl.1 (by rw [hs]; simp) (lv_room (by simpa [jrl_cat, Function.comp_def] using hst)) hd ⟨Nat.le_refl _, Nat.le_refl _⟩
  · show n' + 1 ≤ n
    omega
  · show 8 + (mt'.2.2.1 + 11) + 64 * n' ≤ 64 * n
    omega
theorem jr_callSN {host : String} (hT : jT mt F C2 tb) (e : jtb tb pc = some (.invokestatic idx, nx, tg, kk)) (hlk : Cond.methodLinkNest mt.1.cls idx mt'.1 host ∈ jNw) (hm : jMs mt' na) (hs : st = as.reverse ++ r) (hn : n' < n) (hna : as.length = na) (hst : (r.map fun v => v.category).sum ≤ 8)
    (hc : jCon g n' mt' as σ post') (k : ∀ v τ, post' v τ → jW g mt n post nx L (v.toList ++ r) τ) : jW g mt n post pc L st σ := by
  obtain ⟨hd, rfl⟩ := hT.row e
  obtain ⟨⟨hi, hco, hmh, hml⟩, hstat⟩ := hm
  intro p e s m as0 below meth c H locs ls X hP hS hl
  have hM := hc X.2.2.2.2.2.2.2.1
  have hts := X.2.2.2.2.2.2.1
  refine jr_back (a9 := (as.map (jrl g)).toArray) X hS hl ?_ k
  refine va_runSN (As := as.map (jrl g)) (rest := r.map (jrl g)) (n := na) (maxL := mt'.2.2.1) (ret := mt'.2.2.2) (bytes := mt'.2.1) (host := host) ⟨X.1, X.2.1, X.2.2.1, X.2.2.2.2.2.1, hts⟩ hM
    ⟨va_cnB na hts (jGI (jwd_in hco)) rfl rfl rfl (X.2.2.2.2.2.2.2.2.2.1 _ hlk) (hts _ (List.mem_cons_of_mem _ hi)) hmh ⟨?_, ?_⟩, hts _ (List.mem_cons_of_mem _ hstat), trivial⟩ ⟨jblind g _ σ, fun U hU hW => ⟨by simp, by rw [hU]; exact hP, X.2.2.2.2.2.2.2.2.moved hW (fun a h1 h2 => by rw [hU]; exact hS.2.1 a h1 h2)⟩⟩ rfl (by simp [hna]) hl.1 (by rw [hs]; simp) (lv_room (by simpa [jrl_cat, Function.comp_def] using hst)) hd ⟨Nat.le_refl _, Nat.le_refl _⟩
  · show n' + 1 ≤ n
    omega
  · show 8 + (mt'.2.2.1 + 11) + 64 * n' ≤ 64 * n
    omega
end JCall
