/-! contracts of the law's methods; how a walk ends; writes to fields; new arrays -/
def drm (n mc ms : Nat) : Room := { frames := n, cells := mc, slots := ms, locals := 64 * n }
def dQ (g : jG) (h0 : Nat) (kp : Nat → Bool) (da0 : Nat → Nat) (post : Option Value → dM → Prop) : Array Value → State → Outcome → State → Prop := fun _ st oc t =>
  (∃ (v : Option Value) (δ : dM) (da : Nat → Nat), oc = .returned (v.map (jrl (Dg g da))) ∧ post v δ ∧ Dok g h0 da δ ∧ (∀ k, kp k = true → da k = da0 k) ∧ va_P g.2.1 vwCl (Dws g da δ) t.heap ∧ DC g h0 t) ∧ va_F (Dge h0) st t
def dPc (g : jG) (h0 : Nat) (da : Nat → Nat) (args : List Value) (δ : dM) : Array Value → State → Prop := va_Pc (args.map (jrl (Dg g da))) (fun U => va_P g.2.1 vwCl (Dws g da δ) U.heap ∧ Dok g h0 da δ ∧ h0 ≤ U.heap.size ∧ DC g h0 U)
def dCon (g : jG) (h0 n mc ms : Nat) (tl : List Nat) (mt : jMt) (args : List Value) (δ : dM) (post : Option Value → dM → Prop) : Prop :=
  ∀ (kp : Nat → Bool), (∀ a ∈ tl, kp a = false) → ∀ da, Met g.1 mt.1 (jwd mt) (drm n mc ms) (dPc g h0 da args δ) (dQ g h0 kp da post) mc ms (Dge h0)
def dzC (g : jG) (h0 n mc ms : Nat) (kp : Nat → Bool) (da : Nat → Nat) (post : Option Value → dM → Prop) : dZ := (drm n mc ms, fun below a s => MQ below (dQ g h0 kp da post) a s mc ms (Dge h0), kp, da, h0)
/-- fewer cells, what they hold the same -/
def Dsub (δ ε : dM) : Prop := DS δ = DS ε ∧ Dcl0 δ ∧ ∀ k, 1000 ≤ k → DA δ k = true → DA ε k = true ∧ DI δ k = DI ε k ∧ DL δ k = DL ε k ∧ DR δ k = DR ε k ∧ DN δ k = DN ε k
theorem Dsub_al {δ ε : dM} (h : Dsub δ ε) {k : Nat} (hk : Dal δ k = true) : Dal ε k = true := by
  obtain ⟨h1, h2⟩ := Dal_lt hk
  rcases h2 with h2 | ⟨h2, h3⟩
  · exact Dal_lo h2
  · exact Dal_hi h2 h1 (h.2.2 k h2 h3).1
theorem Dsub_ce {g : jG} {da : Nat → Nat} {δ ε : dM} (h : Dsub δ ε) {k : Nat} (hk : Dal δ k = true) : Dce g da δ k = Dce g da ε k := by
  obtain ⟨h1, h2⟩ := Dal_lt hk
  have hN : jN = 322 := rfl
  rcases h2 with h2 | ⟨h2, h3⟩
  · unfold Dce
    rw [if_pos (by omega), if_pos (by omega), h.1]
  · obtain ⟨-, e1, e2, e3, e4⟩ := h.2.2 k h2 h3
    exact Dce_cg h.1 e1 e2 (fun j => by rw [e3]) e4
theorem Dsub_ok {g : jG} {h0 : Nat} {da : Nat → Nat} {δ ε : dM} (h : Dsub δ ε) (hD : Dok g h0 da ε) : Dok g h0 da δ :=
  ⟨fun i j hi hj e => hD.1 i j (Dsub_al h hi) (Dsub_al h hj) e, fun i hi => hD.2.1 i (Dsub_al h hi), h.2.1⟩
theorem Dsub_P {g : jG} {da : Nat → Nat} {δ ε : dM} {H : Heap} (h : Dsub δ ε) (hP : va_P g.2.1 vwCl (Dws g da ε) H) : va_P g.2.1 vwCl (Dws g da δ) H :=
  Dws_of (fun k hk => by rw [Dsub_ce h hk]; exact Dws_at hP (Dsub_al h hk))
theorem Dsub.rfl {δ : dM} (h : Dcl0 δ) : Dsub δ δ := ⟨by first | rfl | exact Eq.refl _, h, fun _ _ h => ⟨h, Eq.refl _, Eq.refl _, Eq.refl _, Eq.refl _⟩⟩
theorem DC.moved {g : jG} {h0 : Nat} {s U : State} (hW : s.WarmedH U.vm) (hq : ∀ a : Nat, a < s.heap.size → a < h0 → U.heap[a]? = s.heap[a]?) (h : DC g h0 s) : DC g h0 U := by
  refine ⟨va_K.moved hW.alike h.1, fun w hw => ?_, h.2.2.1, h.2.2.1.2.2 U s.heap U.heap (h.2.2.1.1 s U s.heap hW h.2.2.2) hq⟩
  have h1 := (List.mem_filter.mp hw).2
  have h2 := h.2.1 w hw
  cases w <;> first | exact va_Nw.warmF hW h2 | exact va_Nw.warmM hW h2 | (exfalso; simp at h1)
theorem DC.calling {g : jG} {h0 : Nat} {U : State} {f : JFrame} {mk : MethodId} {a : Array Value} (h : DC g h0 U) : DC g h0 (U.calling f mk a) := by
  refine ⟨va_K.moved (Vm.Alike.refl U.vm) h.1, fun w hw => ?_, h.2.2.1, h.2.2.1.2.1 U (U.calling f mk a) U.heap rfl h.2.2.2⟩
  have h1 := (List.mem_filter.mp hw).2
  have h2 := h.2.1 w hw
  cases w <;> first | exact va_Nw.same rfl rfl h2 | (exfalso; simp at h1)
theorem Dge_not {h0 q : Nat} (h : q < h0) : ¬ Dge h0 q := fun z => Nat.lt_irrefl _ (Nat.lt_of_lt_of_le h z)
theorem Dwarm {g : jG} {h0 : Nat} {s t : State} {H : Heap} {locs : List Loc} (hC : DC g h0 s) (hS : va_S (Dge h0) s.heap H locs) (ht : t.heap = H) (hW : s.WarmedH t.vm) : DC g h0 t :=
  hC.moved hW (fun a h1 h2 => by rw [ht]; exact hS.2.1 a h1 (Dge_not h2))
/-- a contract out of a walk from the entry -/
theorem dCon.of {g : jG} {h0 n mc ms : Nat} {tl : List Nat} {mt : jMt} {args : List Value} {δ : dM} {post : Option Value → dM → Prop} (hy : plainFor mt.1 = true) (hlen : (lg_sl args).length ≤ mt.2.2.1)
    (k : ∀ kp, (∀ a ∈ tl, kp a = false) → Dcl0 δ → ∀ da, DW g (dzC g h0 n mc ms kp da post) mt 0 (lv_args 0 args) [] δ 0 0) : dCon g h0 n mc ms tl mt args δ post := by
  intro kp hkp da
  refine jMetF (cc := mt.2.1) (maxL := mt.2.2.1) (ret := mt.2.2.2) hy rfl ?_
  intro p e s m as below meth c s₁ B hml hv
  obtain ⟨rfl, hP, hD, h9, hC⟩ := hv
  have hl := lv_entry (args.map (jrl (Dg g da))) (n := mt.2.2.1) (by rw [jsl_len]; exact hlen)
  rw [lg_entry_eq]
  rw [jL_args] at hl
  exact k kp hkp hD.2.2 da p e s m _ below meth c s.heap [] _ da ⟨B.exec, B.bytes, hml, B.returns, ⟨B.notSynchronized, (name_of_methodNamed B.named B.method).1⟩, findClass_of_methodNamed B.named, jwX_of (atoms_spec (ws := jwd mt) B.pre), h9, hC⟩ ⟨hD, fun _ _ => rfl⟩ hP va_S.rf hl
section DE
variable {g : jG} {z : dZ} {mt : jMt} {pc : Nat} {L : List (Nat × Value)} {r : List Value} {σ : dM} {c0 s0 : Nat}
/-- fewer cells -/
theorem DW.sub {ε : dM} (h : Dsub ε σ) (k : DW g z mt pc L r ε c0 s0) : DW g z mt pc L r σ c0 s0 := by
  intro p e s m as below meth c H locs ls da X hD hP hS hl
  exact k p e s m as below meth c H locs ls da X ⟨Dsub_ok h hD.1, hD.2⟩ (Dsub_P h hP) hS hl
theorem DW.cl (k : Dcl0 σ → DW g z mt pc L r σ c0 s0) : DW g z mt pc L r σ c0 s0 := by
  intro p e s m as below meth c H locs ls da X hD hP hS hl
  exact k hD.1.2.2 p e s m as below meth c H locs ls da X hD hP hS hl
theorem DW.mono {L' : List (Nat × Value)} (k : DW g z mt pc L' r σ c0 s0) (h : ∀ q ∈ L', q ∈ L) : DW g z mt pc L r σ c0 s0 := by
  intro p e s m as below meth c H locs ls da X hD hP hS hl
  refine k p e s m as below meth c H locs ls da X hD hP hS (lv_mono hl (fun q hq => ?_))
  obtain ⟨y, hy, rfl⟩ := List.mem_map.mp hq
  exact List.mem_map.mpr ⟨y, h y hy, rfl⟩
theorem DW.wide {c1 s1 : Nat} (h1 : c0 ≤ c1) (h2 : s0 ≤ s1) (k : DW g z mt pc L r σ c1 s1) : DW g z mt pc L r σ c0 s0 := by
  intro p e s m as below meth c H locs ls da X hD hP hS hl
  exact W.widen (k := c1) (n := s1) h1 h2 (k p e s m as below meth c H locs ls da X hD hP hS hl)
/-- what a return asks for -/
def dRv (ret : Option FieldType) (i : Instr) (v : Option Value) : Prop := match i, v with
  | .ireturn, some (.int x) => ret = some .int ∨ (ret = some .boolean ∧ (x = 0 ∨ x = 1)) ∨ (∃ ty, ret = some ty ∧ narrow ty (.int x) = .int x)
  | .areturn, some (.ref _) => ∃ rt, ret = some rt ∧ ((∃ n, rt = .object n) ∨ ∃ t, rt = .array t)
  | .return_, none => ret = none
  | _, _ => False
def dRok (g : jG) (z : dZ) (mt : jMt) (R : Option Value → dM → Nat → Nat → Prop) : Prop := ∀ (v : Option Value) (i : Instr) (pc : Nat) (L : List (Nat × Value)) (σ : dM) (c0 s0 : Nat), decode mt.2.1 pc = .ok (i, 1) → dRv mt.2.2.2 i v → R v σ c0 s0 → DW g z mt pc L v.toList σ c0 s0
def dRp (mc ms : Nat) (post : Option Value → dM → Prop) : Option Value → dM → Nat → Nat → Prop := fun v σ c0 s0 => (c0 ≤ mc ∧ s0 ≤ ms) ∧ ∃ δ, Dsub δ σ ∧ post v δ
theorem dRok_no : dRok g z mt (fun _ _ _ _ => False) := fun _ _ _ _ _ _ _ _ _ h => h.elim
theorem dRok_con {h0 n mc ms : Nat} {kp : Nat → Bool} {da0 : Nat → Nat} {post : Option Value → dM → Prop} : dRok g (dzC g h0 n mc ms kp da0 post) mt (dRp mc ms post) := by
  intro v i pc L σ c0 s0 d hr hR
  obtain ⟨⟨hc, hs⟩, δ, hsub, hpost⟩ := hR
  refine DW.wide hc hs ?_
  intro p e s m as below meth c H locs ls da X hD hP hS hl
  have hlocks := X.2.2.2.2.1.1
  have hend : ∀ t : State, t.heap = H → s.WarmedH t.vm → dQ g h0 kp da0 post as s (.returned (v.map (jrl (Dg g da)))) t := fun t ht hW =>
    ⟨⟨v, δ, da, rfl, hpost, Dsub_ok hsub hD.1, hD.2, by rw [ht]; exact Dsub_P hsub hP, Dwarm X.2.2.2.2.2.2.2.2 hS ht hW⟩, hS.F ht⟩
  match i, v, hr with
  | .ireturn, some (.int x), hr =>
    rcases hr with hr | ⟨hr, hx⟩ | ⟨ty, hr, hx⟩
    · exact W.iret X.1 X.2.1 (X.2.2.2.1.trans hr) hend hS.2.2 d hlocks
    · exact W.zret X.1 X.2.1 (X.2.2.2.1.trans hr) (by rcases hx with rfl | rfl <;> rfl) hend hS.2.2 d hlocks
    · exact W.zret X.1 X.2.1 (X.2.2.2.1.trans hr) hx hend hS.2.2 d hlocks
  | .areturn, some (.ref a), hr =>
    obtain ⟨rt, hr, hrt⟩ := hr
    exact W.aret X.1 X.2.1 (X.2.2.2.1.trans hr) hrt (Or.inr ⟨_, rfl⟩) hend hS.2.2 d hlocks
  | .return_, none, hr => exact W.vret X.1 X.2.1 (X.2.2.2.1.trans hr) hend hS.2.2 d hlocks
theorem dr_putv {a ci f tc j t9 : Nat} {x : Value} {ε : dM} {ty : FieldType} (hf : dFok mt.1.cls (j, ci, f, tc)) (ho : dobj a ci f t9 = true) (hA : DA σ a = true)
    (hfin : ∀ d fin, dty tc d fin = true → fin = false) (hd9 : ∀ (T : u_T), dty tc (T f).2.2.1 (T f).2.2.2 = true → (tc = 2 → ∃ ty, parseFieldDescriptor (T f).2.2.1 = some ty ∧ ty.isReference = true) → ∃ ty, parseFieldDescriptor (T f).2.2.1 = some ty ∧ ∀ da, narrow ty (jrl (Dg g da) x) = jrl (Dg g da) x ∧ fits ty (jrl (Dg g da) x) = true)
    (hA2 : ∀ k, Dal ε k = Dal σ k) (hcl : Dcl0 σ → Dcl0 ε) (hv : ∀ da, Dfv g da ε a f ((Dsh a).2.2.getD f 0) = jrl (Dg g da) x) (ho2 : ∀ da j, j ≠ f → Dfv g da ε a j ((Dsh a).2.2.getD j 0) = Dfv g da σ a j ((Dsh a).2.2.getD j 0)) (ho3 : ∀ da q, q ≠ a → Dce g da ε q = Dce g da σ q)
    (hcat : x.category = 1 ∨ x.category = 2) (d : decode mt.2.1 pc = .ok (.putfield j, 3)) (k : DW g z mt (pc + 3) L r ε c0 s0) : DW g z mt pc L (x :: .ref a :: r) σ c0 s0 := by
  intro p e s m as below meth c H locs ls da X hD hP hS hl
  obtain ⟨C, T, N, ⟨q1, q2, ⟨ty0, q3⟩, q4⟩, hk, hty, ⟨ref, hsm, hlk⟩, hrf⟩ := hf
  have q5 : ∀ x, s.fieldFound? (T f).1 (T f).2.1 (T f).2.2.1 = some x → s.fieldFound? ref (T f).2.1 (T f).2.2.1 = some x := fun x hx => by
    rcases hsm with hsm | hsm
    · have e : ref = (T f).1 := hsm
      rw [e]; exact hx
    · exact u_same (X.2.2.2.2.2.2.1 _ (List.mem_cons_of_mem _ hsm)) x hx
  obtain ⟨h1, h2, h3, h4, h5, h6⟩ := dobj_spec ho
  dsimp only at hk hty hlk q1 hrf
  obtain ⟨i, hi, hg⟩ := Dws_get (g := g) (da := da) (Dal_hi h1 h2 hA)
  rw [Dce_o h1 h3, h4] at hg
  obtain ⟨ty, hd, hnf⟩ := hd9 T hty hrf
  have KK : ∀ (H1 : Heap) (locs1 : List Loc), va_P g.2.1 vwCl ((Dws g da σ).set i (Dadr g da a, .inr (ci, (Dfs g da σ a (Dsh a).2.2).set f (jrl (Dg g da) x)))) H1 → va_D (Dge z.2.2.2.2) ((Dws g da σ).set i (Dadr g da a, .inr (ci, (Dfs g da σ a (Dsh a).2.2).set f (jrl (Dg g da) x)))) → va_S (Dge z.2.2.2.2) s.heap H1 locs1 → W p g.1 e z.1 s m as below meth c H1 locs1 c0 s0 (z.2.1 below as s) (F0 m (pc + 3) ls (r.map (jrl (Dg g da)))) := by
    intro H1 locs1 hP1 hD1 hS1
    have hok : Dok g z.2.2.2.2 da ε := ⟨fun i j hi hj e => hD.1.1 i j (by rw [← hA2]; exact hi) (by rw [← hA2]; exact hj) e, fun i hi => hD.1.2.1 i (by rw [← hA2]; exact hi), hcl hD.1.2.2⟩
    refine k p e s m as below meth c H1 locs1 ls da X ⟨hok, hD.2⟩ (Dws_set hi hA2 ?_ (fun q hq _ => ho3 da q hq) hP1) hS1 hl
    rw [Dce_o h1 h3, h4, Dfs_set (δ := σ) h5 (hv da) (ho2 da)]
  rcases hlk with hlk | ⟨host, hlk⟩
  · exact va_put X.1 X.2.1 X.2.2.2.2.2.2.1 (fun w hw => List.mem_cons_of_mem _ (q2 w hw)) ty0 q3 q4 X.2.2.2.2.2.1 X.2.2.2.2.2.2.2.2.1 hP (DD hD.1) hS i hg q1 f hk (X.2.2.2.2.2.2.1 _ (List.mem_cons_of_mem _ hlk)) q5 (hfin _ _ hty) hd (hnf da).1 (hnf da).2 (by rw [Dfs_len]; exact h5) d KK
  · exact va_putN X.1 X.2.1 X.2.2.2.2.2.2.1 (fun w hw => List.mem_cons_of_mem _ (q2 w hw)) ty0 q3 q4 X.2.2.2.2.2.1 X.2.2.2.2.2.2.2.2.1 hP (DD hD.1) hS i hg q1 f hk (va_Nw.use rfl (X.2.2.2.2.2.2.2.2.2.1 _ hlk)) q5 (hfin _ _ hty) hd (hnf da).1 (hnf da).2 (by rw [Dfs_len]; exact h5) d KK
theorem Dfv_uI {da : Nat → Nat} {a f j c : Nat} {x : Int32} (h : j ≠ f) : Dfv g da (DuI σ a f x) a j c = Dfv g da σ a j c := by
  unfold Dfv
  rw [DuI_I, if_neg (fun q => h q.2), DuI_L, DuI_R]
theorem Dfv_uL {da : Nat → Nat} {a f j c : Nat} {x : Int64} (h : j ≠ f) : Dfv g da (DuL σ a f x) a j c = Dfv g da σ a j c := by
  unfold Dfv
  rw [DuL_L, if_neg (fun q => h q.2), DuL_I, DuL_R]
theorem Dfv_uR {da : Nat → Nat} {a f j c : Nat} {x : Option Nat} (h : j ≠ f) : Dfv g da (DuR σ a f x) a j c = Dfv g da σ a j c := by
  unfold Dfv
  rw [DuR_R, if_neg (fun q => h q.2), DuR_I, DuR_L]
theorem dr_puti {a ci f j : Nat} {x : Int32} (hf : dFok mt.1.cls (j, ci, f, 0)) (ho : dobj a ci f 0 = true) (hA : DA σ a = true) (d : decode mt.2.1 pc = .ok (.putfield j, 3)) (k : DW g z mt (pc + 3) L r (DuI σ a f x) c0 s0) : DW g z mt pc L (.int x :: .ref a :: r) σ c0 s0 :=
  dr_putv (ε := DuI σ a f x) (ty := .int) hf ho hA (fun d fin h => by simp only [dty, Bool.and_eq_true, Bool.not_eq_true'] at h; exact h.2) (fun T h _ => ⟨.int, by simp only [dty, Bool.and_eq_true, beq_iff_eq] at h; rw [h.1]; decide +kernel, fun _ => ⟨rfl, rfl⟩⟩) (fun _ => rfl) (fun h => h)
    (fun da => by rw [jtc_0 (dobj_spec ho).2.2.2.2.2]; show Value.int (DI (DuI σ a f x) a f) = _; rw [DuI_I, if_pos ⟨rfl, rfl⟩]; rfl) (fun da j hj => Dfv_uI hj) (fun da q hq => DuI_ne hq) (Or.inl rfl) d k
theorem dr_putz {a ci f j : Nat} {x : Int32} (hx : x = 0 ∨ x = 1) (hf : dFok mt.1.cls (j, ci, f, 3)) (ho : dobj a ci f 0 = true) (hA : DA σ a = true) (d : decode mt.2.1 pc = .ok (.putfield j, 3)) (k : DW g z mt (pc + 3) L r (DuI σ a f x) c0 s0) : DW g z mt pc L (.int x :: .ref a :: r) σ c0 s0 :=
  dr_putv (ε := DuI σ a f x) (ty := .boolean) hf ho hA (fun d fin h => by simp only [dty, Bool.and_eq_true, Bool.not_eq_true'] at h; exact h.2) (fun T h _ => ⟨.boolean, by simp only [dty, Bool.and_eq_true, beq_iff_eq] at h; rw [h.1]; decide +kernel, fun _ => by rcases hx with rfl | rfl <;> exact ⟨rfl, rfl⟩⟩) (fun _ => rfl) (fun h => h)
    (fun da => by rw [jtc_0 (dobj_spec ho).2.2.2.2.2]; show Value.int (DI (DuI σ a f x) a f) = _; rw [DuI_I, if_pos ⟨rfl, rfl⟩]; rfl) (fun da j hj => Dfv_uI hj) (fun da q hq => DuI_ne hq) (Or.inl rfl) d k
theorem dr_putl {a ci f j : Nat} {x : Int64} (hf : dFok mt.1.cls (j, ci, f, 1)) (ho : dobj a ci f 1 = true) (hA : DA σ a = true) (d : decode mt.2.1 pc = .ok (.putfield j, 3)) (k : DW g z mt (pc + 3) L r (DuL σ a f x) c0 s0) : DW g z mt pc L (.long x :: .ref a :: r) σ c0 s0 :=
  dr_putv (ε := DuL σ a f x) (ty := .long) hf ho hA (fun d fin h => by simp only [dty, Bool.and_eq_true, Bool.not_eq_true'] at h; exact h.2) (fun T h _ => ⟨.long, by simp only [dty, Bool.and_eq_true, beq_iff_eq] at h; rw [h.1]; decide +kernel, fun _ => ⟨rfl, rfl⟩⟩) (fun _ => rfl) (fun h => h)
    (fun da => by rw [jtc_1 (dobj_spec ho).2.2.2.2.2]; show Value.long (DL (DuL σ a f x) a f) = _; rw [DuL_L, if_pos ⟨rfl, rfl⟩]; rfl) (fun da j hj => Dfv_uL hj) (fun da q hq => DuL_ne hq) (Or.inr rfl) d k
theorem nf_ref {ty : FieldType} (h : ty.isReference = true) (a : Nat) : narrow ty (.ref a) = .ref a ∧ fits ty (.ref a) = true := by
  cases ty <;> first | exact ⟨rfl, rfl⟩ | (exfalso; revert h; decide)
theorem nf_null {ty : FieldType} (h : ty.isReference = true) : narrow ty .null = .null ∧ fits ty .null = true := by
  cases ty <;> first | exact ⟨rfl, rfl⟩ | (exfalso; revert h; decide)
theorem dr_putr {a ci f j v : Nat} (hf : dFok mt.1.cls (j, ci, f, 2)) (ho : dobj a ci f 2 = true) (hA : DA σ a = true) (hv : v < 1000 ∨ Dal σ v = true) (d : decode mt.2.1 pc = .ok (.putfield j, 3)) (k : DW g z mt (pc + 3) L r (DuR σ a f (some v)) c0 s0) : DW g z mt pc L (.ref v :: .ref a :: r) σ c0 s0 :=
  dr_putv (ε := DuR σ a f (some v)) (ty := .int) hf ho hA (fun d fin h => by simp only [dty, Bool.not_eq_true'] at h; exact h) (fun T _ h => by obtain ⟨ty, e1, e2⟩ := h rfl; exact ⟨ty, e1, fun da => nf_ref e2 _⟩) (fun _ => rfl)
    (fun h x y q hx hx2 e => by
      rw [DuR_R] at e
      split at e
      · cases e; exact hv
      · exact h x y q hx hx2 e)
    (fun da => by
      obtain ⟨q, hq⟩ := jtc_2 (dobj_spec ho).2.2.2.2.2
      rw [hq]
      show Dval g da (DR (DuR σ a f (some v)) a f) = _
      rw [DuR_R, if_pos ⟨rfl, rfl⟩]
      rfl) (fun da j hj => Dfv_uR hj) (fun da q hq => DuR_ne hq) (Or.inl rfl) d k
theorem dr_putn {a ci f j : Nat} (hf : dFok mt.1.cls (j, ci, f, 2)) (ho : dobj a ci f 2 = true) (hA : DA σ a = true) (d : decode mt.2.1 pc = .ok (.putfield j, 3)) (k : DW g z mt (pc + 3) L r (DuR σ a f none) c0 s0) : DW g z mt pc L (.null :: .ref a :: r) σ c0 s0 :=
  dr_putv (ε := DuR σ a f none) (ty := .int) hf ho hA (fun d fin h => by simp only [dty, Bool.not_eq_true'] at h; exact h) (fun T _ h => by obtain ⟨ty, e1, e2⟩ := h rfl; exact ⟨ty, e1, fun da => nf_null e2⟩) (fun _ => rfl)
    (fun h x y q hx hx2 e => by
      rw [DuR_R] at e
      split at e
      · cases e
      · exact h x y q hx hx2 e)
    (fun da => by
      obtain ⟨q, hq⟩ := jtc_2 (dobj_spec ho).2.2.2.2.2
      rw [hq]
      show Dval g da (DR (DuR σ a f none) a f) = _
      rw [DuR_R, if_pos ⟨rfl, rfl⟩]
      rfl) (fun da j hj => Dfv_uR hj) (fun da q hq => DuR_ne hq) (Or.inl rfl) d k
end DE
