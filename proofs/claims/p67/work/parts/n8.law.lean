/-! the desk's birth: its constructor begins before the class's cells are there -/
/-- nothing but the class's cells -/
def bdZ : dM := (s0, fun _ _ => 0, fun _ _ => 0, fun _ _ => none, fun _ => 0, fun _ => false)
/-- and the desk, newborn -/
def bdD : dM := Dnw bdZ 1000 0
def kpD : Nat → Bool := fun k => k == 1000
def iPre (g : jG) (h0 : Nat) (U : State) : Prop := U.heap.size = h0 + 1 ∧ va_at g.2.1 vwCl (h0, .inr (12, kfr (Dsh 1000).2.2)) U.heap ∧ DC g h0 U ∧ kNw U
def iPc (g : jG) (h0 : Nat) : Array Value → State → Prop := va_Pc [.ref h0, .ref (jad g 380)] (iPre g h0)
def iCon (g : jG) (h0 n mc ms : Nat) (post : Option Value → dM → Prop) : Prop := Met g.1 mX12_init.1 (jwd mX12_init) (drm n mc ms) (iPc g h0) (dQ g h0 kpD (fun _ => h0) post) mc ms (Dge h0)
def iz (g : jG) (h0 n mc ms : Nat) (post : Option Value → dM → Prop) : dZ := dzC g h0 n mc ms kpD (fun _ => h0) post
def iT (g : jG) (h0 n mc ms : Nat) (post : Option Value → dM → Prop) : lwT := fun below a s t => iPre g h0 s → (iz g h0 n mc ms post).2.1 below a s t
section BD
variable {g : jG} {h0 n mc ms : Nat} {post : Option Value → dM → Prop}
theorem iCon.of (hD0 : jad g 1000 = h0) (k : kU g (h0 + 1) (drm n mc ms) mX12_init 0 (iT g h0 n mc ms post) 0 0 0 [(0, .ref 1000), (1, .ref 380)] [] 0 []) : iCon g h0 n mc ms post := by
  refine jMetF (cc := mX12_init.2.1) (maxL := mX12_init.2.2.1) (ret := mX12_init.2.2.2) (by decide +kernel) rfl ?_
  intro p e s m as below meth c s₁ B hml hv
  obtain ⟨rfl, hP⟩ := hv
  have hl := lv_entry ([Value.ref 1000, .ref 380].map (jrl g)) (n := mX12_init.2.2.1) (by rw [jsl_len]; decide)
  have ea : [Value.ref h0, Value.ref (jad g 380)] = [Value.ref 1000, .ref 380].map (jrl g) := by
    show _ = [Value.ref (jad g 1000), Value.ref (jad g 380)]
    rw [hD0]
  rw [ea] at B ⊢
  rw [lg_entry_eq]
  rw [jL_args] at hl
  obtain ⟨h1, h2, h3, h4⟩ := id hP
  have ht := atoms_spec (ws := jwd mX12_init) B.pre
  have K := k p e s m _ below meth c s.heap [] _ ⟨B.exec, B.bytes, hml, B.returns, B.notSynchronized, findClass_of_methodNamed B.named, jwX_of ht, Dtys_sub h3.1, h4, (name_of_methodNamed B.named B.method).1⟩ ⟨by omega, by omega⟩ (fun i q hi => by simp at hi) va_S.rf hl
  intro T0 hT0 X0
  obtain ⟨t, a1, b1⟩ := K T0 hT0 X0
  exact ⟨t, a1, b1 hP⟩
theorem bdD_al {k : Nat} (h : Dal bdD k = true) : k < 322 ∨ k = 1000 := by
  obtain ⟨h1, h2⟩ := Dal_lt h
  rcases h2 with h2 | ⟨h2, h3⟩
  · exact Or.inl h2
  · right
    unfold bdD at h3
    rw [Dnw_A] at h3
    by_cases c : k = 1000
    · exact c
    · rw [if_neg c] at h3
      cases h3
/-- the list's references stay where they are -/
theorem jrl_bd (hD0 : jad g 1000 = h0) {v : Value} (hv : ∀ k : Nat, v = .ref k → k < 1000 ∨ k = 1000) : jrl g v = jrl (Dg g (fun _ => h0)) v := by
  cases v with
  | ref k =>
    refine congrArg Value.ref ?_
    obtain ⟨k9, e9⟩ : ∃ k9 : Nat, k9 = k := ⟨k, rfl⟩
    subst e9
    show jad g k9 = Dadr g (fun _ => h0) k9
    unfold Dadr
    rcases hv k9 rfl with c | c
    · rw [if_pos c]
    · rw [if_neg (by omega), c]
      exact hD0
  | _ => rfl
/-- from here on the class's cells are there -/
theorem ku_DW {pc c9 s9 : Nat} {L : List (Nat × Value)} {st : List Value} (hB : kB g (h0 + 1)) (hD0 : jad g 1000 = h0) (hL : ∀ q ∈ L, ∀ k : Nat, q.2 = .ref k → k < 1000 ∨ k = 1000) (hst : ∀ v ∈ st, ∀ k : Nat, v = .ref k → k < 1000 ∨ k = 1000) (k : DW g (iz g h0 n mc ms post) mX12_init pc L st bdD c9 s9) : kU g (h0 + 1) (drm n mc ms) mX12_init 0 (iT g h0 n mc ms post) c9 s9 pc L st 322 (kR g s0 0 322) := by
  intro p e s m as below meth c H locs ls X hz hP hS hl
  intro T0 hT0 X0
  by_cases hE : iPre g h0 s
  · obtain ⟨h1, h2, h3, h4⟩ := id hE
    have eL : jL g L = jL (Dg g (fun _ => h0)) L := by
      refine List.map_congr_left (fun q hq => ?_)
      rw [jrl_bd hD0 (hL q hq)]
    have es : st.map (jrl g) = st.map (jrl (Dg g (fun _ => h0))) := List.map_congr_left (fun v hv => jrl_bd hD0 (hst v hv))
    have hX : dX g h0 mX12_init p s m as meth c := ⟨X.1, X.2.1, X.2.2.1, X.2.2.2.1, ⟨X.2.2.2.2.1, X.2.2.2.2.2.2.2.2.2⟩, X.2.2.2.2.2.1, X.2.2.2.2.2.2.1, by omega, h3⟩
    have hN : jN = 322 := rfl
    have ad : ∀ k, k < 322 → Dadr g (fun _ => h0) k = h0 + 1 + k := fun k hk => by
      rw [Dg_lo (by omega)]
      exact hB k hk
    have ad0 : Dadr g (fun _ => h0) 1000 = h0 := by
      unfold Dadr
      rw [if_neg (by omega)]
    have hok : Dok g h0 (fun _ => h0) bdD := by
      refine ⟨fun i j hi hj e9 => ?_, fun i hi => ?_, fun a j q ha ha2 e9 => ?_⟩
      · rcases bdD_al hi with c1 | c1 <;> rcases bdD_al hj with c2 | c2
        · rw [ad i c1, ad j c2] at e9
          omega
        · rw [ad i c1, c2, ad0] at e9
          omega
        · rw [c1, ad0, ad j c2] at e9
          omega
        · rw [c1, c2]
      · rcases bdD_al hi with c1 | c1
        · rw [ad i c1]
          omega
        · rw [c1, ad0]
          omega
      · unfold bdD at e9
        rw [Dnw_R] at e9
        by_cases c1 : a = 1000
        · rw [if_pos c1] at e9
          cases e9
        · rw [if_neg c1] at e9
          cases e9
    have hdk : H[h0]? = s.heap[h0]? := hS.2.1 h0 (by omega) (fun z => by
      unfold kA at z
      omega)
    have hW : va_P g.2.1 vwCl (Dws g (fun _ => h0) bdD) H := Dws_of (fun k hk => by
      rcases bdD_al hk with c1 | c1
      · have h9 := hP k _ (kR_get (g := g) (σ := s0) (me := 0) (n := 322) c1)
        unfold kpe at h9
        rw [Nat.zero_add] at h9
        rw [Dg_lo (by omega)]
        unfold Dce
        rw [if_pos (by omega)]
        exact h9
      · rw [c1, ad0]
        have e9 : Dce g (fun _ => h0) bdD 1000 = .inr (12, kfr (Dsh 1000).2.2) := by
          unfold Dce
          rw [if_neg (by omega), if_pos (by decide +kernel)]
          unfold bdD
          rw [Dfs_new]
          rfl
        rw [e9]
        exact va_at_kept h2 hdk)
    have hS9 : va_S (Dge h0) s.heap H [] := ⟨hS.1, fun q q1 q2 => hS.2.1 q q1 (fun z => q2 (by
      unfold kA at z
      unfold Dge
      omega)), fun l hl9 => absurd hl9 List.not_mem_nil⟩
    rw [eL] at hl
    have kW := k p e s m as below meth c H [] ls (fun _ => h0) hX ⟨hok, fun _ _ => rfl⟩ hW hS9 hl
    rw [← es] at kW
    obtain ⟨t, a1, b1⟩ := va_forget (locs := locs) (fun q hq => by
      have := hS.2.2 q hq
      unfold kA at this
      omega) kW T0 hT0 X0
    exact ⟨t, a1, fun _ => b1⟩
  · exact ⟨_, Steps.refl _, fun z => absurd z hE⟩
/-- Object.<init> of anything -/
theorem ku_objA {rm : Room} {mt : jMt} {me : Nat} {T : lwT} {c0 s0 pc a : Nat} {L : List (Nat × Value)} {r : List Value} {t : Nat} {w : va_W} {i : Nat} (hlk : Cond.methodLink mt.1.cls i objectInit ∈ jGw) (hr : 1 ≤ rm.frames ∧ 20 ≤ rm.locals) (hst : (r.map fun v => v.category).sum ≤ 4) (d : decode mt.2.1 pc = .ok (.invokespecial i, 3)) (k : kU g h0 rm mt me T c0 s0 (pc + 3) L r t w) : kU g h0 rm mt me T c0 s0 pc L (.ref a :: r) t w := by
  intro p e s m as below meth c H locs ls X hz hP hS hl
  have hts : ∀ w ∈ jGw, w.before as s = true := fun w hw => X.2.2.2.2.2.2.1 _ (List.mem_cons_of_mem _ hw)
  refine W.objInit X.1 X.2.1 X.2.2.2.2.2.1 (hts _ hlk) (hts (.instanceMethod objectInit) (jGw_of 303 (by decide +kernel) (by decide +kernel))) (hts _ (jGw_of (w := .code objectInit ⟨#[0xb1]⟩ 1 none) 304 (by decide +kernel) (by decide +kernel))) rfl (by rw [X.2.2.1]; exact hl.1) rfl d ?_ ?_ (k p e s m as below meth c H locs ls X hz hP hS hl)
  · exact hr.1
  · have h9 : 2 * (F0 m pc ls ((Value.ref a :: r).map (jrl g))).monitorRoom + ((r.map (jrl g)).map fun v => v.category).sum ≤ 8 := lv_room (by simpa [jrl_cat, Function.comp_def] using (Nat.le_trans hst (by decide)))
    have := hr.2
    omega
set_option maxRecDepth 100000 in
set_option maxHeartbeats 4000000 in
/-- Desk.<init>: what stands behind it is a walk from 12 -/
theorem bd_head (hB : kB g (h0 + 1)) (hD0 : jad g 1000 = h0) (hn : 12 ≤ n) (hmc : 322 ≤ mc) (hms : 3743 ≤ ms) (k : DW g (iz g h0 n mc ms post) mX12_init 12 [(0, .ref 1000), (1, .ref 380)] [.ref 0, .ref 1000] bdD 322 3743) : iCon g h0 n mc ms post := by
  refine iCon.of hD0 ?_
  refine ku_aloadn (j := 0) rfl (show decode mX12_init.2.1 0 = .ok (.aload_n 0, 1) by decide +kernel) ?_
  refine ku_objA (i := 1) (jGw_of 302 (by decide +kernel) (by decide +kernel)) ⟨by show 1 ≤ n; omega, by show 20 ≤ 64 * n; omega⟩ (by simp) (show decode mX12_init.2.1 1 = .ok (.invokespecial 1, 3) by decide +kernel) ?_
  refine ku_aloadn (j := 0) rfl (show decode mX12_init.2.1 4 = .ok (.aload_n 0, 1) by decide +kernel) ?_
  refine ku_new (t := 0) (j1 := 7) (j2 := 9) (mt' := mX11_init) (ci := 11) (N9 := 9) (nn := 322) (ms := 3734) (n' := 4) (T9 := TX11) (ty9 := tyX11) (σ := s0) hB (by decide) (by decide) (kR_U g s0 0 0) (by decide) (show (jshp 0).2.1 = 11 by decide +kernel) jcls_X11 ⟨tyX11_ok, by decide +kernel⟩ (show Cond.classLink RX12 7 RX11 ∈ jGw from (jGw_of 305 (by decide +kernel) (by decide +kernel))) (jGw_of 101 (by decide +kernel) (by decide +kernel)) (jGw_of 56 (by decide +kernel) (by decide +kernel)) hX12_9 (jGw_of 307 (by decide +kernel) (by decide +kernel)) (jGw_of 308 (by decide +kernel) (by decide +kernel)) rfl rfl ⟨by decide +kernel, by decide +kernel, by decide +kernel⟩ ⟨by show 5 ≤ n; omega, by show 8 + (1 + 11) + 64 * 4 ≤ 64 * n; omega⟩ (by show 0 + 322 ≤ mc; omega) (by show 0 + 9 + 3734 ≤ ms; omega) (by simp [Value.category]) (KC_0 hB) (show decode mX12_init.2.1 5 = .ok (.new 7, 3) by decide +kernel) (show decode mX12_init.2.1 8 = .ok (.dup, 1) by decide +kernel) (show decode mX12_init.2.1 9 = .ok (.invokespecial 9, 3) by decide +kernel) ?_
  refine kU.eq (w' := kR g s0 0 322) rfl ?_
  have inj : ∀ a b : Nat, Value.ref a = Value.ref b → a = b := fun a b h => by injection h
  exact ku_DW hB hD0 (fun q hq k9 e9 => by
    simp only [List.mem_cons, List.not_mem_nil, or_false] at hq
    rcases hq with rfl | rfl
    · have := inj 1000 k9 e9
      omega
    · have := inj 380 k9 e9
      omega) (fun v hv k9 e9 => by
    simp only [List.mem_cons, List.not_mem_nil, or_false] at hv
    rcases hv with rfl | rfl
    · have := inj 0 k9 e9
      omega
    · have := inj 1000 k9 e9
      omega) k
end BD
