/-! a new array of arrays -/
theorem Dnew_gen {g : jG} {h0 : Nat} {da db : Nat → Nat} {δ ε : dM} {H H1 : Heap} (hD : Dok g h0 da δ) (hP : va_P g.2.1 vwCl (Dws g da δ) H) (h9 : h0 ≤ H.size) (hold : ∀ x : Nat, x < H.size → H1[x]? = H[x]?) (new : Nat → Prop)
    (hA : ∀ j, Dal ε j = true → Dal δ j = true ∨ new j) (hnew : ∀ j, new j → 1000 ≤ j ∧ Dal δ j = false ∧ H.size ≤ db j ∧ va_at g.2.1 vwCl (db j, Dce g db ε j) H1) (hinj : ∀ i j, new i → new j → db i = db j → i = j)
    (ho : ∀ j, Dal δ j = true → Dadr g db j = Dadr g da j ∧ Dce g db ε j = Dce g da δ j) (hc : Dcl0 ε) : Dok g h0 db ε ∧ va_P g.2.1 vwCl (Dws g db ε) H1 := by
  have hlt : ∀ j, Dal δ j = true → Dadr g da j < H.size := fun j hj => by
    obtain ⟨i, -, hi⟩ := Dws_get (g := g) (da := da) hj
    exact vx_lt hP hi
  have hn : ∀ j, new j → Dadr g db j = db j := fun j hj => by
    have := (hnew j hj).1
    unfold Dadr
    rw [if_neg (by omega)]
  refine ⟨⟨fun i j hi hj e => ?_, fun i hi => ?_, hc⟩, Dws_of (fun k hk => ?_)⟩
  · rcases hA i hi with ci | ci <;> rcases hA j hj with cj | cj
    · rw [(ho i ci).1, (ho j cj).1] at e
      exact hD.1 i j ci cj e
    · rw [(ho i ci).1, hn j cj] at e
      have h1 := hlt i ci
      have h2 := (hnew j cj).2.2.1
      omega
    · rw [(ho j cj).1, hn i ci] at e
      have h1 := hlt j cj
      have h2 := (hnew i ci).2.2.1
      omega
    · rw [hn i ci, hn j cj] at e
      exact hinj i j ci cj e
  · rcases hA i hi with ci | ci
    · rw [(ho i ci).1]
      exact hD.2.1 i ci
    · rw [hn i ci]
      have := (hnew i ci).2.2.1
      omega
  · rcases hA k hk with ck | ck
    · rw [(ho k ck).1, (ho k ck).2]
      exact va_at_kept (Dws_at hP ck) (hold _ (hlt k ck))
    · rw [hn k ck]
      exact (hnew k ck).2.2.2
/-- where the new cells lie -/
def Dmad (da : Nat → Nat) (a b n sz : Nat) : Nat → Nat := fun k => if k = a then sz else if b ≤ k ∧ k < b + n then sz + 1 + (k - b) else da k
def Dnew2 (a b n k : Nat) : Prop := k = a ∨ (b ≤ k ∧ k < b + n)
theorem jrl_mad {g : jG} {da : Nat → Nat} {a b n sz : Nat} {v : Value} (h : ∀ k, Dnew2 a b n k → v ≠ .ref k) : jrl (Dg g (Dmad da a b n sz)) v = jrl (Dg g da) v := by
  cases v with
  | ref k =>
    refine congrArg Value.ref ?_
    show Dadr g (Dmad da a b n sz) k = Dadr g da k
    have h1 : ¬ Dnew2 a b n k := fun z => h k z rfl
    unfold Dnew2 at h1
    unfold Dadr Dmad
    rw [if_neg (fun z => h1 (Or.inl z)), if_neg (fun z => h1 (Or.inr z))]
  | _ => rfl
section DMN
variable {g : jG} {z : dZ} {mt : jMt} {pc : Nat} {L : List (Nat × Value)} {r : List Value} {σ : dM} {c0 s0 : Nat}
theorem dr_mna {index a b t to : Nat} {ty : FieldType} {nm : String} {n9 k9 : Int32} (hty : (ty = .int ∧ t = 0 ∧ to = 6 ∧ nm = "[[I") ∨ (ty = .boolean ∧ t = 3 ∧ to = 8 ∧ nm = "[[Z")) (ha : darr a 4 to = true) (hb : ∀ i, i < n9.toNatClampNeg → darr (b + i) 1 t = true)
    (hnew : ∀ k, Dnew2 a b n9.toNatClampNeg k → DA σ k = false ∧ z.2.2.1 k = false ∧ Value.ref k ∉ L.map Prod.snd ∧ Value.ref k ∉ r) (hab : ¬ (b ≤ a ∧ a < b + n9.toNatClampNeg))
    (hE : ∀ (U : State) (H : Heap), jE g U H → (Cond.arrayOver (.array ty)).before #[] U = true) (w1 : Cond.classLink mt.1.cls index nm ∈ jGw) (w2 : Cond.arrayClass ty ∈ jGw) (hn : ¬ n9 < 0) (hk : ¬ k9 < 0) (hb1 : n9.toNatClampNeg ≤ 1000) (hb2 : k9.toNatClampNeg ≤ 1000)
    (hcells : c0 + (1 + n9.toNatClampNeg) ≤ z.1.cells) (hslots : s0 + (n9.toNatClampNeg + n9.toNatClampNeg * k9.toNatClampNeg) ≤ z.1.slots) (d : decode mt.2.1 pc = .ok (.multianewarray index 2, 4))
    (k : DW g z mt (pc + 4) L (.ref a :: r) (Dmn σ a b n9.toNatClampNeg k9.toNatClampNeg) (c0 + 1 + n9.toNatClampNeg) (s0 + n9.toNatClampNeg + n9.toNatClampNeg * k9.toNatClampNeg)) : DW g z mt pc L (.int k9 :: .int n9 :: r) σ c0 s0 := by
  intro p e s m as below meth c H locs ls da X hD hP hS hl T0 hT0 X0
  have hts : ∀ w ∈ jGw, w.before as s = true := fun w hw => X.2.2.2.2.2.2.1 _ (List.mem_cons_of_mem _ hw)
  obtain ⟨a1, a2, a3, a4⟩ := darr_spec ha
  have hH9 : z.2.2.2.2 ≤ H.size := Nat.le_trans X.2.2.2.2.2.2.2.1 hS.1
  have hdef : defaultValue ty = .int 0 := by rcases hty with ⟨rfl, -⟩ | ⟨rfl, -⟩ <;> rfl
  have hcb : componentBytes ty ≤ 4 := by rcases hty with ⟨rfl, -⟩ | ⟨rfl, -⟩ <;> decide
  have hgo : ∃ (vm₁ : Vm) (F : State), F = Jvm.Free.Multi.fill (T0.setVm vm₁) (jta g to) (jta g t) n9.toNatClampNeg k9.toNatClampNeg (defaultValue ty) n9.toNatClampNeg ∧ Stand p g.1 e z.1 s m as below meth c F locs (c0 + 1 + n9.toNatClampNeg) (s0 + n9.toNatClampNeg + n9.toNatClampNeg * k9.toNatClampNeg) ∧ Goes p e below T0 (F0 m pc ls (.int k9 :: .int n9 :: r.map (jrl (Dg g da)))) F { F0 m pc ls (.int k9 :: .int n9 :: r.map (jrl (Dg g da))) with pc := (F0 m pc ls (.int k9 :: .int n9 :: r.map (jrl (Dg g da)))).pc + 4, stack := .ref T0.heap.size :: r.map (jrl (Dg g da)) } := by
    rcases hty with ⟨rfl, rfl, rfl, rfl⟩ | ⟨rfl, rfl, rfl, rfl⟩
    · obtain ⟨vm₁, cA, comp, -, fA, fC, -, -, X', step⟩ := X0.multianewarray2F (ty := .int) X.1 X.2.2.2.2.2.1 (hts _ w1) (hE _ _ X.2.2.2.2.2.2.2.2.2.2.2) (hts (.arrayClass .int) w2) (g := F0 m pc ls (.int k9 :: .int n9 :: r.map (jrl (Dg g da)))) rfl (by rw [X.2.1]; exact d) rfl hn hk (by omega) (by
        have h9 := Nat.mul_le_mul hb2 hcb
        omega) (by omega) rfl rfl hcells hslots
      have eA : cA = jta g 6 := Option.some.inj (fA.symm.trans (X.2.2.2.2.2.2.2.2.1.2 6 _ (Dtys_get g (by decide))).2)
      have eC : comp = jta g 0 := Option.some.inj (fC.symm.trans (X.2.2.2.2.2.2.2.2.1.2 0 _ (Dtys_get g (by decide))).2)
      subst eA
      subst eC
      exact ⟨vm₁, _, rfl, X', step⟩
    · obtain ⟨vm₁, cA, comp, -, fA, fC, -, -, X', step⟩ := X0.multianewarray2F (ty := .boolean) X.1 X.2.2.2.2.2.1 (hts _ w1) (hE _ _ X.2.2.2.2.2.2.2.2.2.2.2) (hts (.arrayClass .boolean) w2) (g := F0 m pc ls (.int k9 :: .int n9 :: r.map (jrl (Dg g da)))) rfl (by rw [X.2.1]; exact d) rfl hn hk (by omega) (by
        have h9 := Nat.mul_le_mul hb2 hcb
        omega) (by omega) rfl rfl hcells hslots
      have eA : cA = jta g 8 := Option.some.inj (fA.symm.trans (X.2.2.2.2.2.2.2.2.1.2 8 _ (Dtys_get g (by decide))).2)
      have eC : comp = jta g 3 := Option.some.inj (fC.symm.trans (X.2.2.2.2.2.2.2.2.1.2 3 _ (Dtys_get g (by decide))).2)
      subst eA
      subst eC
      exact ⟨vm₁, _, rfl, X', step⟩
  obtain ⟨vm₁, F, hF, X', step⟩ := hgo
  obtain ⟨N, eN⟩ : ∃ N, N = n9.toNatClampNeg := ⟨_, rfl⟩
  obtain ⟨K, eK⟩ : ∃ K, K = k9.toNatClampNeg := ⟨_, rfl⟩
  rw [← eN] at hb hnew hab hb1 hcells hslots k hF X'
  rw [← eK] at hb2 hslots k hF X'
  have hTh : (T0.setVm vm₁).heap = H := hT0
  obtain ⟨f1, f2, -, -⟩ := Jvm.Free.Multi.fill_facts (T0.setVm vm₁) (jta g to) (jta g t) N K (defaultValue ty) N
  rw [← hF, hTh] at f1 f2
  have hold : ∀ x : Nat, x < H.size → F.heap[x]? = H[x]? := fun x hx => by
    have := Jvm.Free.Multi.fill_old (T0.setVm vm₁) (jta g to) (jta g t) N K (defaultValue ty) (a := x) (by rw [hTh]; exact hx) N
    rw [← hF, hTh] at this
    exact this
  have hrow : ∀ j : Nat, j < N → F.heap[H.size + 1 + j]? = some (arrV (jta g t) K (fun _ => .int 0)) := fun j hj => by
    have := Jvm.Free.Multi.fill_inner (T0.setVm vm₁) (jta g to) (jta g t) N K (defaultValue ty) N j hj
    rw [← hF, hTh] at this
    rw [this, ← arrV_new, hdef]
    rfl
  rw [kOut] at f2
  have hd : ∀ k, Dnew2 a b N k → 1000 ≤ k ∧ k < 2100 := fun k hk => by
    rcases hk with rfl | ⟨h1, h2⟩
    · exact ⟨a1, a2⟩
    · have := darr_spec (hb (k - b) (by omega))
      rw [show b + (k - b) = k by omega] at this
      exact ⟨this.1, this.2.1⟩
  have hdead : ∀ k, Dnew2 a b N k → Dal σ k = false := fun k hk => Dal_no (hd k hk).1 (hnew k hk).1
  have hq9 : ∀ (k sz : Nat), Dal σ k = true → Dadr g (Dmad da a b N sz) k = Dadr g da k := fun k sz hk => by
    have h1 : ¬ Dnew2 a b N k := fun z9 => by rw [hdead k z9] at hk; cases hk
    unfold Dnew2 at h1
    unfold Dadr Dmad
    rw [if_neg (fun z => h1 (Or.inl z)), if_neg (fun z => h1 (Or.inr z))]
  have hal : ∀ j, Dal (Dmn σ a b N K) j = true → Dal σ j = true ∨ Dnew2 a b N j := fun j hj => by
    by_cases c : Dnew2 a b N j
    · exact Or.inr c
    · left
      obtain ⟨h1, h2⟩ := Dal_lt hj
      rcases h2 with h2 | ⟨h2, h3⟩
      · exact Dal_lo h2
      · rw [Dmn_A, if_neg (show ¬ (j = a ∨ (b ≤ j ∧ j < b + N)) from c)] at h3
        exact Dal_hi h2 h1 h3
  have hal2 : ∀ j, Dal σ j = true → Dal (Dmn σ a b N K) j = true := fun j hj => by
    obtain ⟨h1, h2⟩ := Dal_lt hj
    rcases h2 with h2 | ⟨h2, h3⟩
    · exact Dal_lo h2
    · refine Dal_hi h2 h1 ?_
      rw [Dmn_A]
      split
      · rfl
      · exact h3
  have hcl : Dcl0 (Dmn σ a b N K) := fun x j q hx hx2 e9 => by
    rw [Dmn_R] at e9
    split at e9
    · split at e9
      · cases e9
        refine Or.inr (Dal_hi (hd _ (Or.inr ⟨by omega, by omega⟩)).1 (hd _ (Or.inr ⟨by omega, by omega⟩)).2 ?_)
        rw [Dmn_A, if_pos (Or.inr ⟨by omega, by omega⟩)]
      · cases e9
    · split at e9
      · cases e9
      · rename_i h1 h2
        have hx3 : Dal σ x = true := (hal x hx).resolve_right (fun z9 => z9.elim h1 h2)
        exact (hD.1.2.2 x j q hx3 hx2 e9).imp id (hal2 q)
  have hce : ∀ j, Dal σ j = true → Dce g (Dmad da a b N H.size) (Dmn σ a b N K) j = Dce g da σ j := fun j hj => by
    have hNN : jN = 322 := rfl
    have h1 : ¬ Dnew2 a b N j := fun z9 => by rw [hdead j z9] at hj; cases hj
    have h2 : ¬ j = a := fun z9 => h1 (Or.inl z9)
    have h3 : ¬ (b ≤ j ∧ j < b + N) := fun z9 => h1 (Or.inr z9)
    rcases Nat.lt_or_ge j 1000 with c9 | c9
    · unfold Dce
      rw [if_pos c9, if_pos c9]
      rfl
    · refine Dce_cg rfl (funext fun i => ?_) (funext fun i => ?_) (fun i => ?_) ?_
      · rw [Dmn_I, if_neg (show ¬ (j = a ∨ (b ≤ j ∧ j < b + N)) from h1)]
      · rw [Dmn_L, if_neg (show ¬ (j = a ∨ (b ≤ j ∧ j < b + N)) from h1)]
      · rw [Dmn_R, if_neg h2, if_neg h3]
        cases e9 : DR σ j i with
        | none => rfl
        | some q =>
          refine congrArg some ?_
          rcases hD.1.2.2 j i q hj c9 e9 with h4 | h4
          · unfold Dadr
            rw [if_pos h4, if_pos h4]
          · exact hq9 q H.size h4
      · rw [Dmn_N, if_neg h2, if_neg h3]
  have hmadr : ∀ k, Dnew2 a b N k → Dadr g (Dmad da a b N H.size) k = Dmad da a b N H.size k := fun k hk => by
    have := (hd k hk).1
    unfold Dadr
    rw [if_neg (by omega)]
  obtain ⟨hok, hP9⟩ := Dnew_gen (db := Dmad da a b N H.size) (ε := Dmn σ a b N K) hD.1 hP hH9 hold (Dnew2 a b N) hal (fun j hj => by
    refine ⟨(hd j hj).1, hdead j hj, ?_, ?_⟩
    · unfold Dmad
      rcases hj with rfl | ⟨h1, h2⟩
      · rw [if_pos rfl]; exact Nat.le_refl _
      · rw [if_neg (fun z9 => hab (by rw [← z9]; exact ⟨h1, h2⟩)), if_pos ⟨h1, h2⟩]
        omega
    · by_cases c : j = a
      · subst c
        have e1 : Dmad da j b N H.size j = H.size := by unfold Dmad; rw [if_pos rfl]
        rw [e1, Dce_4 a1 a3, a4, Dmn_N, if_pos rfl]
        show F.heap[H.size]? = some (arrV (jta g to) N (fun i => va_rf ((DR (Dmn σ j b N K) j i).map (Dadr g (Dmad da j b N H.size)))))
        rw [f2]
        refine congrArg some (arrV_cg (fun i hi => ?_))
        rw [if_pos hi, Dmn_R, if_pos rfl, if_pos hi]
        show Value.ref (H.size + 1 + i) = Value.ref (Dadr g (Dmad da j b N H.size) (b + i))
        rw [hmadr _ (Or.inr ⟨by omega, by omega⟩)]
        have e9 : Dmad da j b N H.size (b + i) = H.size + 1 + i := by
          unfold Dmad
          rw [if_neg (fun z9 => hab (by rw [← z9]; exact ⟨by omega, by omega⟩)), if_pos ⟨by omega, by omega⟩]
          omega
        rw [e9]
      · obtain ⟨h1, h2⟩ := hj.resolve_left c
        have e1 : Dmad da a b N H.size j = H.size + 1 + (j - b) := by unfold Dmad; rw [if_neg c, if_pos ⟨h1, h2⟩]
        obtain ⟨b1, b2, b3, b4⟩ := darr_spec (hb (j - b) (by omega))
        rw [show b + (j - b) = j by omega] at b1 b2 b3 b4
        rw [e1, Dce_1 b1 b3, b4, Dmn_N, if_neg c, if_pos ⟨h1, h2⟩]
        show F.heap[H.size + 1 + (j - b)]? = some (arrV (jta g t) K (fun i => .int (DI (Dmn σ a b N K) j i)))
        rw [hrow (j - b) (by omega)]
        refine congrArg some (arrV_cg (fun i _ => ?_))
        rw [Dmn_I, if_pos (Or.inr ⟨h1, h2⟩)]) (fun i j hi hj e9 => by
    unfold Dmad at e9
    by_cases ci : i = a
    · by_cases cj : j = a
      · omega
      · obtain ⟨h1, h2⟩ := hj.resolve_left cj
        rw [if_pos ci, if_neg cj, if_pos ⟨h1, h2⟩] at e9
        omega
    · obtain ⟨h1, h2⟩ := hi.resolve_left ci
      by_cases cj : j = a
      · rw [if_neg ci, if_pos ⟨h1, h2⟩, if_pos cj] at e9
        omega
      · obtain ⟨h3, h4⟩ := hj.resolve_left cj
        rw [if_neg ci, if_pos ⟨h1, h2⟩, if_neg cj, if_pos ⟨h3, h4⟩] at e9
        omega) (fun j hj => ⟨hq9 j H.size hj, hce j hj⟩) hcl
  have hLm : jL (Dg g (Dmad da a b N H.size)) L = jL (Dg g da) L := by
    refine List.map_congr_left (fun q hq => ?_)
    rw [jrl_mad (fun k9 hk9 e9 => (hnew k9 hk9).2.2.1 (List.mem_map.mpr ⟨q, hq, e9⟩))]
  have hrm : r.map (jrl (Dg g (Dmad da a b N H.size))) = r.map (jrl (Dg g da)) :=
    List.map_congr_left (fun q hq => jrl_mad (fun k9 hk9 e9 => (hnew k9 hk9).2.2.2 (by rw [← e9]; exact hq)))
  obtain ⟨t2, b1, b2⟩ := k p e s m as below meth c F.heap locs ls (Dmad da a b N H.size) X ⟨hok, fun q hq => by
    have h1 : ¬ Dnew2 a b N q := fun z9 => by rw [(hnew q z9).2.1] at hq; cases hq
    unfold Dnew2 at h1
    unfold Dmad
    rw [if_neg (fun z => h1 (Or.inl z)), if_neg (fun z => h1 (Or.inr z))]
    exact hD.2 q hq⟩ hP9 ⟨by rw [f1]; have := hS.1; omega, fun x h1x h2x => (hold x (Nat.lt_of_lt_of_le h1x hS.1)).trans (hS.2.1 x h1x h2x), hS.2.2⟩ (by rw [hLm]; exact hl) F rfl X'
  refine ⟨t2, step t2 ?_, b2⟩
  rw [List.map_cons, hrm] at b1
  have e1 : jrl (Dg g (Dmad da a b N H.size)) (.ref a) = .ref T0.heap.size := by
    refine congrArg Value.ref ?_
    show Dadr g (Dmad da a b N H.size) a = T0.heap.size
    rw [hmadr a (Or.inl rfl), hT0]
    unfold Dmad
    rw [if_pos rfl]
  rw [e1] at b1
  exact b1
end DMN
