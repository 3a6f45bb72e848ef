/-! rows: super's method, an inherited method, a final field in a constructor, a cell called anew -/
section DSUP
variable {g : jG} {z : dZ} {mt mt' : jMt} {pc : Nat} {L : List (Nat × Value)} {st r as : List Value} {σ : dM} {c0 s0 : Nat} {idx na n' a ci : Nat} {T : u_T} {N : Nat}
theorem dr_callSU {mc ms : Nat} {tl : List Nat} {C : String} {post' : Option Value → dM → Prop} (hf : Dfit z mt' n' mc ms c0 s0) (hfr : Dfree z L r tl) (hd : decode mt.2.1 pc = .ok (.invokespecial idx, 3)) (hlk : Cond.methodLink mt.1.cls idx mt'.1 ∈ jGw) (hsame : Cond.sameMethod mt'.1.cls mt'.1.cls mt'.1.name mt'.1.desc ∈ jGw) (hsup : Cond.superclass mt.1.cls mt'.1.cls ∈ jGw) (hm : jLkC mt' na ∧ Cond.instanceMethod mt'.1 ∈ jGw) (hno : mt'.1.name ≠ "<init>")
    (hcl : vwCl[ci]? = some (C, T, N)) (ha : disO a ci = true) (hA : DA σ a = true) (hs : st = as.reverse ++ .ref a :: r) (hna : as.length = na) (hst : (r.map fun v => v.category).sum ≤ 8)
    (hc : dCon g z.2.2.2.2 n' mc ms tl mt' (.ref a :: as) σ post') (k : ∀ v τ, post' v τ → DW g z mt (pc + 3) L (v.toList ++ r) τ (c0 + mc) (s0 + ms)) : DW g z mt pc L st σ c0 s0 := by
  obtain ⟨⟨hi, hco, hmh, hml⟩, him⟩ := hm
  obtain ⟨h1, h2, h3, h4⟩ := disO_spec ha
  intro p e s m as0 below meth c H locs ls da X hD hP hS hl
  have hts := X.2.2.2.2.2.2.1
  have hM := hc (Dkeep z L r) (Dkeep_no hfr) da
  obtain ⟨i, -, hg⟩ := Dws_get (g := g) (da := da) (Dal_hi h1 h2 hA)
  rw [Dce_o h1 h3, h4] at hg
  refine DW.back (a9 := (Value.ref (Dadr g da a) :: as.map (jrl (Dg g da))).toArray) (kp := Dkeep z L r) (fun k hk => Dkeep_z hk) Dkeep_L Dkeep_r X hD hS hl ?_ k
  refine va_runSU (As := as.map (jrl (Dg g da))) (rest := r.map (jrl (Dg g da))) (b := Dadr g da a) (C := C) (n := na) (maxL := mt'.2.2.1) (ret := mt'.2.2.2) (bytes := mt'.2.1) (X.2.2.2.2.2.2.2.2.1.1 ci _ hcl).2 ⟨X.1, X.2.1, X.2.2.1, X.2.2.2.2.2.1, hts⟩ hM
    (va_cwSU na hts (jGI (fun w hw => ?_)) rfl rfl rfl ⟨hno, hmh.2.2⟩ ⟨hf.1, hf.2.1⟩) ⟨dblind, va_recv (q := (C, T, N)) X.2.2.2.2.2.2.2.2.1 hP hcl hg, fun U hU hW => ⟨by simp [jrl]; rfl, by rw [hU]; exact hP, hD.1, by rw [hU]; exact Nat.le_trans X.2.2.2.2.2.2.2.1 hS.1, X.2.2.2.2.2.2.2.2.moved hW (fun a h1 h2 => by rw [hU]; exact hS.2.1 a h1 (Dge_not h2))⟩⟩ rfl (by simp [hna]) hl.1 (by rw [hs]; simp [jrl]; rfl) (lv_room (Dcat da hst)) hd ⟨hf.2.2.1, hf.2.2.2⟩
  unfold va_wsSU at hw
  rcases List.mem_append.mp hw with hw | hw
  · simp only [List.mem_cons, List.not_mem_nil, or_false] at hw
    rcases hw with rfl | rfl | rfl | rfl | rfl
    · exact hlk
    · exact hsame
    · exact hsup
    · exact him
    · exact hi
  · exact jwd_in hco w hw
/-- a method that the object's class inherits, or overrides: x what the call names, mt' what runs -/
theorem dr_callU {mc ms : Nat} {tl : List Nat} {C : String} {x : MethodName} {post' : Option Value → dM → Prop} (hf : Dfit z mt' n' mc ms c0 s0) (hfr : Dfree z L r tl) (hd : decode mt.2.1 pc = .ok (.invokevirtual idx, 3)) (hlk : Cond.methodLink mt.1.cls idx x ∈ jGw) (hsame : Cond.sameMethod x.cls x.cls x.name x.desc ∈ jGw) (hsel : Cond.selects C x mt'.1 ∈ jGw ∨ ∀ (U : State) (H : Heap), jE g U H → (Cond.selects C x mt'.1).before #[] U = true)
    (hdecl : Cond.instanceMethod x ∈ jGw ∧ ∃ b m r, Cond.code x b m r ∈ jGw) (hxd : x.desc = mt'.1.desc) (hxm : x.cls ≠ "java/lang/invoke/MethodHandle" ∧ x.cls ≠ "java/lang/invoke/VarHandle") (hm : jLkC mt' na ∧ Cond.instanceMethod mt'.1 ∈ jGw)
    (hcl : vwCl[ci]? = some (C, T, N)) (ha : disO a ci = true) (hA : DA σ a = true) (hs : st = as.reverse ++ .ref a :: r) (hna : as.length = na) (hst : (r.map fun v => v.category).sum ≤ 8)
    (hc : dCon g z.2.2.2.2 n' mc ms tl mt' (.ref a :: as) σ post') (k : ∀ v τ, post' v τ → DW g z mt (pc + 3) L (v.toList ++ r) τ (c0 + mc) (s0 + ms)) : DW g z mt pc L st σ c0 s0 := by
  obtain ⟨⟨hi, hco, hmh, hml⟩, him⟩ := hm
  obtain ⟨h1, h2, h3, h4⟩ := disO_spec ha
  intro p e s m as0 below meth c H locs ls da X hD hP hS hl
  have hts := X.2.2.2.2.2.2.1
  have ht : ∀ w ∈ jGw, w.before as0 s = true := fun w hw => hts _ (List.mem_cons_of_mem _ hw)
  have hM := hc (Dkeep z L r) (Dkeep_no hfr) da
  obtain ⟨i, -, hg⟩ := Dws_get (g := g) (da := da) (Dal_hi h1 h2 hA)
  rw [Dce_o h1 h3, h4] at hg
  have hsel9 : (Cond.selects C x mt'.1).before as0 s = true := by
    rcases hsel with hsel | hsel
    · exact ht _ hsel
    · exact va_any rfl (hsel _ _ X.2.2.2.2.2.2.2.2.2.2.2)
  have hcode : (Cond.code mt'.1 mt'.2.1 mt'.2.2.1 mt'.2.2.2).before as0 s = true := ht _ hco
  obtain ⟨d1, b9, m9, r9, d2⟩ := hdecl
  refine DW.back (a9 := (Value.ref (Dadr g da a) :: as.map (jrl (Dg g da))).toArray) (kp := Dkeep z L r) (fun k hk => Dkeep_z hk) Dkeep_L Dkeep_r X hD hS hl ?_ k
  refine va_runU (As := as.map (jrl (Dg g da))) (rest := r.map (jrl (Dg g da))) (b := Dadr g da a) (C := C) (owner := x.cls) (n := na) (maxL := mt'.2.2.1) (ret := mt'.2.2.2) (bytes := mt'.2.1) ⟨X.1, X.2.1, X.2.2.1, X.2.2.2.2.2.1, hts⟩ hM
    ⟨⟨rfl, rfl, hf.1, hf.2.1, pay_in hts (jGI (jwd_in hco)), by unfold jwd; exact List.mem_cons_self⟩, hcode, ht _ hi, hxm, fun sig h => ?_, ht _ hlk, ht _ hsame, va_Decl.of (x := x) (ht _ d1) (ht _ d2), hsel9, ht _ him⟩ ⟨dblind, va_recv (q := (C, T, N)) X.2.2.2.2.2.2.2.2.1 hP hcl hg, fun U hU hW => ⟨by simp [jrl]; rfl, by rw [hU]; exact hP, hD.1, by rw [hU]; exact Nat.le_trans X.2.2.2.2.2.2.2.1 hS.1, X.2.2.2.2.2.2.2.2.moved hW (fun a h1 h2 => by rw [hU]; exact hS.2.1 a h1 (Dge_not h2))⟩⟩ rfl (by simp [hna]) hl.1 (by rw [hs]; simp [jrl]; rfl) (lv_room (Dcat da hst)) hd ⟨hf.2.2.1, hf.2.2.2⟩
  have q := hmh.2.2
  rw [← hxd, h] at q
  exact (Option.some.inj q).symm
/-- a final field, in the constructor -/
theorem dr_putF {f tc j t9 : Nat} {C : String} {x : Value} {ε : dM} {ty : FieldType} (hcl : dCls ci C T N) (hk : f < N) (hlk : Cond.fieldLink mt.1.cls j C (T f).2.1 (T f).2.2.1 ∈ jGw) (hC : (T f).1 = C) (hown : C = mt.1.cls) (hnm : mt.1.name = "<init>") (hfin : (T f).2.2.2 = true) (hd9 : parseFieldDescriptor (T f).2.2.1 = some ty) (hnf : ∀ da, narrow ty (jrl (Dg g da) x) = jrl (Dg g da) x ∧ fits ty (jrl (Dg g da) x) = true) (ho : dobj a ci f t9 = true) (hA : DA σ a = true)
    (hA2 : ∀ k, Dal ε k = Dal σ k) (hcl2 : Dcl0 σ → Dcl0 ε) (hv : ∀ da, Dfv g da ε a f ((Dsh a).2.2.getD f 0) = jrl (Dg g da) x) (ho2 : ∀ da j, j ≠ f → Dfv g da ε a j ((Dsh a).2.2.getD j 0) = Dfv g da σ a j ((Dsh a).2.2.getD j 0)) (ho3 : ∀ da q, q ≠ a → Dce g da ε q = Dce g da σ q)
    (d : decode mt.2.1 pc = .ok (.putfield j, 3)) (k : DW g z mt (pc + 3) L r ε c0 s0) : DW g z mt pc L (x :: .ref a :: r) σ c0 s0 := by
  intro p e s m as below meth c H locs ls da X hD hP hS hl
  obtain ⟨q1, q2, ⟨ty0, q3⟩, q4⟩ := hcl
  obtain ⟨h1, h2, h3, h4, h5, h6⟩ := dobj_spec ho
  obtain ⟨i, hi, hg⟩ := Dws_get (g := g) (da := da) (Dal_hi h1 h2 hA)
  rw [Dce_o h1 h3, h4] at hg
  refine va_putF X.1 X.2.1 X.2.2.2.2.2.2.1 (fun w hw => List.mem_cons_of_mem _ (q2 w hw)) ty0 q3 q4 X.2.2.2.2.2.1 X.2.2.2.2.2.2.2.2.1 hP (DD hD.1) hS i hg q1 f hk (X.2.2.2.2.2.2.1 _ (List.mem_cons_of_mem _ hlk)) (fun x hx => by rw [← hC]; exact hx) hfin (X.2.2.2.2.1.2.trans hnm) (hC.trans hown) hd9 (hnf da).1 (hnf da).2 (by rw [Dfs_len]; exact h5) d (fun H1 locs1 hP1 hD1 hS1 => ?_)
  have hok : Dok g z.2.2.2.2 da ε := ⟨fun i j hi hj e => hD.1.1 i j (by rw [← hA2]; exact hi) (by rw [← hA2]; exact hj) e, fun i hi => hD.1.2.1 i (by rw [← hA2]; exact hi), hcl2 hD.1.2.2⟩
  refine k p e s m as below meth c H1 locs1 ls da X ⟨hok, hD.2⟩ (Dws_set hi hA2 ?_ (fun q hq _ => ho3 da q hq) hP1) hS1 hl
  rw [Dce_o h1 h3, h4, Dfs_set (δ := σ) h5 (hv da) (ho2 da)]
end DSUP
/-- the cell a is called b from here on -/
def Drn (σ : dM) (a b : Nat) : dM := (σ.1, fun i j => if i = b then σ.2.1 a j else σ.2.1 i j, fun i j => if i = b then σ.2.2.1 a j else σ.2.2.1 i j, fun i j => Dro a b (if i = b then σ.2.2.2.1 a j else σ.2.2.2.1 i j), fun i => if i = b then σ.2.2.2.2.1 a else σ.2.2.2.2.1 i, fun i => if i = b then true else if i = a then false else σ.2.2.2.2.2 i)
section DRN
variable {σ : dM} {a b i j : Nat}
theorem Drn_S : DS (Drn σ a b) = DS σ := rfl
theorem Drn_I : DI (Drn σ a b) i j = if i = b then DI σ a j else DI σ i j := rfl
theorem Drn_L : DL (Drn σ a b) i j = if i = b then DL σ a j else DL σ i j := rfl
theorem Drn_R : DR (Drn σ a b) i j = Dro a b (if i = b then DR σ a j else DR σ i j) := rfl
theorem Drn_N : DN (Drn σ a b) i = if i = b then DN σ a else DN σ i := rfl
theorem Drn_A : DA (Drn σ a b) i = if i = b then true else if i = a then false else DA σ i := rfl
theorem DW.rn {g : jG} {z : dZ} {mt : jMt} {pc : Nat} {L : List (Nat × Value)} {r : List Value} {c0 s0 : Nat} (hab : a ≠ b) (ha : 1000 ≤ a) (hb : 1000 ≤ b) (hb2 : b < 2100) (ha2 : a < 2100) (hkp : z.2.2.1 b = false) (hsh : Dsh b = Dsh a) (hA : DA σ a = true)
    (hno : ∀ k j, 1000 ≤ k → k < 2100 → DA σ k = true → k ≠ b → DR σ k j ≠ some b) (hL : DnL b L = true) (hr : Dnr b r = true) (kk : DW g z mt pc (DrL a b L) (r.map (Drv a b)) (Drn σ a b) c0 s0) : DW g z mt pc L r σ c0 s0 := by
  refine DW.ren (ε := Drn σ a b) hab ha hb hb2 hkp hsh hA ha2 rfl (fun hcl => ?_) (fun k h1 h2 h3 => ?_) ⟨funext fun j => ?_, funext fun j => ?_, ?_, fun j => ⟨?_, hno a j ha ha2 hA hab⟩⟩ (fun k h1 h2 h3 h4 => ?_) hL hr kk
  · intro x j k hx hx2 e
    obtain ⟨x1, x2⟩ := Dal_lt hx
    have key : ∀ x0, 1000 ≤ x0 → x0 < 2100 → DA σ x0 = true → x0 ≠ b → Dro a b (DR σ x0 j) = some k → k < 1000 ∨ Dal (Drn σ a b) k = true := fun x0 y1 y2 y3 y4 e => by
      unfold Dro at e
      by_cases c : DR σ x0 j = some a
      · rw [if_pos c] at e
        cases e
        exact Or.inr (Dal_hi hb hb2 (by rw [Drn_A, if_pos rfl]))
      · rw [if_neg c] at e
        have h9 := hno x0 j y1 y2 y3 y4
        rw [e] at c h9
        rcases hcl x0 j k (Dal_hi y1 y2 y3) y1 e with q | q
        · exact Or.inl q
        · rcases Nat.lt_or_ge k 1000 with w | w
          · exact Or.inl w
          · obtain ⟨w1, -⟩ := Dal_lt q
            refine Or.inr (Dal_hi w w1 ?_)
            rw [Drn_A, if_neg (fun z => h9 (by rw [z])), if_neg (fun z => c (by rw [z]))]
            exact Dal_A q w
    have hxa := Dal_A hx hx2
    rw [Drn_A] at hxa
    rw [Drn_R] at e
    by_cases c : x = b
    · rw [if_pos c] at e
      exact key a ha ha2 hA hab e
    · rw [if_neg c] at e hxa
      by_cases c2 : x = a
      · rw [if_pos c2] at hxa
        cases hxa
      · rw [if_neg c2] at hxa
        exact key x hx2 x1 hxa c e
  · rw [Drn_A] at h3
    by_cases c : k = b
    · exact Or.inl c
    · rw [if_neg c] at h3
      by_cases c2 : k = a
      · rw [if_pos c2] at h3
        cases h3
      · rw [if_neg c2] at h3
        exact Or.inr ⟨c2, c, h3⟩
  · rw [Drn_I, if_pos rfl]
  · rw [Drn_L, if_pos rfl]
  · rw [Drn_N, if_pos rfl]
  · rw [Drn_R, if_pos rfl]
  · rw [Drn_A, if_neg h4] at h3
    have hka : k ≠ a := fun z => by
      rw [if_pos z] at h3
      cases h3
    rw [if_neg hka] at h3
    refine ⟨funext fun j => ?_, funext fun j => ?_, ?_, fun j => ⟨?_, hno k j h1 h2 h3 h4⟩⟩
    · rw [Drn_I, if_neg h4]
    · rw [Drn_L, if_neg h4]
    · rw [Drn_N, if_neg h4]
    · rw [Drn_R, if_neg h4]
end DRN
