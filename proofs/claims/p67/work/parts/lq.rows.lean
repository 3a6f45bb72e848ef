/-! rows for objects that are made, for constructors, for the superclass's methods and what is inherited -/
def jMi (mt' : jMt) (na : Nat) : Prop := jLkC mt' na ∧ Cond.instanceMethod mt'.1 ∈ jGw ∧ mt'.1.name = "<init>" ∧ mt'.2.2.2 = none
section DNEW
variable {g : jG} {z : dZ} {mt mt' : jMt} {pc : Nat} {L : List (Nat × Value)} {st r as : List Value} {σ : dM} {c0 s0 : Nat} {idx na n' a ci : Nat} {T : u_T} {N : Nat}
theorem Dfs_new (da : Nat → Nat) (n : Nat) (tab : List Nat) : Dfs g da (Dnw σ a n) a tab = kfr tab := by
  unfold Dfs kfr
  refine List.ext_getElem (by simp) (fun j h1 h2 => ?_)
  rw [List.getElem_map, List.getElem_map, List.getElem_range]
  have hj : j < tab.length := by simpa using h2
  have e : tab.getD j 0 = tab[j] := by rw [List.getD_eq_getElem?_getD, List.getElem?_eq_getElem hj]; rfl
  rw [e]
  unfold Dfv
  rw [Dnw_I, Dnw_L, Dnw_R, if_pos rfl, if_pos rfl, if_pos rfl]
  rfl
theorem dr_newO {j1 : Nat} {C : String} {ty9 : Nat → FieldType} (ha1 : 1000 ≤ a) (ha3 : (Dsh a).1 = 0) (ha4 : (Dsh a).2.1 = ci) (hcl : dCls ci C T N) (hty : (∀ k, k < N → parseFieldDescriptor (T k).2.2.1 = some (ty9 k)) ∧ ∀ j, j < N → defaultValue (ty9 j) = vp_V (kfr (Dsh a).2.2) j)
    (w1 : Cond.classLink mt.1.cls j1 C ∈ jGw) (w2 : Cond.instantiable C N ∈ jGw) (w3 : Cond.initialized C ∈ jGw) (hA : DA σ a = false) (hkp : z.2.2.1 a = false) (hcells : c0 + 1 ≤ z.1.cells) (hslots : s0 + N ≤ z.1.slots) (hL : DnL a L = true) (hr : Dnr a r = true) (d : decode mt.2.1 pc = .ok (.new j1, 3))
    (k : DW g z mt (pc + 3) L (.ref a :: r) (Dnw σ a 0) (c0 + 1) (s0 + N)) : DW g z mt pc L r σ c0 s0 := by
  intro p e s m as below meth c H locs ls da X hD hP hS hl
  have hts : ∀ w ∈ jGw, w.before as s = true := fun w hw => X.2.2.2.2.2.2.1 _ (List.mem_cons_of_mem _ hw)
  obtain ⟨q1, q2, -, -⟩ := hcl
  refine va_new (ci := ci) (fs := kfr (Dsh a).2.2) X.1 X.2.1 X.2.2.2.2.2.2.1 (fun w hw => List.mem_cons_of_mem _ (q2 w hw)) ty9 hty.1 X.2.2.2.2.2.1 (hts _ w1) (hts _ w2) (hts _ w3) X.2.2.2.2.2.2.2.2.1 hP (DD hD.1) hS (fun q hq => Nat.le_trans X.2.2.2.2.2.2.2.1 hq) q1 hty.2 hcells hslots d (fun q H1 hP1 hD1 hS1 => ?_)
  refine DW.born ha1 (Dal_no ha1 hA) hkp (fun j => Dnw_al) Dnw_cl ?_ (fun j hj _ => ?_) rfl hL hr k X hD hP1 hD1 hS1 hl
  · rw [Dce_o ha1 ha3, ha4, Dfs_new]
  · refine ⟨funext fun i => ?_, funext fun i => ?_, funext fun i => ?_, ?_⟩
    · rw [Dnw_I, if_neg hj]
    · rw [Dnw_L, if_neg hj]
    · rw [Dnw_R, if_neg hj]
    · rw [Dnw_N, if_neg hj]
theorem dr_objI {i : Nat} (hlk : Cond.methodLink mt.1.cls i objectInit ∈ jGw) (hz : 1 ≤ z.1.frames ∧ 20 ≤ z.1.locals) (hst : (r.map fun v => v.category).sum ≤ 4) (d : decode mt.2.1 pc = .ok (.invokespecial i, 3)) (k : DW g z mt (pc + 3) L r σ c0 s0) : DW g z mt pc L (.ref a :: r) σ c0 s0 := by
  intro p e s m as below meth c H locs ls da X hD hP hS hl
  have hts : ∀ w ∈ jGw, w.before as s = true := fun w hw => X.2.2.2.2.2.2.1 _ (List.mem_cons_of_mem _ hw)
  refine W.objInit X.1 X.2.1 X.2.2.2.2.2.1 (hts _ hlk) (hts (.instanceMethod objectInit) (jGw_of 303 (by decide +kernel) (by decide +kernel))) (hts _ (jGw_of (w := .code objectInit ⟨#[0xb1]⟩ 1 none) 304 (by decide +kernel) (by decide +kernel))) rfl (by rw [X.2.2.1]; exact hl.1) rfl d ?_ ?_ (k p e s m as below meth c H locs ls da X hD hP hS hl)
  · exact hz.1
  · have h9 : 2 * (F0 m pc ls ((Value.ref a :: r).map (jrl (Dg g da)))).monitorRoom + ((r.map (jrl (Dg g da))).map fun v => v.category).sum ≤ 8 := lv_room (Dcat da (Nat.le_trans hst (by decide)))
    have := hz.2
    omega
/-- a constructor of an object that is there -/
theorem dr_callI {mc ms : Nat} {tl : List Nat} {post' : Option Value → dM → Prop} (hf : Dfit z mt' n' mc ms c0 s0) (hfr : Dfree z L r tl) (hd : decode mt.2.1 pc = .ok (.invokespecial idx, 3)) (hlk : Cond.methodLink mt.1.cls idx mt'.1 ∈ jGw) (hm : jMi mt' na) (hs : st = as.reverse ++ .ref a :: r) (hna : as.length = na) (hst : (r.map fun v => v.category).sum ≤ 8)
    (hc : dCon g z.2.2.2.2 n' mc ms tl mt' (.ref a :: as) σ post') (k : ∀ v τ, post' v τ → DW g z mt (pc + 3) L (v.toList ++ r) τ (c0 + mc) (s0 + ms)) : DW g z mt pc L st σ c0 s0 := by
  obtain ⟨y', b', ml', rt'⟩ := mt'
  obtain ⟨⟨hi, hco, hmh, hml⟩, him, hnm, hrt⟩ := hm
  obtain rfl : rt' = none := hrt
  intro p e s m as0 below meth c H locs ls da X hD hP hS hl
  have hts := X.2.2.2.2.2.2.1
  have hM := hc (Dkeep z L r) (Dkeep_no hfr) da
  have hpre : PreS s H (dPc g z.2.2.2.2 da (.ref a :: as) σ) (Value.ref (Dadr g da a) :: as.map (jrl (Dg g da))) := ⟨dblind, fun U hU hW => ⟨by simp [jrl]; rfl, by rw [hU]; exact hP, hD.1, by rw [hU]; exact Nat.le_trans X.2.2.2.2.2.2.2.1 hS.1, X.2.2.2.2.2.2.2.2.moved hW (fun a h1 h2 => by rw [hU]; exact hS.2.1 a h1 (Dge_not h2))⟩⟩
  refine DW.back (a9 := (Value.ref (Dadr g da a) :: as.map (jrl (Dg g da))).toArray) (kp := Dkeep z L r) (fun k hk => Dkeep_z hk) Dkeep_L Dkeep_r X hD hS hl ?_ k
  exact va_runI (As := as.map (jrl (Dg g da))) (rest := r.map (jrl (Dg g da))) (b := Dadr g da a) (n := na) ⟨X.1, X.2.1, X.2.2.1, X.2.2.2.2.2.1, hts⟩ hM
    (cwI na hts (jGI (jwd_in hco)) rfl rfl rfl (hts _ (List.mem_cons_of_mem _ hi)) (hts _ (List.mem_cons_of_mem _ hlk)) (hts _ (List.mem_cons_of_mem _ him)) hnm hmh ⟨hf.1, hf.2.1⟩) hpre rfl (by simp [hna]) hl.1 (by rw [hs]; simp [jrl]; rfl) (lv_room (Dcat da hst)) hd ⟨hf.2.2.1, hf.2.2.2⟩
end DNEW
