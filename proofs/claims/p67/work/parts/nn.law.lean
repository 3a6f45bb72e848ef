/-! by program (gnn.py): the law's entry: what the Statement gives of the start -/
def nwL : List Cond := flatC (Jvm.Cond.and given_1 narrow_1)
def stm (i : Nat) : Term := .string (stT.getD i ("", 0, "")).1 (stT.getD i ("", 0, "")).2.1
def nwB : List Nat := [318, 326, 336, 342, 351, 362, 370, 377, 387, 396, 404, 411, 419, 429, 447, 463, 239, 243, 252, 257, 268, 273, 280, 290, 303]
def stP : List Nat := [1112, 1144, 1167, 1168, 1177, 1182, 1191, 1200, 1201, 1202, 1207, 1208, 1209, 1439, 1481, 1688, 740, 888, 911, 972, 973, 999, 1000, 1001, 1051]
theorem nw_ex : ∀ i, i < 25 → nwL[nwB.getD i 0]? = some (Cond.exactly (stm i) "java/lang/String") := by decide +kernel
theorem nw_co : ∀ i, i < 25 → nwL[nwB.getD i 0 + 1]? = some (Cond.eq (.field (stm i) "java/lang/String" "coder" "B") (.int 0)) := by decide +kernel
theorem nw_ar : ∀ i, i < 25 → nwL[nwB.getD i 0 + 2]? = some (Cond.arrayOf (.field (stm i) "java/lang/String" "value" "[B") .byte) := by decide +kernel
theorem nw_le : ∀ i, i < 25 → nwL[nwB.getD i 0 + 3]? = some (Cond.eq (.length (.field (stm i) "java/lang/String" "value" "[B")) (.int (Int32.ofNat (stL.getD i 0)))) := by decide +kernel
theorem nw_el : ∀ i, i < 25 → ∀ j, j < stL.getD i 0 → nwL[nwB.getD i 0 + 4 + j]? = some (Cond.eq (.elem (.field (stm i) "java/lang/String" "value" "[B") (.int (Int32.ofNat j))) (.int ((stY.getD i []).getD j 0))) := by decide +kernel
theorem nw_sr : ∀ i, i < 25 → lw_tbl[stP.getD i 0]? = some (Cond.stringRef (stT.getD i ("", 0, "")).1 (stT.getD i ("", 0, "")).2.1 (stT.getD i ("", 0, "")).2.2) := by decide +kernel
theorem nw_L : ∀ i, i < 25 → stL.getD i 0 < 2 ^ 31 := by decide
theorem nw_d1 : ∀ j, j < 100 → nwL[16 + j]? = some (Cond.eq (.elem (.static "java/lang/Integer" "DigitOnes" "[B") (.int (Int32.ofNat j))) (.int (nI (48 + j % 10)))) := by decide +kernel
theorem nw_d2 : ∀ j, j < 100 → nwL[119 + j]? = some (Cond.eq (.elem (.static "java/lang/Integer" "DigitTens" "[B") (.int (Int32.ofNat j))) (.int (nI (48 + j / 10)))) := by decide +kernel
theorem nw_ok {b : Nat} {s : State} (h : (Jvm.Cond.and given_1 narrow_1).before #[Value.ref b] s = true) {i : Nat} {w : Cond} (e : nwL[i]? = some w) : w.before #[Value.ref b] s = true := flat_of_before _ h w (List.mem_of_getElem? e)
theorem jG_tbl {w : Cond} (h : w ∈ jGw) : w ∈ lw_tbl := (List.mem_filter.mp h).1
theorem sel_priv {C : String} {y y0 : MethodName} {s : State} {args : Array Value} {n : Nat} (hy : y.cls ≠ "java/lang/invoke/MethodHandle" ∧ y.cls ≠ "java/lang/invoke/VarHandle")
    (hins : (Cond.instantiable C n).before args s = true) (hpriv : (Cond.privateMethod y).before args s = true) (hinst : (Cond.instanceMethod y).before args s = true) (h0 : (Cond.selects C y0 y0).before args s = true) (e0 : y0.cls = y.cls) : (Cond.selects C y y).before args s = true := by
  obtain ⟨c, k, hc, hk, -, hniab, -, -⟩ := Cond.instantiable_spec hins
  obtain ⟨mk, methM, hnamed, hmethM, -, -⟩ := Cond.instanceMethod_spec hinst
  have hfound : s.methodFound? y.cls y.name y.desc = some mk := State.methodFound?_of_named hnamed hy
  have hsel : selectMethod {} s.vm c mk = .method mk := selectMethod_private hmethM (Cond.privateMethod_at hpriv mk methM hnamed hmethM)
  obtain ⟨c2, r2, m2, q1, q2, q3, q4, kP, hkP, hkPi⟩ := Cond.selects_spec h0
  have e2 : m2.cls = mk.cls := by
    have a1 := findClass_of_methodNamed hnamed
    have a2 := findClass_of_methodNamed q3
    rw [e0] at a2
    exact Option.some.inj (a2.symm.trans a1)
  rw [e2] at hkP
  simp only [Cond.before, Cond.holds, Cond.value, hc, hfound, hnamed, hsel, hkP]
  simp [hkPi]
/-- the words that are kept beside -/
def gWa (U : State) : Prop := (Cond.arrayOver (.array .int)).before #[] U = true ∧ (Cond.arrayOver (.array .boolean)).before #[] U = true ∧ va_AO "java/lang/Object" U
theorem gWa_mv {u U : State} (hA : u.vm.Alike U.vm) (h : gWa u) : gWa U := ⟨kAO_mv hA h.1, kAO_mv hA h.2.1, va_AO.moved hA h.2.2⟩
def gWl : List Cond := [.castable "[I" "java/lang/Cloneable", .castable "[I" "java/lang/Object", .castable "[B" "java/lang/Cloneable"] ++ sbPv.map (fun y => Cond.selects "java/lang/StringBuilder" y y)
theorem gWl_t : ∀ w ∈ gWl, w.onTables = true := by decide +kernel
theorem gWl_mv {s U : State} (hW : s.WarmedH U.vm) (h : ∀ w ∈ gWl, w.before #[] s = true) : ∀ w ∈ gWl, w.before #[] U = true := by
  intro w hw
  have h1 := h w hw
  by_cases c : goodWord w = true
  · exact word_at hW (good_of_word c) h1
  · have key : ∀ w ∈ gWl, ¬ goodWord w = true → w = .castable "[I" "java/lang/Cloneable" ∨ w = .castable "[I" "java/lang/Object" ∨ w = .castable "[B" "java/lang/Cloneable" := by decide +kernel
    rcases key w hw c with rfl | rfl | rfl
    · exact va_Nw.warmC hW h1
    · exact va_Nw.warmC hW h1
    · exact va_Nw.warmC hW h1
theorem gWl_same {u U : State} (hv : u.vm = U.vm) (h : ∀ w ∈ gWl, w.before #[] u = true) : ∀ w ∈ gWl, w.before #[] U = true := fun w hw => va_tabs (gWl_t w hw) hv (h w hw)
def gDg (h0 d1 d2 al : Nat) (U : State) (H : Heap) : Prop := (va_Z "java/lang/Integer" "DigitOnes" "[B" (.ref d1) (Dge h0) U H ∧ va_T .byte d1 100 (fun i => .int (nI (48 + i % 10))) (Dge h0) U H) ∧ (va_Z "java/lang/Integer" "DigitTens" "[B" (.ref d2) (Dge h0) U H ∧ va_T .byte d2 100 (fun i => .int (nI (48 + i / 10))) (Dge h0) U H) ∧ va_Z "java/util/ArrayList" "DEFAULTCAPACITY_EMPTY_ELEMENTDATA" "[Ljava/lang/Object;" (.ref al) (Dge h0) U H ∧ va_T (.object "java/lang/Object") al 0 (fun _ => .null) (Dge h0) U H
def gEE (h0 : Nat) (ad : Nat → Nat) (b N : Nat) (xs : Nat → Int32) : State → Heap → Prop := fun U H => (jEp ad (Dge h0) U H ∧ vk_R "RentDivisionLaw" 21 " " (ad 374) U) ∧ (va_X b N xs U H ∧ b < H.size) ∧ gDg h0 (ad 502) (ad 503) (ad 504) U H ∧ (∀ w ∈ gWl, w.before #[] U = true) ∧ gWa U
theorem jEp_mv {ad : Nat → Nat} {A : Nat → Prop} {s U : State} {H : Heap} (hW : s.WarmedH U.vm) (h : jEp ad A s H) : jEp ad A U H := by
  have hA := hW.alike
  obtain ⟨h1, h2, h3, h4, h5, h6⟩ := h
  exact ⟨fun i hi => vk_S.moved hA (h1 i hi), fun i hi => vk_R.warm hW (h2 i hi), va_Z.moved hA h3, va_Z.moved hA h4, vx_Zq.moved hA h5, vx_Zq.moved hA h6⟩
theorem jEp_same {ad : Nat → Nat} {A : Nat → Prop} {u U : State} {H : Heap} (hv : U.vm = u.vm) (h : jEp ad A u H) : jEp ad A U H := by
  have hA : u.vm.Alike U.vm := by rw [hv]; exact Vm.Alike.refl _
  obtain ⟨h1, h2, h3, h4, h5, h6⟩ := h
  exact ⟨fun i hi => vk_S.moved hA (h1 i hi), fun i hi => vk_R.same hv (h2 i hi), va_Z.moved hA h3, va_Z.moved hA h4, vx_Zq.moved hA h5, vx_Zq.moved hA h6⟩
theorem jEp_kept {ad : Nat → Nat} {A : Nat → Prop} {U : State} {H H1 : Heap} (hq : ∀ a : Nat, a < H.size → ¬ A a → H1[a]? = H[a]?) (h : jEp ad A U H) : jEp ad A U H1 := by
  obtain ⟨h1, h2, h3, h4, h5, h6⟩ := h
  exact ⟨fun i hi => vk_S.kept (h1 i hi) hq, h2, va_Z.kept h3 hq, va_Z.kept h4 hq, vx_Zq.kept h5 hq, vx_Zq.kept h6 hq⟩
theorem jEp_nar {ad : Nat → Nat} {A B : Nat → Prop} {U : State} {H : Heap} (hAB : ∀ q, B q → A q) (h : jEp ad A U H) : jEp ad B U H := by
  obtain ⟨h1, h2, h3, h4, h5, h6⟩ := h
  exact ⟨fun i hi => vk_S.narrow (h1 i hi) hAB, h2, va_Z.narrow h3 hAB, va_Z.narrow h4 hAB, vx_Zq.narrow h5 hAB, vx_Zq.narrow h6 hAB⟩
theorem gDg_mv {h0 d1 d2 al : Nat} {u U : State} {H : Heap} (hA : u.vm.Alike U.vm) (h : gDg h0 d1 d2 al u H) : gDg h0 d1 d2 al U H := ⟨⟨va_Z.moved hA h.1.1, va_T.moved hA h.1.2⟩, ⟨va_Z.moved hA h.2.1.1, va_T.moved hA h.2.1.2⟩, va_Z.moved hA h.2.2.1, va_T.moved hA h.2.2.2⟩
theorem gDg_kept {h0 d1 d2 al : Nat} {U : State} {H H1 : Heap} (hq : ∀ a : Nat, a < H.size → ¬ Dge h0 a → H1[a]? = H[a]?) (h : gDg h0 d1 d2 al U H) : gDg h0 d1 d2 al U H1 := ⟨⟨va_Z.kept h.1.1 hq, va_T.kept h.1.2 hq⟩, ⟨va_Z.kept h.2.1.1 hq, va_T.kept h.2.1.2 hq⟩, va_Z.kept h.2.2.1 hq, va_T.kept h.2.2.2 hq⟩
theorem gEE_ek {l : Launch} {D : va_G} {ad : Nat → Nat} {jt : Nat → ClassId} {h0 b N : Nat} {xs : Nat → Int32} (hb : b < h0) : DEk ((l, D, ad, jt, gEE h0 ad b N xs) : jG) h0 := by
  refine ⟨fun s U H hW h => ?_, fun u U H hv h => ?_, fun U H H1 h hq => ?_⟩
  · obtain ⟨⟨h1, h2⟩, ⟨h3, h4⟩, h5, h6⟩ := h
    exact ⟨⟨jEp_mv hW h1, vk_R.warm hW h2⟩, ⟨va_X.moved hW.alike h3, h4⟩, gDg_mv hW.alike h5, gWl_mv hW h6.1, gWa_mv hW.alike h6.2⟩
  · have hA : u.vm.Alike U.vm := by rw [hv]; exact Vm.Alike.refl _
    obtain ⟨⟨h1, h2⟩, ⟨h3, h4⟩, h5, h6⟩ := h
    exact ⟨⟨jEp_same hv h1, vk_R.same hv h2⟩, ⟨va_X.moved hA h3, h4⟩, gDg_mv hA h5, gWl_same hv.symm h6.1, gWa_mv hA h6.2⟩
  · obtain ⟨⟨h1, h2⟩, ⟨h3, h4⟩, h5, h6⟩ := h
    have h9 : ∀ a : Nat, a < H.size → ¬ Dge h0 a → H1[a]? = H[a]? := fun a x1 x2 => hq a x1 (Nat.not_le.mp x2)
    have e := hq b h4 hb
    refine ⟨⟨jEp_kept h9 h1, h2⟩, ⟨va_X.kept h3 e, ?_⟩, gDg_kept h9 h5, h6⟩
    have h8 : (H[b]?).isSome := by simp [h4]
    rw [← e] at h8
    simpa using h8
theorem jt_prim {s : State} {args : Array Value} {ty : FieldType} (h : (Cond.arrayClass ty).before args s = true) : ∃ cA : ClassId, ArrOfT s cA ty ∧ s.vm.findClass ("[" ++ ty.toString) = some cA := by
  obtain ⟨c, k, comp, h1, h2, h3⟩ := Cond.arrayClass_spec h
  exact ⟨c, fun n z => ⟨fun k h => (by cases h), k, h2, comp, h3⟩, h1⟩
theorem jt_over {s : State} {args : Array Value} {ty : FieldType} (h : (Cond.arrayOver (.array ty)).before args s = true) : ∃ cA : ClassId, ArrOfT s cA (.array ty) ∧ va_RA s cA (.array ty) := by
  obtain ⟨comp, c, k, h1, h2, h3, h4, h5⟩ := arrayOver_specB h
  exact ⟨c, fun n z => ⟨fun k h => (by cases h), k, h3, comp, h4⟩, h5⟩
theorem jt_obj {s : State} {args : Array Value} {C : String} (h : (Cond.arrayOver (.object C)).before args s = true) : ∃ cA : ClassId, ArrOfT s cA (.object C) ∧ va_RA s cA (.object C) := by
  obtain ⟨comp, c, k, h1, h2, h3, h4, h5⟩ := Cond.arrayOver_spec h
  exact ⟨c, fun n z => ⟨fun k h => (by cases h), k, h3, comp, h4⟩, k, comp, h3, h4, h1, h5⟩
theorem jt_ex {s : State} {args : Array Value} (hts : ∀ w ∈ lw_tbl, w.before args s = true) : ∀ t : Nat, ∃ cA : ClassId, t < 10 → ArrOfT s cA (DtyL.getD t .int) ∧ va_RA s cA (DtyL.getD t .int)
  | 0 => by
    obtain ⟨c, h1, h2⟩ := jt_prim (hts (.arrayClass .int) (List.mem_of_getElem? (i := 438) (by decide +kernel)))
    exact ⟨c, fun _ => ⟨h1, h2⟩⟩
  | 1 => by
    obtain ⟨c, h1, h2⟩ := jt_prim (hts (.arrayClass .byte) (List.mem_of_getElem? (i := 344) (by decide +kernel)))
    exact ⟨c, fun _ => ⟨h1, h2⟩⟩
  | 2 => by
    obtain ⟨c, h1, h2⟩ := jt_prim (hts (.arrayClass .char) (List.mem_of_getElem? (i := 675) (by decide +kernel)))
    exact ⟨c, fun _ => ⟨h1, h2⟩⟩
  | 3 => by
    obtain ⟨c, h1, h2⟩ := jt_prim (hts (.arrayClass .boolean) (List.mem_of_getElem? (i := 503) (by decide +kernel)))
    exact ⟨c, fun _ => ⟨h1, h2⟩⟩
  | 4 => by
    obtain ⟨c, h1, h2⟩ := jt_prim (hts (.arrayClass .long) (List.mem_of_getElem? (i := 577) (by decide +kernel)))
    exact ⟨c, fun _ => ⟨h1, h2⟩⟩
  | 5 => by
    obtain ⟨c, h1, h2⟩ := jt_prim (hts (.arrayClass .long) (List.mem_of_getElem? (i := 577) (by decide +kernel)))
    exact ⟨c, fun _ => ⟨h1, h2⟩⟩
  | 6 => by
    obtain ⟨c, h1⟩ := jt_over (hts (.arrayOver (.array .int)) (List.mem_of_getElem? (i := 352) (by decide +kernel)))
    exact ⟨c, fun _ => h1⟩
  | 7 => by
    obtain ⟨c, h1⟩ := jt_obj (hts (.arrayOver (.object "RentDivision$Flat")) (List.mem_of_getElem? (i := 515) (by decide +kernel)))
    exact ⟨c, fun _ => h1⟩
  | 8 => by
    obtain ⟨c, h1⟩ := jt_over (hts (.arrayOver (.array .boolean)) (List.mem_of_getElem? (i := 739) (by decide +kernel)))
    exact ⟨c, fun _ => h1⟩
  | 9 => by
    obtain ⟨c, h1⟩ := jt_obj (hts (.arrayOver (.object "java/lang/Object")) (List.mem_of_getElem? (i := 1047) (by decide +kernel)))
    exact ⟨c, fun _ => h1⟩
  | t + 10 => ⟨0, fun h => absurd h (by omega)⟩
theorem vcl_ok : ∀ q ∈ vwCl, (∀ w ∈ u_ws q.1 q.2.1 q.2.2, w ∈ jGw) ∧ Cond.instantiable q.1 q.2.2 ∈ jGw := (List.forall_mem_cons.mpr ⟨⟨jcls_X0.2.1, jGw_of 238 (by decide +kernel) (by decide +kernel)⟩, (List.forall_mem_cons.mpr ⟨⟨jcls_X1.2.1, jGw_of 169 (by decide +kernel) (by decide +kernel)⟩, (List.forall_mem_cons.mpr ⟨⟨jcls_X2.2.1, jGw_of 346 (by decide +kernel) (by decide +kernel)⟩, (List.forall_mem_cons.mpr ⟨⟨jcls_X3.2.1, jGw_of 509 (by decide +kernel) (by decide +kernel)⟩, (List.forall_mem_cons.mpr ⟨⟨jcls_X4.2.1, jGw_of 311 (by decide +kernel) (by decide +kernel)⟩, (List.forall_mem_cons.mpr ⟨⟨jcls_X5.2.1, jGw_of 663 (by decide +kernel) (by decide +kernel)⟩, (List.forall_mem_cons.mpr ⟨⟨jcls_X6.2.1, jGw_of 200 (by decide +kernel) (by decide +kernel)⟩, (List.forall_mem_cons.mpr ⟨⟨jcls_X7.2.1, jGw_of 440 (by decide +kernel) (by decide +kernel)⟩, (List.forall_mem_cons.mpr ⟨⟨jcls_X8.2.1, jGw_of 627 (by decide +kernel) (by decide +kernel)⟩, (List.forall_mem_cons.mpr ⟨⟨jcls_X9.2.1, jGw_of 253 (by decide +kernel) (by decide +kernel)⟩, (List.forall_mem_cons.mpr ⟨⟨jcls_X10.2.1, jGw_of 317 (by decide +kernel) (by decide +kernel)⟩, (List.forall_mem_cons.mpr ⟨⟨jcls_X11.2.1, jGw_of 101 (by decide +kernel) (by decide +kernel)⟩, (List.forall_mem_cons.mpr ⟨⟨jcls_X12.2.1, jGw_of 298 (by decide +kernel) (by decide +kernel)⟩, (List.forall_mem_cons.mpr ⟨⟨dcls_J0.2.1, jGw_of 917 (by decide +kernel) (by decide +kernel)⟩, (List.forall_mem_cons.mpr ⟨⟨dcls_J4.2.1, jGw_of 742 (by decide +kernel) (by decide +kernel)⟩, (List.forall_mem_cons.mpr ⟨⟨dcls_Jx4a65c.2.1, jGw_of 705 (by decide +kernel) (by decide +kernel)⟩, (fun _ h => absurd h List.not_mem_nil)⟩)⟩)⟩)⟩)⟩)⟩)⟩)⟩)⟩)⟩)⟩)⟩)⟩)⟩)⟩)⟩)
theorem vcl_ex {s : State} {args : Array Value} (hts : ∀ w ∈ lw_tbl, w.before args s = true) : ∀ c : Nat, ∃ z : ClassId × (Nat → Nat), ∀ q, vwCl[c]? = some q → u_Kn s q.1 q.2.1 q.2.2 z.1 z.2 := by
  intro c
  cases h : vwCl[c]? with
  | none => exact ⟨(0, fun _ => 0), fun q e => (by cases e)⟩
  | some q =>
    obtain ⟨a1, a2⟩ := vcl_ok q (List.mem_of_getElem? h)
    obtain ⟨cC, iS, hk⟩ := u_known hts (fun w hw => jG_tbl (a1 w hw)) (hts _ (jG_tbl a2))
    exact ⟨(cC, iS), fun q' e => by cases e; exact hk⟩
theorem vk_S_cg {N : Nat} {len : List Nat} {byt : List (List Int32)} {aK aV aK' aV' : Nat → Nat} {A : Nat → Prop} {U : State} {H : Heap} (h : vk_S N len byt aK aV A U H) (e1 : ∀ i, i < N → aK' i = aK i) (e2 : ∀ i, i < N → aV' i = aV i) : vk_S N len byt aK' aV' A U H := by
  refine ⟨fun i hi => ?_, fun i j hi hj e => ?_⟩
  · have := h.1 i hi
    rw [← e1 i hi, ← e2 i hi] at this
    exact this
  · rw [e1 i hi, e1 j hj] at e
    exact h.2 i j hi hj e
/-- where all lies: the class's cells, the desk, the script, SIOOBE_FORMATTER, the digits, the empty row, the constant texts -/
def gad (h0 b : Nat) (sf : Option Nat) (d1 d2 al : Nat) (aK aV : Nat → Nat) (k : Nat) : Nat :=
  if k < 322 then h0 + 1 + k else if k = 380 then b else if k = 500 then sf.getD 0 else if k = 501 then (if sf = none then 0 else 1) else if k = 502 then d1 else if k = 503 then d2 else if k = 504 then al else if k = 1000 then h0 else if k < 400 then aK (k - 354) else aV (k - 400)
def gsv (sf : Option Nat) : Value := match sf with
  | none => .null
  | some t => .ref t
section GAD
variable {h0 b d1 d2 al : Nat} {sf : Option Nat} {aK aV : Nat → Nat}
theorem gad_c {k : Nat} (h : k < 322) : gad h0 b sf d1 d2 al aK aV k = h0 + 1 + k := if_pos h
theorem gad_K {i : Nat} (h : i < 25) : gad h0 b sf d1 d2 al aK aV (354 + i) = aK i := by
  unfold gad
  rw [if_neg (by omega), if_neg (by omega), if_neg (by omega), if_neg (by omega), if_neg (by omega), if_neg (by omega), if_neg (by omega), if_neg (by omega), if_pos (by omega)]
  exact congrArg aK (by omega)
theorem gad_V {i : Nat} (h : i < 25) : gad h0 b sf d1 d2 al aK aV (400 + i) = aV i := by
  unfold gad
  rw [if_neg (by omega), if_neg (by omega), if_neg (by omega), if_neg (by omega), if_neg (by omega), if_neg (by omega), if_neg (by omega), if_neg (by omega), if_neg (by omega)]
  exact congrArg aV (by omega)
theorem gad_S : (if gad h0 b sf d1 d2 al aK aV 501 = 0 then Value.null else .ref (gad h0 b sf d1 d2 al aK aV 500)) = gsv sf := by
  cases sf <;> rfl
end GAD
theorem sf_ex {s : State} {A : Nat → Prop} {C n d : String} (h : va_Zq C n d A s s.heap) : ∃ sf : Option Nat, va_Z C n d (gsv sf) A s s.heap := by
  rcases h with h | ⟨t, h⟩
  · exact ⟨none, h⟩
  · exact ⟨some t, h⟩
set_option maxHeartbeats 4000000 in
/-- from the entry, for every script of at most 260 ints, the law comes to its end with true -/
theorem whole_start {p : Program} {e : Env} {s : State} {m : MethodId} {below : List Frame} {meth : Method} {c : Code} (l : Launch) (hflags : l.flags = flags0) {b L : Nat} {xs : Nat → Int32} (hL : L ≤ 260) (C0 : lw_At p s m meth c b L xs) : W p l e room_1 s m #[Value.ref b] below meth c s.heap [] 0 0 (lw_Z below #[Value.ref b] s) (entryFrame m ([Value.ref b] : List Value).toArray 3) := by
  obtain ⟨hx, hb, hret, hml, hown, hts, hX, hbl, hlocks, hgv⟩ := C0
  obtain ⟨z, hz⟩ := Classical.axiomOfChoice (vcl_ex hts)
  obtain ⟨jt, hjt⟩ := Classical.axiomOfChoice (jt_ex hts)
  have hA : ∀ a : Nat, a < s.heap.size → ¬ Dge s.heap.size a := fun a h => Nat.not_le.mpr h
  have hS : ∀ i : Nat, ∃ q : Nat × Nat, i < 25 → vk_S 1 [stL.getD i 0] [stY.getD i []] (fun _ => q.1) (fun _ => q.2) (Dge s.heap.size) s s.heap ∧ (stm i).eval #[Value.ref b] s none [] s = some (.ref q.1) := by
    intro i
    by_cases hi : i < 25
    · obtain ⟨aK, aV, h1, h2⟩ := vk_Sof (args := #[Value.ref b]) (s := s) (N := 1) (tm := fun _ => stm i) (len := [stL.getD i 0]) (byt := [stY.getD i []]) (A := Dge s.heap.size) (fun j hj => by
        obtain rfl : j = 0 := by omega
        exact nw_L i hi) (fun j hj => nw_ok hgv (nw_ex i hi)) (fun j hj => nw_ok hgv (nw_co i hi)) (fun j hj => nw_ok hgv (nw_ar i hi)) (fun j hj => by
        obtain rfl : j = 0 := by omega
        exact nw_ok hgv (nw_le i hi)) (fun j hj k hk => by
        obtain rfl : j = 0 := by omega
        exact nw_ok hgv (nw_el i hi k hk)) (fun j k hj hk hne => by omega) hA
      exact ⟨(aK 0, aV 0), fun _ => ⟨vk_S_cg h1 (fun j hj => by
        obtain rfl : j = 0 := by omega
        rfl) (fun j hj => by
        obtain rfl : j = 0 := by omega
        rfl), h2 0 (by omega)⟩⟩
    · exact ⟨(0, 0), fun h => absurd h hi⟩
  obtain ⟨aKV, hKV⟩ := Classical.axiomOfChoice hS
  obtain ⟨sf, hsf⟩ := sf_ex (va_Zqof (A := Dge s.heap.size) (hts (.laysStatic "jdk/internal/util/Preconditions" "SIOOBE_FORMATTER" "Ljava/util/function/BiFunction;") (List.mem_of_getElem? (i := 832) (by decide +kernel))) (hts (.initialized "jdk/internal/util/Preconditions") (List.mem_of_getElem? (i := 79) (by decide +kernel))) (nw_ok hgv (show nwL[9]? = some (Cond.isRef (.static "jdk/internal/util/Preconditions" "SIOOBE_FORMATTER" "Ljava/util/function/BiFunction;")) by decide +kernel)) hA)
  have hcs : va_Z "java/lang/String" "COMPACT_STRINGS" "Z" (.int 1) (Dge s.heap.size) s s.heap := va_Zof (hts (.laysStatic "java/lang/String" "COMPACT_STRINGS" "Z") (List.mem_of_getElem? (i := 751) (by decide +kernel))) (hts (.initialized "java/lang/String") (List.mem_of_getElem? (i := 74) (by decide +kernel))) (va_eqt (nw_ok hgv (show nwL[8]? = some (Cond.eq (.static "java/lang/String" "COMPACT_STRINGS" "Z") (.int 1)) by decide +kernel))) hA
  have hu := vx_Zqof (A := Dge s.heap.size) (hts (.laysStatic Bundle.tN "UNASSIGNED_STACK" Bundle.steD) (List.mem_of_getElem? (i := 1427) (by decide +kernel))) (hts (.initialized Bundle.tN) (List.mem_of_getElem? (i := 83) (by decide +kernel))) (nw_ok hgv (show nwL[219]? = some (Cond.isRef (.static Bundle.tN "UNASSIGNED_STACK" Bundle.steD)) by decide +kernel)) hA
  have hs := vx_Zqof (A := Dge s.heap.size) (hts (.laysStatic Bundle.tN "SUPPRESSED_SENTINEL" Bundle.listD) (List.mem_of_getElem? (i := 1429) (by decide +kernel))) (hts (.initialized Bundle.tN) (List.mem_of_getElem? (i := 83) (by decide +kernel))) (nw_ok hgv (show nwL[220]? = some (Cond.isRef (.static Bundle.tN "SUPPRESSED_SENTINEL" Bundle.listD)) by decide +kernel)) hA
  obtain ⟨d1, ed1, hd1⟩ := va_Tof (s := s) (tm := .static "java/lang/Integer" "DigitOnes" "[B") (ty := .byte) (N := 100) (f := fun i => .int (nI (48 + i % 10))) (A := Dge s.heap.size) (by decide) (nw_ok hgv (show nwL[14]? = some (Cond.arrayOf (.static "java/lang/Integer" "DigitOnes" "[B") .byte) by decide +kernel)) (va_eqt (nw_ok hgv (show nwL[15]? = some (Cond.eq (.length (.static "java/lang/Integer" "DigitOnes" "[B")) (.int (Int32.ofNat 100))) by decide +kernel))) (fun j hj => va_eqt (nw_ok hgv (nw_d1 j hj))) hA
  have zd1 : va_Z "java/lang/Integer" "DigitOnes" "[B" (.ref d1) (Dge s.heap.size) s s.heap := va_Zof (hts (.laysStatic "java/lang/Integer" "DigitOnes" "[B") (List.mem_of_getElem? (i := 988) (by decide +kernel))) (hts (.initialized "java/lang/Integer") (List.mem_of_getElem? (i := 82) (by decide +kernel))) ed1 hA
  obtain ⟨d2, ed2, hd2⟩ := va_Tof (s := s) (tm := .static "java/lang/Integer" "DigitTens" "[B") (ty := .byte) (N := 100) (f := fun i => .int (nI (48 + i / 10))) (A := Dge s.heap.size) (by decide) (nw_ok hgv (show nwL[117]? = some (Cond.arrayOf (.static "java/lang/Integer" "DigitTens" "[B") .byte) by decide +kernel)) (va_eqt (nw_ok hgv (show nwL[118]? = some (Cond.eq (.length (.static "java/lang/Integer" "DigitTens" "[B")) (.int (Int32.ofNat 100))) by decide +kernel))) (fun j hj => va_eqt (nw_ok hgv (nw_d2 j hj))) hA
  have zd2 : va_Z "java/lang/Integer" "DigitTens" "[B" (.ref d2) (Dge s.heap.size) s s.heap := va_Zof (hts (.laysStatic "java/lang/Integer" "DigitTens" "[B") (List.mem_of_getElem? (i := 990) (by decide +kernel))) (hts (.initialized "java/lang/Integer") (List.mem_of_getElem? (i := 82) (by decide +kernel))) ed2 hA
  obtain ⟨al, eal, hal⟩ := va_Tof (s := s) (tm := .static "java/util/ArrayList" "DEFAULTCAPACITY_EMPTY_ELEMENTDATA" "[Ljava/lang/Object;") (ty := .object "java/lang/Object") (N := 0) (f := fun _ => .null) (A := Dge s.heap.size) (by decide) (nw_ok hgv (show nwL[5]? = some (Cond.arrayOf (.static "java/util/ArrayList" "DEFAULTCAPACITY_EMPTY_ELEMENTDATA" "[Ljava/lang/Object;") (.object "java/lang/Object")) by decide +kernel)) (va_eqt (nw_ok hgv (show nwL[7]? = some (Cond.eq (.length (.static "java/util/ArrayList" "DEFAULTCAPACITY_EMPTY_ELEMENTDATA" "[Ljava/lang/Object;")) (.int (Int32.ofNat 0))) by decide +kernel))) (fun j hj => absurd hj (Nat.not_lt_zero _)) hA
  have zal : va_Z "java/util/ArrayList" "DEFAULTCAPACITY_EMPTY_ELEMENTDATA" "[Ljava/lang/Object;" (.ref al) (Dge s.heap.size) s s.heap := va_Zof (hts (.laysStatic "java/util/ArrayList" "DEFAULTCAPACITY_EMPTY_ELEMENTDATA" "[Ljava/lang/Object;") (List.mem_of_getElem? (i := 717) (by decide +kernel))) (hts (.initialized "java/util/ArrayList") (List.mem_of_getElem? (i := 71) (by decide +kernel))) eal hA
  have eL := va_eqR (nw_ok hgv (show nwL[317]? = some (Cond.eq (.string "RentDivisionLaw$Desk" 98) (.string "RentDivisionLaw" 21)) by decide +kernel)) (hKV 20 (by omega)).2
  obtain ⟨ad, had⟩ : ∃ ad, ad = gad s.heap.size b sf d1 d2 al (fun i => (aKV i).1) (fun i => (aKV i).2) := ⟨_, rfl⟩
  obtain ⟨g, hg⟩ : ∃ g : jG, g = (l, (fun c => (z c).1, fun c => (z c).2), ad, jt, gEE s.heap.size ad b L xs) := ⟨_, rfl⟩
  have hjad : jad g = ad := by rw [hg]; rfl
  have hjE : ∀ U H, jE g U H → gEE s.heap.size ad b L xs U H := fun U H h => by rw [hg] at h; exact h
  have hB : kB g (s.heap.size + 1) := fun k hk => by
    rw [hjad, had]
    exact gad_c hk
  have hD0 : jad g 1000 = s.heap.size := by
    rw [hjad, had]
    rfl
  have h380 : jad g 380 = b := by
    rw [hjad, had]
    rfl
  have hAB : ∀ q, jA g q → Dge s.heap.size q := by
    rintro q ⟨k, hk, rfl⟩
    rw [hB k hk]
    unfold Dge
    omega
  have hEk : DEk g s.heap.size := by
    rw [hg]
    exact gEE_ek hbl
  have hEs : jEs g := by
    refine ⟨fun U H h => ?_, ?_⟩
    · rw [hjad]
      exact jEp_nar hAB (hjE U H h).1.1
    · rw [hg]
      show l.stackTraces = false
      unfold Launch.stackTraces
      rw [hflags]
      decide +kernel
  have hw : ∀ w ∈ gWl, ∀ U H, jE g U H → w.before #[] U = true := fun w hw U H h => (hjE U H h).2.2.2.1 w hw
  have hE : dEs g := ⟨hEs, fun U H h => (hjE U H h).2.2.2.2.1, fun U H h => (hjE U H h).2.2.2.2.2.1, hw _ (by decide +kernel), hw _ (by decide +kernel), fun U H h => (hjE U H h).2.2.2.2.2.2⟩
  have hT : dEt g s.heap.size := ⟨hE, fun U H h => by
    obtain ⟨⟨y1, y2⟩, -, y3, y4⟩ := hjE U H h
    rw [hjad]
    exact ⟨⟨y1, y2⟩, y3.1, y3.2.1, y3.2.2, hw _ (by decide +kernel) U H h, fun y hy => hw _ (by
      revert hy
      revert y
      decide +kernel) U H h⟩⟩
  have hC : dEc g s.heap.size L xs := ⟨by omega, fun U H h => by
    obtain ⟨-, ⟨y1, y2⟩, -⟩ := hjE U H h
    rw [h380]
    exact ⟨y1, y2, Nat.not_le.mpr hbl⟩⟩
  have hEE : jE g s s.heap := by
    have hgw : ∀ w ∈ gWl, w.before #[] s = true := by
      have q : ∀ w ∈ gWl, w.before #[Value.ref b] s = true := List.forall_mem_cons.mpr ⟨hts _ (List.mem_of_getElem? (i := 1334) (by decide +kernel)), List.forall_mem_cons.mpr ⟨hts _ (List.mem_of_getElem? (i := 1732) (by decide +kernel)), List.forall_mem_cons.mpr ⟨hts _ (List.mem_of_getElem? (i := 810) (by decide +kernel)), List.forall_mem_cons.mpr ⟨sel_priv (n := 4) ⟨by decide, by decide⟩ (hts _ (List.mem_of_getElem? (i := 742) (by decide +kernel))) (hts _ (List.mem_of_getElem? (i := 784) (by decide +kernel))) (hts _ (List.mem_of_getElem? (i := 785) (by decide +kernel))) (y0 := ⟨"java/lang/AbstractStringBuilder", "isLatin1", "()Z"⟩) (hts _ (List.mem_of_getElem? (i := 817) (by decide +kernel))) rfl, List.forall_mem_cons.mpr ⟨sel_priv (n := 4) ⟨by decide, by decide⟩ (hts _ (List.mem_of_getElem? (i := 742) (by decide +kernel))) (hts _ (List.mem_of_getElem? (i := 788) (by decide +kernel))) (hts _ (List.mem_of_getElem? (i := 789) (by decide +kernel))) (y0 := ⟨"java/lang/AbstractStringBuilder", "isLatin1", "()Z"⟩) (hts _ (List.mem_of_getElem? (i := 817) (by decide +kernel))) rfl, List.forall_mem_cons.mpr ⟨sel_priv (n := 4) ⟨by decide, by decide⟩ (hts _ (List.mem_of_getElem? (i := 742) (by decide +kernel))) (hts _ (List.mem_of_getElem? (i := 855) (by decide +kernel))) (hts _ (List.mem_of_getElem? (i := 856) (by decide +kernel))) (y0 := ⟨"java/lang/AbstractStringBuilder", "isLatin1", "()Z"⟩) (hts _ (List.mem_of_getElem? (i := 817) (by decide +kernel))) rfl, List.forall_mem_cons.mpr ⟨sel_priv (n := 4) ⟨by decide, by decide⟩ (hts _ (List.mem_of_getElem? (i := 742) (by decide +kernel))) (hts _ (List.mem_of_getElem? (i := 859) (by decide +kernel))) (hts _ (List.mem_of_getElem? (i := 860) (by decide +kernel))) (y0 := ⟨"java/lang/AbstractStringBuilder", "isLatin1", "()Z"⟩) (hts _ (List.mem_of_getElem? (i := 817) (by decide +kernel))) rfl, fun _ h => absurd h List.not_mem_nil⟩⟩⟩⟩⟩⟩⟩
      exact fun w hw => va_tabs (gWl_t w hw) rfl (q w hw)
    have hga : gWa s := ⟨hts (.arrayOver (.array .int)) (List.mem_of_getElem? (i := 352) (by decide +kernel)), hts (.arrayOver (.array .boolean)) (List.mem_of_getElem? (i := 739) (by decide +kernel)), va_AO.of (hts (.arrayOver (.object "java/lang/Object")) (List.mem_of_getElem? (i := 1047) (by decide +kernel)))⟩
    rw [hg]
    refine ⟨⟨⟨fun i hi => ?_, fun i hi => ?_, hcs, ?_, hu, hs⟩, ?_⟩, ⟨hX, hbl⟩, ?_, hgw, hga⟩
    · refine vk_S_cg (hKV i hi).1 (fun j _ => ?_) (fun j _ => ?_)
      · rw [had, gad_K hi]
      · rw [had, gad_V hi]
    · rw [had, gad_K hi]
      exact vk_R.of (hts _ (List.mem_of_getElem? (nw_sr i hi))) (hKV i hi).2
    · rw [had, gad_S]
      exact hsf
    · have e9 : ad 374 = (aKV 20).1 := by
        rw [had]
        exact gad_K (i := 20) (by omega)
      rw [e9]
      exact vk_R.of (hts (.stringRef "RentDivisionLaw" 21 " ") (List.mem_of_getElem? (i := 1059) (by decide +kernel))) eL
    · have y1 : ad 502 = d1 := by rw [had]; rfl
      have y2 : ad 503 = d2 := by rw [had]; rfl
      have y3 : ad 504 = al := by rw [had]; rfl
      rw [y1, y2, y3]
      exact ⟨⟨zd1, hd1⟩, ⟨zd2, hd2⟩, zal, hal⟩
  have hKD : va_K g.2.1 vwCl (Dtys g) s := by
    refine ⟨fun c q hq => by rw [hg]; exact hz c q hq, fun k q hk => ?_⟩
    have hk8 : k < 10 := by
      have := (List.getElem?_eq_some_iff.mp hk).1
      simpa [Dtys] using this
    rw [Dtys_get g hk8] at hk
    cases hk
    rw [hg]
    exact hjt k hk8
  have hNw0 : ∀ w ∈ jNw, va_Nw w s := fun w hw => va_Nw.of (by
    have h1 := (List.mem_filter.mp hw).2
    cases w <;> first | rfl | (exfalso; simp at h1)) (hts w (List.mem_filter.mp hw).1)
  have hNw : kNw s := ⟨hNw0, hts (.arrayOver (.array .int)) (List.mem_of_getElem? (i := 352) (by decide +kernel)), va_AO.of (hts (.arrayOver (.object "RentDivision$Flat")) (List.mem_of_getElem? (i := 515) (by decide +kernel)))⟩
  have hDC : DC g s.heap.size s := ⟨hKD, hNw0, hEk, hEE⟩
  have hN1 : 1 ≤ 1 + md (scX L xs 0 >>> 3) 5 ∧ 1 + md (scX L xs 0 >>> 3) 5 ≤ 5 := by
    have := md_lt (scX L xs 0 >>> 3) (k := 5) (by omega)
    omega
  have hM1 : 1 ≤ 1 + md (scX L xs 0) 4 ∧ 1 + md (scX L xs 0) 4 ≤ 4 := by
    have := md_lt (scX L xs 0) (k := 4) (by omega)
    omega
  have hK1 : md (scX L xs 6) 3 ≤ 2 := by
    have := md_lt (scX L xs 6) (k := 3) (by omega)
    omega
  have hi := EX12_init (k := 0) hT hEs hC hB hD0 rfl rfl rfl rfl rfl (rd_law hM1 hN1 (md_lt _ (by omega)) (md_lt _ (by omega)) hK1)
  have K := lw_all (b := b) (nm := meth.name) hE hC hD0 (by omega) (fun _ _ h => h) hi
  have hl := lv_entry ([Value.ref 380].map (jrl g)) (n := 3) (by simp [lg_sl, Value.category, jrl])
  have e9 : [Value.ref 380].map (jrl g) = [Value.ref b] := by
    show [Value.ref (jad g 380)] = _
    rw [h380]
  rw [jL_args, e9] at hl
  rw [lg_entry_eq]
  have hl1 : g.1 = l := by rw [hg]
  have k := K p e s m #[Value.ref b] below meth c s.heap [] _ ⟨hx, hb, hml, hret, hlocks, hown, jwX_ok (fun w hw => hts w (jG_tbl hw)), Dtys_sub hKD, hNw, rfl⟩ ⟨rfl, Nat.le_refl _⟩ (fun i q h => (by simp at h)) va_S.rf hl
  rw [hl1] at k
  intro T0 hT0 X0
  obtain ⟨t, a1, b1⟩ := k T0 hT0 X0
  exact ⟨t, a1, b1 ⟨hDC, hNw, rfl⟩ ⟨rfl, rfl⟩⟩
