/-! the law's entry: what the Statement gives of the start -/
def nwL : List Cond := flatC (Jvm.Cond.and given_1 narrow_1)
def stm (i : Nat) : Term := .string (stT.getD i ("", 0, "")).1 (stT.getD i ("", 0, "")).2.1
def nwB : List Nat := [24, 32, 43, 51, 63, 78, 91, 104, 121, 138, 155, 172, 191, 213, 244, 274, 305]
def stP : List Nat := [571, 649, 672, 673, 682, 687, 696, 705, 706, 707, 712, 713, 714, 1259, 1303, 1319, 1469]
theorem nw_ex : ∀ i, i < 17 → nwL[nwB.getD i 0]? = some (Cond.exactly (stm i) "java/lang/String") := by decide +kernel
theorem nw_co : ∀ i, i < 17 → nwL[nwB.getD i 0 + 1]? = some (Cond.eq (.field (stm i) "java/lang/String" "coder" "B") (.int 0)) := by decide +kernel
theorem nw_ar : ∀ i, i < 17 → nwL[nwB.getD i 0 + 2]? = some (Cond.arrayOf (.field (stm i) "java/lang/String" "value" "[B") .byte) := by decide +kernel
theorem nw_le : ∀ i, i < 17 → nwL[nwB.getD i 0 + 3]? = some (Cond.eq (.length (.field (stm i) "java/lang/String" "value" "[B")) (.int (Int32.ofNat (stL.getD i 0)))) := by decide +kernel
theorem nw_el : ∀ i, i < 17 → ∀ j, j < stL.getD i 0 → nwL[nwB.getD i 0 + 4 + j]? = some (Cond.eq (.elem (.field (stm i) "java/lang/String" "value" "[B") (.int (Int32.ofNat j))) (.int ((stY.getD i []).getD j 0))) := by decide +kernel
theorem nw_ne : ∀ j, j < 17 → ∀ i, i < j → nwL[nwB.getD j 0 + 4 + stL.getD j 0 + i]? = some (Cond.not (.eq (stm i) (stm j))) := by decide +kernel
theorem nw_sr : ∀ i, i < 17 → lw_tbl[stP.getD i 0]? = some (Cond.stringRef (stT.getD i ("", 0, "")).1 (stT.getD i ("", 0, "")).2.1 (stT.getD i ("", 0, "")).2.2) := by decide +kernel
theorem nw_L : ∀ i, i < 17 → stL.getD i 0 < 2 ^ 31 := by decide
theorem nw_ok {b : Nat} {s : State} (h : (Jvm.Cond.and given_1 narrow_1).before #[Value.ref b] s = true) {i : Nat} {w : Cond} (e : nwL[i]? = some w) : w.before #[Value.ref b] s = true := flat_of_before _ h w (List.mem_of_getElem? e)
theorem jG_tbl {w : Cond} (h : w ∈ jGw) : w ∈ lw_tbl := (List.mem_filter.mp h).1
theorem xD_tbl : ∀ w ∈ xDl, w ∈ lw_tbl := by decide +kernel
theorem xD_mv {s U : State} (hW : s.WarmedH U.vm) (h : ∀ w ∈ xDl, w.before #[] s = true) : ∀ w ∈ xDl, w.before #[] U = true := by
  intro w hw
  have h1 := h w hw
  simp only [xDl, List.mem_cons, List.not_mem_nil, or_false] at hw
  rcases hw with rfl | rfl | rfl | rfl
  · exact va_Nw.warmD hW h1
  · exact va_Nw.warmD hW h1
  · exact va_Nw.warmD hW h1
  · exact va_Nw.warmC hW h1
theorem xD_same {u U : State} (hv : u.vm = U.vm) (h : ∀ w ∈ xDl, w.before #[] u = true) : ∀ w ∈ xDl, w.before #[] U = true := fun w hw => va_tabs (xDt w hw) hv (h w hw)
def gA (ad : Nat → Nat) : Nat → Prop := fun q => ∃ k, k < jN ∧ q = ad k
def gEE (ad : Nat → Nat) (b N : Nat) (xs : Nat → Int32) : State → Heap → Prop := fun U H => jEp ad (gA ad) U H ∧ va_X b N xs U H ∧ ∀ w ∈ xDl, w.before #[] U = true
theorem gEE_ek {l : Launch} {D : va_G} {ad : Nat → Nat} {jt : Nat → ClassId} {b N : Nat} {xs : Nat → Int32} (hb : ¬ gA ad b) : jEk ((l, D, ad, jt, gEE ad b N xs) : jG) := by
  refine ⟨fun s U H hW h => ?_, fun u U H hv h => ?_, fun U H H1 h hq => ?_⟩
  · have hA := hW.alike
    obtain ⟨⟨h1, h2, h3, h4, h5, h6⟩, h7, h8⟩ := h
    exact ⟨⟨vk_S.moved hA h1, fun i hi => vk_R.warm hW (h2 i hi), va_Z.moved hA h3, va_Z.moved hA h4, vx_Zq.moved hA h5, vx_Zq.moved hA h6⟩, va_X.moved hA h7, xD_mv hW h8⟩
  · have hA : u.vm.Alike U.vm := by rw [hv]; exact Vm.Alike.refl _
    obtain ⟨⟨h1, h2, h3, h4, h5, h6⟩, h7, h8⟩ := h
    exact ⟨⟨vk_S.moved hA h1, fun i hi => vk_R.same hv (h2 i hi), va_Z.moved hA h3, va_Z.moved hA h4, vx_Zq.moved hA h5, vx_Zq.moved hA h6⟩, va_X.moved hA h7, xD_same hv.symm h8⟩
  · obtain ⟨⟨h1, h2, h3, h4, h5, h6⟩, h7, h8⟩ := h
    have h9 : ∀ a : Nat, a < H.size → ¬ gA ad a → H1[a]? = H[a]? := hq
    have hlt : b < H.size := by
      obtain ⟨scr, q1, -⟩ := h7
      exact (Array.getElem?_eq_some_iff.mp q1).1
    exact ⟨⟨vk_S.kept h1 h9, h2, va_Z.kept h3 h9, va_Z.kept h4 h9, vx_Zq.kept h5 h9, vx_Zq.kept h6 h9⟩, va_X.kept h7 (h9 b hlt hb), h8⟩
theorem jt_prim {s : State} {args : Array Value} {ty : FieldType} (h : (Cond.arrayClass ty).before args s = true) : ∃ cA : ClassId, ArrOfT s cA ty ∧ s.vm.findClass ("[" ++ ty.toString) = some cA := by
  obtain ⟨c, k, comp, h1, h2, h3⟩ := Cond.arrayClass_spec h
  exact ⟨c, fun n z => ⟨fun k h => (by cases h), k, h2, comp, h3⟩, h1⟩
theorem jt_ex {s : State} {args : Array Value} (hts : ∀ w ∈ lw_tbl, w.before args s = true) : ∀ t : Nat, ∃ cA : ClassId, t < 8 → ArrOfT s cA (jtyL.getD t .int) ∧ va_RA s cA (jtyL.getD t .int)
  | 0 => by
    obtain ⟨c, h1, h2⟩ := jt_prim (hts (.arrayClass .int) (List.mem_of_getElem? (i := 258) (by decide +kernel)))
    exact ⟨c, fun _ => ⟨h1, h2⟩⟩
  | 1 => by
    obtain ⟨c, h1, h2⟩ := jt_prim (hts (.arrayClass .byte) (List.mem_of_getElem? (i := 161) (by decide +kernel)))
    exact ⟨c, fun _ => ⟨h1, h2⟩⟩
  | 2 => by
    obtain ⟨c, h1, h2⟩ := jt_prim (hts (.arrayClass .char) (List.mem_of_getElem? (i := 503) (by decide +kernel)))
    exact ⟨c, fun _ => ⟨h1, h2⟩⟩
  | 3 => by
    obtain ⟨c, h1, h2⟩ := jt_prim (hts (.arrayClass .boolean) (List.mem_of_getElem? (i := 324) (by decide +kernel)))
    exact ⟨c, fun _ => ⟨h1, h2⟩⟩
  | 4 => by
    obtain ⟨c, h1, h2⟩ := jt_prim (hts (.arrayClass .long) (List.mem_of_getElem? (i := 403) (by decide +kernel)))
    exact ⟨c, fun _ => ⟨h1, h2⟩⟩
  | 5 => by
    obtain ⟨c, h1, h2⟩ := jt_prim (hts (.arrayClass .double) (List.mem_of_getElem? (i := 2153) (by decide +kernel)))
    exact ⟨c, fun _ => ⟨h1, h2⟩⟩
  | 6 => by
    obtain ⟨comp, c, k, h1, h2, h3, h4, h5⟩ := arrayOver_specB (hts (.arrayOver (.array .int)) (List.mem_of_getElem? (i := 169) (by decide +kernel)))
    exact ⟨c, fun _ => ⟨fun n z => ⟨fun k h => (by cases h), k, h3, comp, h4⟩, h5⟩⟩
  | 7 => by
    obtain ⟨comp, c, k, h1, h2, h3, h4, h5⟩ := Cond.arrayOver_spec (hts (.arrayOver (.object "RentDivision$Flat")) (List.mem_of_getElem? (i := 336) (by decide +kernel)))
    exact ⟨c, fun _ => ⟨fun n z => ⟨fun k h => (by cases h), k, h3, comp, h4⟩, k, comp, h3, h4, h1, h5⟩⟩
  | t + 8 => ⟨0, fun h => absurd h (by omega)⟩
theorem vcl_ok : ∀ q ∈ vwCl, (∀ w ∈ u_ws q.1 q.2.1 q.2.2, w ∈ jGw) ∧ Cond.instantiable q.1 q.2.2 ∈ jGw := (List.forall_mem_cons.mpr ⟨⟨jcls_X0.2.1, jGw_of 388 (by decide +kernel) (by decide +kernel)⟩, (List.forall_mem_cons.mpr ⟨⟨jcls_X1.2.1, jGw_of 356 (by decide +kernel) (by decide +kernel)⟩, (List.forall_mem_cons.mpr ⟨⟨jcls_X2.2.1, jGw_of 163 (by decide +kernel) (by decide +kernel)⟩, (List.forall_mem_cons.mpr ⟨⟨jcls_X3.2.1, jGw_of 330 (by decide +kernel) (by decide +kernel)⟩, (List.forall_mem_cons.mpr ⟨⟨jcls_X4.2.1, jGw_of 128 (by decide +kernel) (by decide +kernel)⟩, (List.forall_mem_cons.mpr ⟨⟨jcls_X5.2.1, jGw_of 490 (by decide +kernel) (by decide +kernel)⟩, (List.forall_mem_cons.mpr ⟨⟨jcls_X6.2.1, jGw_of 350 (by decide +kernel) (by decide +kernel)⟩, (List.forall_mem_cons.mpr ⟨⟨jcls_X7.2.1, jGw_of 260 (by decide +kernel) (by decide +kernel)⟩, (List.forall_mem_cons.mpr ⟨⟨jcls_X8.2.1, jGw_of 454 (by decide +kernel) (by decide +kernel)⟩, (List.forall_mem_cons.mpr ⟨⟨jcls_X9.2.1, jGw_of 394 (by decide +kernel) (by decide +kernel)⟩, (List.forall_mem_cons.mpr ⟨⟨jcls_X10.2.1, jGw_of 134 (by decide +kernel) (by decide +kernel)⟩, (List.forall_mem_cons.mpr ⟨⟨jcls_X11.2.1, jGw_of 120 (by decide +kernel) (by decide +kernel)⟩, (List.forall_mem_cons.mpr ⟨⟨jcls_X12.2.1, jGw_of 1475 (by decide +kernel) (by decide +kernel)⟩, (fun _ h => absurd h List.not_mem_nil)⟩)⟩)⟩)⟩)⟩)⟩)⟩)⟩)⟩)⟩)⟩)⟩)⟩)
theorem vcl_ex {s : State} {args : Array Value} (hts : ∀ w ∈ lw_tbl, w.before args s = true) : ∀ c : Nat, ∃ z : ClassId × (Nat → Nat), ∀ q, vwCl[c]? = some q → u_Kn s q.1 q.2.1 q.2.2 z.1 z.2 := by
  intro c
  cases h : vwCl[c]? with
  | none => exact ⟨(0, fun _ => 0), fun q e => (by cases e)⟩
  | some q =>
    obtain ⟨a1, a2⟩ := vcl_ok q (List.mem_of_getElem? h)
    obtain ⟨cC, iS, hk⟩ := u_known hts (fun w hw => jG_tbl (a1 w hw)) (hts _ (jG_tbl a2))
    exact ⟨(cC, iS), fun q' e => by cases e; exact hk⟩
theorem vk_S_cg {N : Nat} {len : List Nat} {byt : List (List Int32)} {aK aV aK' aV' : Nat → Nat} {A : Nat → Prop} {U : State} {H : Heap} (h : vk_S N len byt aK aV A U H) (e1 : ∀ i, i < N → aK' i = aK i) (e2 : ∀ i, i < N → aV' i = aV i) : vk_S N len byt aK' aV' A U H := by
  refine ⟨fun i hi => ?_, fun i j hi hj e => ?_⟩
  · have := h.1 i hi
    rw [← e1 i hi, ← e2 i hi] at this
    exact this
  · rw [e1 i hi, e1 j hj] at e
    exact h.2 i j hi hj e
/-- where all lies: the cells, the script, SIOOBE_FORMATTER, the constant texts -/
def gad (h0 b : Nat) (sf : Option Nat) (aK aV : Nat → Nat) (k : Nat) : Nat :=
  if k < 354 then h0 + k else if k = 380 then b else if k = 500 then sf.getD 0 else if k = 501 then (if sf = none then 0 else 1) else if k < 400 then aK (k - 354) else aV (k - 400)
def gsv (sf : Option Nat) : Value := match sf with
  | none => .null
  | some t => .ref t
theorem gad_c {h0 b : Nat} {sf : Option Nat} {aK aV : Nat → Nat} {k : Nat} (h : k < 354) : gad h0 b sf aK aV k = h0 + k := if_pos h
theorem gad_b {h0 b : Nat} {sf : Option Nat} {aK aV : Nat → Nat} : gad h0 b sf aK aV 380 = b := rfl
theorem gad_K {h0 b : Nat} {sf : Option Nat} {aK aV : Nat → Nat} {i : Nat} (h : i < 17) : gad h0 b sf aK aV (354 + i) = aK i := by
  unfold gad
  rw [if_neg (by omega), if_neg (by omega), if_neg (by omega), if_neg (by omega), if_pos (by omega)]
  exact congrArg aK (by omega)
theorem gad_V {h0 b : Nat} {sf : Option Nat} {aK aV : Nat → Nat} {i : Nat} (h : i < 17) : gad h0 b sf aK aV (400 + i) = aV i := by
  unfold gad
  rw [if_neg (by omega), if_neg (by omega), if_neg (by omega), if_neg (by omega), if_neg (by omega)]
  exact congrArg aV (by omega)
theorem gad_S {h0 b : Nat} {sf : Option Nat} {aK aV : Nat → Nat} : (if gad h0 b sf aK aV 501 = 0 then Value.null else .ref (gad h0 b sf aK aV 500)) = gsv sf := by
  cases sf <;> rfl
theorem sf_ex {s : State} {A : Nat → Prop} {C n d : String} (h : va_Zq C n d A s s.heap) : ∃ sf : Option Nat, va_Z C n d (gsv sf) A s s.heap := by
  rcases h with h | ⟨t, h⟩
  · exact ⟨none, h⟩
  · exact ⟨some t, h⟩
set_option maxHeartbeats 4000000 in
/-- from the entry, for every script of at most 3072 ints, the law comes to its end with true -/
theorem whole_start {p : Program} {e : Env} {s : State} {m : MethodId} {below : List Frame} {meth : Method} {c : Code} (l : Launch) (hflags : l.flags = flags0) {b L : Nat} {xs : Nat → Int32} (hL : L ≤ 3072) (C0 : lw_At p s m meth c b L xs) : W p l e room_1 s m #[Value.ref b] below meth c s.heap [] 0 0 (lw_Z below #[Value.ref b] s) (entryFrame m ([Value.ref b] : List Value).toArray 9) := by
  obtain ⟨hx, hb, hret, hml, hown, hts, hX, hbl, hlocks, hgv⟩ := C0
  obtain ⟨z, hz⟩ := Classical.axiomOfChoice (vcl_ex hts)
  obtain ⟨jt, hjt⟩ := Classical.axiomOfChoice (jt_ex hts)
  have hA : ∀ a : Nat, a < s.heap.size → ¬ (fun q : Nat => s.heap.size ≤ q) a := fun a h => Nat.not_le.mpr h
  obtain ⟨aK, aV, hS, hT⟩ := vk_Sof (args := #[Value.ref b]) (s := s) (N := 17) (tm := stm) (len := stL) (byt := stY) (A := fun q => s.heap.size ≤ q) nw_L (fun i hi => nw_ok hgv (nw_ex i hi)) (fun i hi => nw_ok hgv (nw_co i hi)) (fun i hi => nw_ok hgv (nw_ar i hi)) (fun i hi => nw_ok hgv (nw_le i hi)) (fun i hi j hj => nw_ok hgv (nw_el i hi j hj)) (fun i j hi hj hij => by
    rcases Nat.lt_or_ge i j with q | q
    · exact Or.inl (nw_ok hgv (nw_ne j hj i q))
    · exact Or.inr (nw_ok hgv (nw_ne i hi j (by omega)))) hA
  obtain ⟨sf, hsf⟩ := sf_ex (va_Zqof (A := fun q => s.heap.size ≤ q) (hts (.laysStatic "jdk/internal/util/Preconditions" "SIOOBE_FORMATTER" "Ljava/util/function/BiFunction;") (List.mem_of_getElem? (i := 601) (by decide +kernel))) (hts (.initialized "jdk/internal/util/Preconditions") (List.mem_of_getElem? (i := 111) (by decide +kernel))) (nw_ok hgv (show nwL[5]? = some (Cond.isRef (.static "jdk/internal/util/Preconditions" "SIOOBE_FORMATTER" "Ljava/util/function/BiFunction;")) by decide +kernel)) hA)
  have hcs : va_Z "java/lang/String" "COMPACT_STRINGS" "Z" (.int 1) (fun q => s.heap.size ≤ q) s s.heap := va_Zof (hts (.laysStatic "java/lang/String" "COMPACT_STRINGS" "Z") (List.mem_of_getElem? (i := 585) (by decide +kernel))) (hts (.initialized "java/lang/String") (List.mem_of_getElem? (i := 109) (by decide +kernel))) (va_eqt (nw_ok hgv (show nwL[4]? = some (Cond.eq (.static "java/lang/String" "COMPACT_STRINGS" "Z") (.int 1)) by decide +kernel))) hA
  have hu := vx_Zqof (A := fun q => s.heap.size ≤ q) (hts (.laysStatic Bundle.tN "UNASSIGNED_STACK" Bundle.steD) (List.mem_of_getElem? (i := 1247) (by decide +kernel))) (hts (.initialized Bundle.tN) (List.mem_of_getElem? (i := 114) (by decide +kernel))) (nw_ok hgv (show nwL[9]? = some (Cond.isRef (.static Bundle.tN "UNASSIGNED_STACK" Bundle.steD)) by decide +kernel)) hA
  have hs := vx_Zqof (A := fun q => s.heap.size ≤ q) (hts (.laysStatic Bundle.tN "SUPPRESSED_SENTINEL" Bundle.listD) (List.mem_of_getElem? (i := 1249) (by decide +kernel))) (hts (.initialized Bundle.tN) (List.mem_of_getElem? (i := 114) (by decide +kernel))) (nw_ok hgv (show nwL[10]? = some (Cond.isRef (.static Bundle.tN "SUPPRESSED_SENTINEL" Bundle.listD)) by decide +kernel)) hA
  obtain ⟨ad, had⟩ : ∃ ad, ad = gad s.heap.size b sf aK aV := ⟨_, rfl⟩
  have hAB : ∀ q, gA ad q → s.heap.size ≤ q := by
    rintro q ⟨k, hk, rfl⟩
    rw [had, gad_c hk]
    omega
  have hnb : ¬ gA ad b := fun q => absurd (hAB b q) (by omega)
  obtain ⟨g, hg⟩ : ∃ g : jG, g = (l, (fun c => (z c).1, fun c => (z c).2), ad, jt, gEE ad b L xs) := ⟨_, rfl⟩
  have hB : kB g s.heap.size := fun k hk => by
    rw [hg]
    show ad k = _
    rw [had, gad_c hk]
  have hI : jInj g := fun i j hi hj e9 => by
    rw [hB i hi, hB j hj] at e9
    omega
  have hEk : jEk g := by
    rw [hg]
    exact gEE_ek hnb
  have hEx : jEx g := by
    rw [hg]
    refine ⟨⟨fun U H h => h.1, ?_⟩, fun U H h => h.2.2⟩
    show l.stackTraces = false
    unfold Launch.stackTraces
    rw [hflags]
    decide +kernel
  have h380 : jad g 380 = b := by
    rw [hg]
    show ad 380 = b
    rw [had]
    exact gad_b
  have hScr : jScr g L xs := ⟨hL, fun U H h => by
    rw [h380]
    rw [hg] at h
    exact h.2.1, by
    rw [h380, hg]
    exact hnb⟩
  have hE : jE g s s.heap := by
    rw [hg]
    refine ⟨⟨vk_S_cg (vk_S.narrow hS hAB) (fun i hi => by rw [had, gad_K hi]) (fun i hi => by rw [had, gad_V hi]), fun i hi => ?_, va_Z.narrow hcs hAB, ?_, vx_Zq.narrow hu hAB, vx_Zq.narrow hs hAB⟩, hX, fun w hw => va_tabs (xDt w hw) rfl (hts w (xD_tbl w hw))⟩
    · rw [had, gad_K hi]
      exact vk_R.of (hts _ (List.mem_of_getElem? (nw_sr i hi))) (hT i hi)
    · rw [had, gad_S]
      exact va_Z.narrow hsf (fun q h => hAB q (by rw [had]; exact h))
  have hK : va_K g.2.1 vwCl (jtys g) s := by
    refine ⟨fun c q hq => by rw [hg]; exact hz c q hq, fun k q hk => ?_⟩
    have hk8 : k < 8 := by
      have := (List.getElem?_eq_some_iff.mp hk).1
      simpa [jtys] using this
    rw [jtys_get g hk8] at hk
    cases hk
    rw [hg]
    exact hjt k hk8
  have hNw : kNw s := ⟨fun w hw => va_Nw.of (by
    have h1 := (List.mem_filter.mp hw).2
    cases w <;> first | rfl | (exfalso; simp at h1)) (hts w (List.mem_filter.mp hw).1), (hts (.arrayOver (.array .int)) (List.mem_of_getElem? (i := 169) (by decide +kernel))), va_AO.of (hts (.arrayOver (.object "RentDivision$Flat")) (List.mem_of_getElem? (i := 336) (by decide +kernel)))⟩
  have K := law_start (b := b) (nm := meth.name) hB hI hEk hEx hScr
  have hl := lv_entry ([Value.ref 380].map (jrl g)) (n := 9) (by simp [lg_sl, Value.category, jrl])
  have e9 : [Value.ref 380].map (jrl g) = [Value.ref b] := by
    show [Value.ref (jad g 380)] = _
    rw [h380]
  rw [jL_args, e9] at hl
  rw [lg_entry_eq]
  have hl1 : g.1 = l := by rw [hg]
  have k := K p e s m #[Value.ref b] below meth c s.heap [] _ ⟨hx, hb, hml, hret, hlocks, hown, jwX_ok (fun w hw => hts w (jG_tbl hw)), hK, hNw, rfl⟩ ⟨rfl, Nat.le_refl _⟩ (fun i q h => (by simp at h)) va_S.rf hl
  rw [hl1] at k
  intro T0 hT0 X0
  obtain ⟨t, a1, b1⟩ := k T0 hT0 X0
  exact ⟨t, a1, b1 hE ⟨rfl, fun q hq => hAB q (by rw [hg] at hq; exact hq)⟩⟩
