/-! constant texts and statics: what is known of the heap outside the cells; String's own methods on constant texts -/
def stT : List (String × Nat × String) := [("RentDivision$Loader", 79, "room"), ("RentDivision$Loader", 88, "person"), ("RentDivision$Loader", 156, "no"), ("RentDivision$Loader", 93, "lease"), ("RentDivision$Loader", 98, "deposit"), ("RentDivision$Loader", 103, "plan"), ("RentDivision$Loader", 108, "set"), ("RentDivision$Loader", 187, "method"), ("RentDivision$Loader", 189, "share"), ("RentDivision$Loader", 191, "auto"), ("RentDivision$Loader", 193, "low"), ("RentDivision$Loader", 195, "high"), ("RentDivision$Loader", 197, "middle"), ("RentDivision", 375, "no such person"), ("RentDivision", 377, "no such room"), ("RentDivision", 299, "no such transfer"), ("RentDivisionLaw$Desk", 76, ""), ("RentDivisionLaw$Desk", 85, "room "), ("RentDivisionLaw$Desk", 90, ";"), ("RentDivisionLaw$Desk", 96, "person "), ("RentDivisionLaw$Desk", 98, " "), ("RentDivisionLaw$Desk", 103, " no"), ("RentDivisionLaw$Desk", 111, "lease "), ("RentDivisionLaw$Desk", 113, ";deposit "), ("RentDivisionLaw$Desk", 119, "plan ")]
def stL : List Nat := [4, 6, 2, 5, 7, 4, 3, 6, 5, 4, 3, 4, 6, 14, 12, 16, 0, 5, 1, 7, 1, 3, 6, 9, 5]
def stY : List (List Int32) := [[114, 111, 111, 109], [112, 101, 114, 115, 111, 110], [110, 111], [108, 101, 97, 115, 101], [100, 101, 112, 111, 115, 105, 116], [112, 108, 97, 110], [115, 101, 116], [109, 101, 116, 104, 111, 100], [115, 104, 97, 114, 101], [97, 117, 116, 111], [108, 111, 119], [104, 105, 103, 104], [109, 105, 100, 100, 108, 101], [110, 111, 32, 115, 117, 99, 104, 32, 112, 101, 114, 115, 111, 110], [110, 111, 32, 115, 117, 99, 104, 32, 114, 111, 111, 109], [110, 111, 32, 115, 117, 99, 104, 32, 116, 114, 97, 110, 115, 102, 101, 114], [], [114, 111, 111, 109, 32], [59], [112, 101, 114, 115, 111, 110, 32], [32], [32, 110, 111], [108, 101, 97, 115, 101, 32], [59, 100, 101, 112, 111, 115, 105, 116, 32], [112, 108, 97, 110, 32]]
def jEp (ad : Nat → Nat) (A : Nat → Prop) (U : State) (H : Heap) : Prop :=
  (∀ i, i < 25 → vk_S 1 [stL.getD i 0] [stY.getD i []] (fun _ => ad (354 + i)) (fun _ => ad (400 + i)) A U H) ∧ (∀ i, i < 25 → vk_R (stT.getD i ("", 0, "")).1 (stT.getD i ("", 0, "")).2.1 (stT.getD i ("", 0, "")).2.2 (ad (354 + i)) U) ∧ va_Z "java/lang/String" "COMPACT_STRINGS" "Z" (.int 1) A U H ∧ va_Z "jdk/internal/util/Preconditions" "SIOOBE_FORMATTER" "Ljava/util/function/BiFunction;" (if ad 501 = 0 then .null else .ref (ad 500)) A U H ∧ vx_Zq Bundle.tN "UNASSIGNED_STACK" Bundle.steD A U H ∧ vx_Zq Bundle.tN "SUPPRESSED_SENTINEL" Bundle.listD A U H
def jEs (g : jG) : Prop := (∀ (U : State) (H : Heap), jE g U H → jEp (jad g) (jA g) U H) ∧ g.1.stackTraces = false
/-- how long a constant text is -/
def sLn (i : Nat) : Nat := stL.getD i 0
/-- the sign at a place of a constant text -/
def stC (i k : Nat) : Int32 := (stY.getD i []).getD k 0
theorem stC_ok : ∀ i, i < 25 → sLn i < 40 ∧ ∀ k, k < sLn i → ((((stC i k).toUInt32 &&& Int32.toUInt32 255) % 65536).toInt32 = stC i k ∧ narrow .char (.int (stC i k)) = .int (stC i k)) := by decide +kernel
section JR_B1
variable {g : jG} {mt mt' : jMt} {n n' : Nat} {post post' : Option Value → jM → Prop} {pc : Nat} {L : List (Nat × Value)} {st r : List Value} {σ : jM} {idx na a : Nat} {as : List Value}
theorem jr_gets {C nm d : String} {v : Value} (hZ : ∀ (U : State) (H : Heap), jE g U H → va_Z C nm d (jrl g v) (jA g) U H) (hlk : Cond.fieldLink mt.1.cls idx C nm d ∈ jGw) (d0 : decode mt.2.1 pc = .ok (.getstatic idx, 3)) (k : jW g mt n post (pc + 3) L (v :: r) σ) : jW g mt n post pc L r σ := by
  intro p e s m as0 below meth c H locs ls X hP hS hl
  exact va_gets X.1 X.2.1 (hZ s s.heap X.2.2.2.2.2.2.2.2.2.2.2) hS X.2.2.2.2.2.1 (X.2.2.2.2.2.2.1 _ (List.mem_cons_of_mem _ hlk)) (fun _ h => h) d0 (k p e s m as0 below meth c H locs ls X hP hS hl)
theorem jr_sgf {q : Nat} {v : Value} {nm d : String} (hO : ∀ (U : State) (H : Heap), jE g U H → va_OF "java/lang/String" nm d (jrl g v) (jad g q) (jA g) U H) (hlk : Cond.fieldLink mt.1.cls idx "java/lang/String" nm d ∈ jGw) (d0 : decode mt.2.1 pc = .ok (.getfield idx, 3)) (k : jW g mt n post (pc + 3) L (v :: r) σ) : jW g mt n post pc L (.ref q :: r) σ := by
  intro p e s m as0 below meth c H locs ls X hP hS hl
  exact vk_getf X.1 X.2.1 (hO s s.heap X.2.2.2.2.2.2.2.2.2.2.2) hS X.2.2.2.2.2.1 (X.2.2.2.2.2.2.1 _ (List.mem_cons_of_mem _ hlk)) (fun _ h => h) d0 (k p e s m as0 below meth c H locs ls X hP hS hl)
theorem jr_sal {q N : Nat} {f : Nat → Value} (hT : ∀ (U : State) (H : Heap), jE g U H → va_T .byte (jad g q) N f (jA g) U H) (d0 : decode mt.2.1 pc = .ok (.arraylength, 1)) (k : jW g mt n post (pc + 1) L (.int (nI N) :: r) σ) : jW g mt n post pc L (.ref q :: r) σ := by
  intro p e s m as0 below meth c H locs ls X hP hS hl
  exact va_tlen X.1 X.2.1 (hT s s.heap X.2.2.2.2.2.2.2.2.2.2.2) hS rfl d0 (k p e s m as0 below meth c H locs ls X hP hS hl)
theorem jr_sba {q N : Nat} {f : Nat → Int32} {j : Int32} (hT : ∀ (U : State) (H : Heap), jE g U H → va_T .byte (jad g q) N (fun z => .int (f z)) (jA g) U H) (hj : jin j N) (d0 : decode mt.2.1 pc = .ok (.baload, 1)) (k : jW g mt n post (pc + 1) L (.int (f j.toNatClampNeg) :: r) σ) : jW g mt n post pc L (.int j :: .ref q :: r) σ := by
  intro p e s m as0 below meth c H locs ls X hP hS hl
  exact va_tb X.1 X.2.1 (hT s s.heap X.2.2.2.2.2.2.2.2.2.2.2) hS (jin_vp hj) (v := .int (f j.toNatClampNeg)) rfl d0 (k p e s m as0 below meth c H locs ls X hP hS hl)
theorem jr_ldcS {i : Nat} (hE : jEs g) (hi : i < 25) (hc : (stT.getD i ("", 0, "")).1 = mt.1.cls) (hx : (stT.getD i ("", 0, "")).2.1 = idx) (d0 : decode mt.2.1 pc = .ok (.ldc idx, 2)) (k : jW g mt n post (pc + 2) L (.ref (354 + i) :: r) σ) : jW g mt n post pc L r σ := by
  intro p e s m as0 below meth c H locs ls X hP hS hl
  have hR := (hE.1 s s.heap X.2.2.2.2.2.2.2.2.2.2.2).2.1 i hi
  rw [hc, hx] at hR
  exact va_ldcS X.1 X.2.1 X.2.2.2.2.2.1 hR d0 (k p e s m as0 below meth c H locs ls X hP hS hl)
theorem jr_nret {x : Int32} {ty : FieldType} (hr : mt.2.2.2 = some ty) (hn : narrow ty (.int x) = .int x) (h : post (some (.int x)) σ) (d : decode mt.2.1 pc = .ok (.ireturn, 1)) : jW g mt n post pc L [.int x] σ := by
  intro p e s m as0 below meth c H locs ls X hP hS hl
  have hlocks := X.2.2.2.2.1
  exact W.zret X.1 X.2.1 (X.2.2.2.1.trans hr) hn (jr_end (v := some (.int x)) X.2.2.2.2.2.2.2.2 hP hS h) hS.2.2 d hlocks
/-- a method of a constant text is called -/
theorem jr_callStr {i : Nat} (hE : jEs g) (hi : i < 25) (hd : decode mt.2.1 pc = .ok (.invokevirtual idx, 3)) (hlk : Cond.methodLink mt.1.cls idx mt'.1 ∈ jGw) (hm : jMv mt' na) (hcl : mt'.1.cls = "java/lang/String") (hs : st = as.reverse ++ .ref (354 + i) :: r) (hn : n' < n) (hna : as.length = na) (hst : (r.map fun v => v.category).sum ≤ 8)
    (hc : jCon g n' mt' (.ref (354 + i) :: as) σ post') (k : ∀ v τ, post' v τ → jW g mt n post (pc + 3) L (v.toList ++ r) τ) : jW g mt n post pc L st σ := by
  obtain ⟨⟨hi0, hco, hmh, hml⟩, him, hse⟩ := hm
  intro p e s m as0 below meth c H locs ls X hP hS hl
  have hM := hc X.2.2.2.2.2.2.2.1
  have hrc := vk_recv ((hE.1 s s.heap X.2.2.2.2.2.2.2.2.2.2.2).1 i hi) (show 0 < 1 by decide) hS
  rw [← hcl] at hrc
  refine jr_back (a9 := (Value.ref (jad g (354 + i)) :: as.map (jrl g)).toArray) X hS hl ?_ k
  refine va_runV (As := as.map (jrl g)) (rest := r.map (jrl g)) (b := jad g (354 + i)) (C := mt'.1.cls) (n := na) (maxL := mt'.2.2.1) (ret := mt'.2.2.2) (bytes := mt'.2.1) ⟨X.1, X.2.1, X.2.2.1, X.2.2.2.2.2.1, X.2.2.2.2.2.2.1⟩ hM
    (cwV na X.2.2.2.2.2.2.1 (jGI (fun w hw => ?_)) rfl rfl rfl ⟨rfl, hmh⟩ ⟨?_, ?_⟩) ⟨jblind g _ σ, hrc, fun U hU hW => ⟨by simp [jrl], by rw [hU]; exact hP, X.2.2.2.2.2.2.2.2.moved hW (fun a h1 h2 => by rw [hU]; exact hS.2.1 a h1 h2)⟩⟩ rfl (by simp [hna]) hl.1 (by rw [hs]; simp [jrl]) (lv_room (by simpa [jrl_cat, Function.comp_def] using hst)) hd ⟨Nat.le_refl _, Nat.le_refl _⟩
  · unfold wsV at hw
    rcases List.mem_append.mp hw with hw | hw
    · simp only [List.mem_cons, List.not_mem_nil, or_false] at hw
      rcases hw with rfl | rfl | rfl | rfl
      · exact hlk
      · exact him
      · exact hse
      · exact hi0
    · exact jwd_in hco w hw
  · show n' + 1 ≤ n
    omega
  · show 8 + (mt'.2.2.1 + 11) + 64 * n' ≤ 64 * n
    omega
/-- a static method is called, its row given by hand -/
theorem jr_callSd (hd : decode mt.2.1 pc = .ok (.invokestatic idx, 3)) (hlk : Cond.methodLink mt.1.cls idx mt'.1 ∈ jGw) (hm : jMs mt' na) (hs : st = as.reverse ++ r) (hn : n' < n) (hna : as.length = na) (hst : (r.map fun v => v.category).sum ≤ 8)
    (hc : jCon g n' mt' as σ post') (k : ∀ v τ, post' v τ → jW g mt n post (pc + 3) L (v.toList ++ r) τ) : jW g mt n post pc L st σ := by
  obtain ⟨⟨hi, hco, hmh, hml⟩, hstat⟩ := hm
  intro p e s m as0 below meth c H locs ls X hP hS hl
  have hM := hc X.2.2.2.2.2.2.2.1
  have hts := X.2.2.2.2.2.2.1
  refine jr_back (a9 := (as.map (jrl g)).toArray) X hS hl ?_ k
  refine va_runS (As := as.map (jrl g)) (rest := r.map (jrl g)) (n := na) (maxL := mt'.2.2.1) (ret := mt'.2.2.2) (bytes := mt'.2.1) ⟨X.1, X.2.1, X.2.2.1, X.2.2.2.2.2.1, hts⟩ hM
    ⟨callB_of na hts (jGI (jwd_in hco)) rfl rfl rfl (hts _ (List.mem_cons_of_mem _ hi)) (hts _ (List.mem_cons_of_mem _ hlk)) hmh ⟨?_, ?_⟩, hts _ (List.mem_cons_of_mem _ hstat)⟩ ⟨jblind g _ σ, fun U hU hW => ⟨by simp, by rw [hU]; exact hP, X.2.2.2.2.2.2.2.2.moved hW (fun a h1 h2 => by rw [hU]; exact hS.2.1 a h1 h2)⟩⟩ rfl (by simp [hna]) hl.1 (by rw [hs]; simp) (lv_room (by simpa [jrl_cat, Function.comp_def] using hst)) hd ⟨Nat.le_refl _, Nat.le_refl _⟩
  · show n' + 1 ≤ n
    omega
  · show 8 + (mt'.2.2.1 + 11) + 64 * n' ≤ 64 * n
    omega
end JR_B1
def fJ0 : List (Nat × Nat × Nat × Nat) := []
def fJ1 : List (Nat × Nat × Nat × Nat) := []
def fJ3 : List (Nat × Nat × Nat × Nat) := []
def lJ0 : List (Nat × Int64) := []
def lJ1 : List (Nat × Int64) := []
def lJ3 : List (Nat × Int64) := []
abbrev mJ0_coder_7d493 : jMt := (yJ0_coder_7d493, cJ0_coder_7d493, 1, (some .byte))
def tJ0_coder_7d493 : jTb := [(3, .ifCond .eq 10, 6, 13, 0), (6, .aload_n 0, 7, 0, 0), (7, .getfield 15, 10, 0, 0), (10, .goto 4, 13, 14, 0), (13, .iconst 1, 14, 0, 1), (14, .ireturn, 15, 0, 0)]
theorem TJ0_coder_7d493 : jT mJ0_coder_7d493 fJ0 lJ0 tJ0_coder_7d493 := jT.of (cs := []) (fun _ h => absurd h List.not_mem_nil) (fun _ h => absurd h List.not_mem_nil) (fun _ h => absurd h List.not_mem_nil) (by decide +kernel) (by decide +kernel)
theorem WJ0_coder_7d493 : jMv mJ0_coder_7d493 0 := ⟨⟨jGw_of 74 (by decide +kernel) (by decide +kernel), jGw_of 852 (by decide +kernel) (by decide +kernel), ⟨by decide +kernel, by decide +kernel, by decide +kernel⟩, by decide⟩, jGw_of 850 (by decide +kernel) (by decide +kernel), jGw_of 851 (by decide +kernel) (by decide +kernel)⟩
abbrev mJ0_length_8abf5 : jMt := (yJ0_length_8abf5, cJ0_length_8abf5, 1, (some .int))
def tJ0_length_8abf5 : jTb := [(0, .aload_n 0, 1, 0, 0), (1, .getfield 9, 4, 0, 0), (4, .arraylength, 5, 0, 0), (5, .aload_n 0, 6, 0, 0), (6, .invokevirtual 335, 9, 0, 0), (9, .ishr, 10, 0, 0), (10, .ireturn, 11, 0, 0)]
theorem TJ0_length_8abf5 : jT mJ0_length_8abf5 fJ0 lJ0 tJ0_length_8abf5 := jT.of (cs := []) (fun _ h => absurd h List.not_mem_nil) (fun _ h => absurd h List.not_mem_nil) (fun _ h => absurd h List.not_mem_nil) (by decide +kernel) (by decide +kernel)
theorem WJ0_length_8abf5 : jMv mJ0_length_8abf5 0 := ⟨⟨jGw_of 74 (by decide +kernel) (by decide +kernel), jGw_of 848 (by decide +kernel) (by decide +kernel), ⟨by decide +kernel, by decide +kernel, by decide +kernel⟩, by decide⟩, jGw_of 846 (by decide +kernel) (by decide +kernel), jGw_of 847 (by decide +kernel) (by decide +kernel)⟩
abbrev mJ0_isLatin1_aae02 : jMt := (yJ0_isLatin1_aae02, cJ0_isLatin1_aae02, 1, (some .boolean))
def tJ0_isLatin1_aae02 : jTb := [(3, .ifCond .eq 14, 6, 17, 0), (6, .aload_n 0, 7, 0, 0), (7, .getfield 15, 10, 0, 0), (10, .ifCond .ne 7, 13, 17, 0), (13, .iconst 1, 14, 0, 1), (14, .goto 4, 17, 18, 0), (17, .iconst 0, 18, 0, 0), (18, .ireturn, 19, 0, 0)]
theorem TJ0_isLatin1_aae02 : jT mJ0_isLatin1_aae02 fJ0 lJ0 tJ0_isLatin1_aae02 := jT.of (cs := []) (fun _ h => absurd h List.not_mem_nil) (fun _ h => absurd h List.not_mem_nil) (fun _ h => absurd h List.not_mem_nil) (by decide +kernel) (by decide +kernel)
theorem WJ0_isLatin1_aae02 : jMv mJ0_isLatin1_aae02 0 := ⟨⟨jGw_of 74 (by decide +kernel) (by decide +kernel), jGw_of 1068 (by decide +kernel) (by decide +kernel), ⟨by decide +kernel, by decide +kernel, by decide +kernel⟩, by decide⟩, jGw_of 1066 (by decide +kernel) (by decide +kernel), jGw_of 1067 (by decide +kernel) (by decide +kernel)⟩
abbrev mJ3_checkIndex_8e157 : jMt := (yJ3_checkIndex_8e157, cJ3_checkIndex_8e157, 3, (some .int))
def tJ3_checkIndex_8e157 : jTb := [(0, .iload_n 0, 1, 0, 0), (1, .ifCond .lt 8, 4, 9, 0), (4, .iload_n 0, 5, 0, 0), (5, .iload_n 1, 6, 0, 0), (6, .if_icmp .lt 10, 9, 16, 0), (9, .aload_n 2, 10, 0, 0), (10, .iload_n 0, 11, 0, 0), (11, .iload_n 1, 12, 0, 0), (12, .invokestatic 95, 15, 0, 0), (16, .iload_n 0, 17, 0, 0), (17, .ireturn, 18, 0, 0)]
theorem TJ3_checkIndex_8e157 : jT mJ3_checkIndex_8e157 fJ3 lJ3 tJ3_checkIndex_8e157 := jT.of (cs := []) (fun _ h => absurd h List.not_mem_nil) (fun _ h => absurd h List.not_mem_nil) (fun _ h => absurd h List.not_mem_nil) (by decide +kernel) (by decide +kernel)
theorem WJ3_checkIndex_8e157 : jMs mJ3_checkIndex_8e157 3 := ⟨⟨jGw_of 79 (by decide +kernel) (by decide +kernel), jGw_of 910 (by decide +kernel) (by decide +kernel), ⟨by decide +kernel, by decide +kernel, by decide +kernel⟩, by decide⟩, jGw_of 909 (by decide +kernel) (by decide +kernel)⟩
abbrev mJ0_checkIndex_df160 : jMt := (yJ0_checkIndex_df160, cJ0_checkIndex_df160, 2, none)
def tJ0_checkIndex_df160 : jTb := [(0, .iload_n 0, 1, 0, 0), (1, .iload_n 1, 2, 0, 0), (5, .invokestatic 1059, 8, 0, 0), (8, .pop, 9, 0, 0), (9, .return_, 10, 0, 0)]
theorem TJ0_checkIndex_df160 : jT mJ0_checkIndex_df160 fJ0 lJ0 tJ0_checkIndex_df160 := jT.of (cs := []) (fun _ h => absurd h List.not_mem_nil) (fun _ h => absurd h List.not_mem_nil) (fun _ h => absurd h List.not_mem_nil) (by decide +kernel) (by decide +kernel)
theorem WJ0_checkIndex_df160 : jMs mJ0_checkIndex_df160 2 := ⟨⟨jGw_of 74 (by decide +kernel) (by decide +kernel), jGw_of 907 (by decide +kernel) (by decide +kernel), ⟨by decide +kernel, by decide +kernel, by decide +kernel⟩, by decide⟩, jGw_of 906 (by decide +kernel) (by decide +kernel)⟩
abbrev mJ1_charAt_3b067 : jMt := (yJ1_charAt_3b067, cJ1_charAt_3b067, 2, (some .char))
def tJ1_charAt_3b067 : jTb := [(0, .iload_n 1, 1, 0, 0), (1, .aload_n 0, 2, 0, 0), (2, .arraylength, 3, 0, 0), (3, .invokestatic 9, 6, 0, 0), (6, .aload_n 0, 7, 0, 0), (7, .iload_n 1, 8, 0, 0), (8, .baload, 9, 0, 0), (9, .sipush 255, 12, 0, 255), (12, .iand, 13, 0, 0), (13, .i2c, 14, 0, 0), (14, .ireturn, 15, 0, 0)]
theorem TJ1_charAt_3b067 : jT mJ1_charAt_3b067 fJ1 lJ1 tJ1_charAt_3b067 := jT.of (cs := []) (fun _ h => absurd h List.not_mem_nil) (fun _ h => absurd h List.not_mem_nil) (fun _ h => absurd h List.not_mem_nil) (by decide +kernel) (by decide +kernel)
theorem WJ1_charAt_3b067 : jMs mJ1_charAt_3b067 2 := ⟨⟨jGw_of 80 (by decide +kernel) (by decide +kernel), jGw_of 1071 (by decide +kernel) (by decide +kernel), ⟨by decide +kernel, by decide +kernel, by decide +kernel⟩, by decide⟩, jGw_of 1070 (by decide +kernel) (by decide +kernel)⟩
abbrev mJ0_charAt_5068e : jMt := (yJ0_charAt_5068e, cJ0_charAt_5068e, 2, (some .char))
def tJ0_charAt_5068e : jTb := [(0, .aload_n 0, 1, 0, 0), (1, .invokevirtual 492, 4, 0, 0), (4, .ifCond .eq 12, 7, 16, 0), (7, .aload_n 0, 8, 0, 0), (8, .getfield 9, 11, 0, 0), (11, .iload_n 1, 12, 0, 0), (12, .invokestatic 495, 15, 0, 0), (15, .ireturn, 16, 0, 0), (16, .aload_n 0, 17, 0, 0), (17, .getfield 9, 20, 0, 0), (20, .iload_n 1, 21, 0, 0), (21, .invokestatic 498, 24, 0, 0), (24, .ireturn, 25, 0, 0)]
theorem TJ0_charAt_5068e : jT mJ0_charAt_5068e fJ0 lJ0 tJ0_charAt_5068e := jT.of (cs := []) (fun _ h => absurd h List.not_mem_nil) (fun _ h => absurd h List.not_mem_nil) (fun _ h => absurd h List.not_mem_nil) (by decide +kernel) (by decide +kernel)
theorem WJ0_charAt_5068e : jMv mJ0_charAt_5068e 1 := ⟨⟨jGw_of 74 (by decide +kernel) (by decide +kernel), jGw_of 1064 (by decide +kernel) (by decide +kernel), ⟨by decide +kernel, by decide +kernel, by decide +kernel⟩, by decide⟩, jGw_of 1062 (by decide +kernel) (by decide +kernel), jGw_of 1063 (by decide +kernel) (by decide +kernel)⟩
set_option maxRecDepth 100000 in
set_option maxHeartbeats 4000000 in
theorem CS_coder {g : jG} (hE : jEs g) (n : Nat) {i : Nat} (hi : i < 25) (σ : jM) : jCon g n mJ0_coder_7d493 [.ref (354 + i)] σ (fun v τ => v = some (.int 0) ∧ τ = σ) := by
  refine jCon.ofP (by decide +kernel) (by simp [lg_sl, Value.category]) (fun post hp => ?_)
  refine jr_gets (idx := 38) (v := .int 1) (fun U H h => (hE.1 U H h).2.2.1) (jGw_of 853 (by decide +kernel) (by decide +kernel)) (by decide +kernel) ?_
  have c1 : ¬ (1 : Int32) = 0 := by decide
  refine jvk_ok TJ0_coder_7d493 (V := []) (S := []) (fun _ h => absurd h List.not_mem_nil) (fun _ h => absurd h List.not_mem_nil) [7] 10 _ _ _ _ ?_
  simp (maxSteps := 1000000) [↓Bool.cond_eq_ite, -Prod.forall, -Prod.exists, -Prod.mk.injEq, jvk, tJ0_coder_7d493, jtb, jol, jst, jlk, jcmp, jbin, jfl, fJ0, jc2, lJ0, jcat, jel, lv_args, Value.category, jins, jsrt, jins2, jble, jblt, jf3, List.filter_cons, List.filter_nil, -Int32.not_le, -Int32.not_lt, -Int64.not_le, -Int64.not_lt, i3lt, i6lt, c1]
  try simp (disch := omega) [-Prod.forall, -Prod.exists, -Prod.mk.injEq, -Int32.not_le, -Int32.not_lt, -Int64.not_le, -Int64.not_lt, i3lt, i6lt, c1]
  refine jr_sgf (idx := 15) (v := .int 0) (fun U H h => (((hE.1 U H h).1 i hi).1 0 (by decide)).2.1) (jGw_of 962 (by decide +kernel) (by decide +kernel)) (by decide +kernel) ?_
  refine jvk_ok TJ0_coder_7d493 (V := []) (S := []) (fun _ h => absurd h List.not_mem_nil) (fun _ h => absurd h List.not_mem_nil) [14] 10 _ _ _ _ ?_
  simp (maxSteps := 1000000) [↓Bool.cond_eq_ite, -Prod.forall, -Prod.exists, -Prod.mk.injEq, jvk, tJ0_coder_7d493, jtb, jol, jst, jlk, jcmp, jbin, jfl, fJ0, jc2, lJ0, jcat, jel, lv_args, Value.category, jins, jsrt, jins2, jble, jblt, jf3, List.filter_cons, List.filter_nil, -Int32.not_le, -Int32.not_lt, -Int64.not_le, -Int64.not_lt, i3lt, i6lt]
  try simp (disch := omega) [-Prod.forall, -Prod.exists, -Prod.mk.injEq, -Int32.not_le, -Int32.not_lt, -Int64.not_le, -Int64.not_lt, i3lt, i6lt]
  exact jr_nret (ty := .byte) rfl (by decide) (hp _ _ ⟨rfl, rfl⟩) (by decide +kernel)
set_option maxRecDepth 100000 in
set_option maxHeartbeats 4000000 in
theorem CS_isLatin1 {g : jG} (hE : jEs g) (n : Nat) {i : Nat} (hi : i < 25) (σ : jM) : jCon g n mJ0_isLatin1_aae02 [.ref (354 + i)] σ (fun v τ => v = some (.int 1) ∧ τ = σ) := by
  refine jCon.ofP (by decide +kernel) (by simp [lg_sl, Value.category]) (fun post hp => ?_)
  refine jr_gets (idx := 38) (v := .int 1) (fun U H h => (hE.1 U H h).2.2.1) (jGw_of 853 (by decide +kernel) (by decide +kernel)) (by decide +kernel) ?_
  have c1 : ¬ (1 : Int32) = 0 := by decide
  have k1 := hp (some (.int 1)) σ ⟨rfl, rfl⟩
  refine jvk_ok TJ0_isLatin1_aae02 (V := []) (S := []) (fun _ h => absurd h List.not_mem_nil) (fun _ h => absurd h List.not_mem_nil) [7] 10 _ _ _ _ ?_
  simp (maxSteps := 1000000) [↓Bool.cond_eq_ite, -Prod.forall, -Prod.exists, -Prod.mk.injEq, jvk, tJ0_isLatin1_aae02, jtb, jol, jst, jlk, jcmp, jbin, jfl, fJ0, jc2, lJ0, jcat, jel, lv_args, Value.category, jins, jsrt, jins2, jble, jblt, jf3, List.filter_cons, List.filter_nil, -Int32.not_le, -Int32.not_lt, -Int64.not_le, -Int64.not_lt, i3lt, i6lt, c1]
  try simp (disch := omega) [-Prod.forall, -Prod.exists, -Prod.mk.injEq, -Int32.not_le, -Int32.not_lt, -Int64.not_le, -Int64.not_lt, i3lt, i6lt, c1]
  refine jr_sgf (idx := 15) (v := .int 0) (fun U H h => (((hE.1 U H h).1 i hi).1 0 (by decide)).2.1) (jGw_of 962 (by decide +kernel) (by decide +kernel)) (by decide +kernel) ?_
  refine jvk_ok TJ0_isLatin1_aae02 (V := []) (S := []) (fun _ h => absurd h List.not_mem_nil) (fun _ h => absurd h List.not_mem_nil) [] 10 _ _ _ _ ?_
  simp (maxSteps := 1000000) [↓Bool.cond_eq_ite, -Prod.forall, -Prod.exists, -Prod.mk.injEq, jvk, tJ0_isLatin1_aae02, jtb, jol, jst, jlk, jcmp, jbin, jfl, fJ0, jc2, lJ0, jcat, jel, lv_args, Value.category, jins, jsrt, jins2, jble, jblt, jf3, List.filter_cons, List.filter_nil, -Int32.not_le, -Int32.not_lt, -Int64.not_le, -Int64.not_lt, i3lt, i6lt]
  try simp (disch := omega) [-Prod.forall, -Prod.exists, -Prod.mk.injEq, -Int32.not_le, -Int32.not_lt, -Int64.not_le, -Int64.not_lt, i3lt, i6lt]
  exact k1
set_option maxRecDepth 100000 in
set_option maxHeartbeats 4000000 in
theorem CS_length {g : jG} (hE : jEs g) (n : Nat) {i : Nat} (hi : i < 25) (σ : jM) : jCon g (n + 1) mJ0_length_8abf5 [.ref (354 + i)] σ (fun v τ => v = some (.int (nI (sLn i))) ∧ τ = σ) := by
  have hL := (stC_ok i hi).1
  refine jCon.ofP (by decide +kernel) (by simp [lg_sl, Value.category]) (fun post hp => ?_)
  have k1 := hp _ σ ⟨rfl, rfl⟩
  refine jvk_ok TJ0_length_8abf5 (V := []) (S := []) (fun _ h => absurd h List.not_mem_nil) (fun _ h => absurd h List.not_mem_nil) [1] 10 _ _ _ _ ?_
  simp (maxSteps := 1000000) [↓Bool.cond_eq_ite, -Prod.forall, -Prod.exists, -Prod.mk.injEq, jvk, tJ0_length_8abf5, jtb, jol, jst, jlk, jcmp, jbin, jfl, fJ0, jc2, lJ0, jcat, jel, lv_args, Value.category, jins, jsrt, jins2, jble, jblt, jf3, List.filter_cons, List.filter_nil, -Int32.not_le, -Int32.not_lt, -Int64.not_le, -Int64.not_lt, i3lt, i6lt]
  try simp (disch := omega) [-Prod.forall, -Prod.exists, -Prod.mk.injEq, -Int32.not_le, -Int32.not_lt, -Int64.not_le, -Int64.not_lt, i3lt, i6lt]
  refine jr_sgf (idx := 9) (v := .ref (400 + i)) (fun U H h => (((hE.1 U H h).1 i hi).1 0 (by decide)).2.2.1) (jGw_of 961 (by decide +kernel) (by decide +kernel)) (by decide +kernel) ?_
  refine jr_sal (N := sLn i) (fun U H h => (((hE.1 U H h).1 i hi).1 0 (by decide)).2.2.2) (by decide +kernel) ?_
  refine jvk_ok TJ0_length_8abf5 (V := []) (S := []) (fun _ h => absurd h List.not_mem_nil) (fun _ h => absurd h List.not_mem_nil) [6] 10 _ _ _ _ ?_
  simp (maxSteps := 1000000) [↓Bool.cond_eq_ite, -Prod.forall, -Prod.exists, -Prod.mk.injEq, jvk, tJ0_length_8abf5, jtb, jol, jst, jlk, jcmp, jbin, jfl, fJ0, jc2, lJ0, jcat, jel, lv_args, Value.category, jins, jsrt, jins2, jble, jblt, jf3, List.filter_cons, List.filter_nil, -Int32.not_le, -Int32.not_lt, -Int64.not_le, -Int64.not_lt, i3lt, i6lt]
  try simp (disch := omega) [-Prod.forall, -Prod.exists, -Prod.mk.injEq, -Int32.not_le, -Int32.not_lt, -Int64.not_le, -Int64.not_lt, i3lt, i6lt]
  refine jr_callStr (idx := 335) (mt' := mJ0_coder_7d493) (as := []) (r := [.int (nI (sLn i))]) hE hi (by decide +kernel) kJ0_335 WJ0_coder_7d493 rfl rfl (by omega : n < n + 1) rfl (by simp [Value.category]) (CS_coder hE n hi σ) ?_
  rintro _ _ ⟨rfl, rfl⟩
  have es1 : nI (sLn i) >>> ((0 : Int32) &&& 31) = nI (sLn i) := by
    have := pk_shrN (n := sLn i) (by omega) ((0 : Int32) &&& 31) 0 (by decide)
    rw [Nat.pow_zero, Nat.div_one] at this
    exact this
  have es2 : nI (sLn i) >>> (0 : Int32) = nI (sLn i) := by
    have := pk_shrN (n := sLn i) (by omega) (0 : Int32) 0 (by decide)
    rw [Nat.pow_zero, Nat.div_one] at this
    exact this
  refine jvk_ok TJ0_length_8abf5 (V := []) (S := []) (fun _ h => absurd h List.not_mem_nil) (fun _ h => absurd h List.not_mem_nil) [] 10 _ _ _ _ ?_
  simp (maxSteps := 1000000) [↓Bool.cond_eq_ite, -Prod.forall, -Prod.exists, -Prod.mk.injEq, jvk, tJ0_length_8abf5, jtb, jol, jst, jlk, jcmp, jbin, jfl, fJ0, jc2, lJ0, jcat, jel, lv_args, Value.category, jins, jsrt, jins2, jble, jblt, jf3, List.filter_cons, List.filter_nil, -Int32.not_le, -Int32.not_lt, -Int64.not_le, -Int64.not_lt, i3lt, i6lt, es1, es2]
  try simp (disch := omega) [-Prod.forall, -Prod.exists, -Prod.mk.injEq, -Int32.not_le, -Int32.not_lt, -Int64.not_le, -Int64.not_lt, i3lt, i6lt, es1, es2]
  exact k1
set_option maxRecDepth 100000 in
set_option maxHeartbeats 4000000 in
theorem CS_chk3 {g : jG} (n : Nat) {k N q : Nat} (hk : k < N) (hN : N < 1000) (σ : jM) : jCon g n mJ3_checkIndex_8e157 [.int (nI k), .int (nI N), .ref q] σ (fun v τ => v = some (.int (nI k)) ∧ τ = σ) := by
  refine jCon.ofP (by decide +kernel) (by simp [lg_sl, Value.category]) (fun post hp => ?_)
  have k1 := hp _ σ ⟨rfl, rfl⟩
  have c0 : ¬ nI k < 0 := nI_pos (by omega)
  have c1 : ¬ nI N ≤ nI k := nI_ge hk (by omega)
  refine jvk_ok TJ3_checkIndex_8e157 (V := []) (S := []) (fun _ h => absurd h List.not_mem_nil) (fun _ h => absurd h List.not_mem_nil) [] 20 _ _ _ _ ?_
  simp (maxSteps := 1000000) [↓Bool.cond_eq_ite, -Prod.forall, -Prod.exists, -Prod.mk.injEq, jvk, tJ3_checkIndex_8e157, jtb, jol, jst, jlk, jcmp, jbin, jfl, fJ3, jc2, lJ3, jcat, jel, lv_args, Value.category, jins, jsrt, jins2, jble, jblt, jf3, List.filter_cons, List.filter_nil, -Int32.not_le, -Int32.not_lt, -Int64.not_le, -Int64.not_lt, i3lt, i6lt, c0, c1]
  try simp (disch := omega) [-Prod.forall, -Prod.exists, -Prod.mk.injEq, -Int32.not_le, -Int32.not_lt, -Int64.not_le, -Int64.not_lt, i3lt, i6lt, c0, c1]
  exact k1
set_option maxRecDepth 100000 in
set_option maxHeartbeats 4000000 in
theorem CS_chk3n {g : jG} (n : Nat) {k N : Nat} (hk : k < N) (hN : N < 1000) (σ : jM) : jCon g n mJ3_checkIndex_8e157 [.int (nI k), .int (nI N), .null] σ (fun v τ => v = some (.int (nI k)) ∧ τ = σ) := by
  refine jCon.ofP (by decide +kernel) (by simp [lg_sl, Value.category]) (fun post hp => ?_)
  have k1 := hp _ σ ⟨rfl, rfl⟩
  have c0 : ¬ nI k < 0 := nI_pos (by omega)
  have c1 : ¬ nI N ≤ nI k := nI_ge hk (by omega)
  refine jvk_ok TJ3_checkIndex_8e157 (V := []) (S := []) (fun _ h => absurd h List.not_mem_nil) (fun _ h => absurd h List.not_mem_nil) [] 20 _ _ _ _ ?_
  simp (maxSteps := 1000000) [↓Bool.cond_eq_ite, -Prod.forall, -Prod.exists, -Prod.mk.injEq, jvk, tJ3_checkIndex_8e157, jtb, jol, jst, jlk, jcmp, jbin, jfl, fJ3, jc2, lJ3, jcat, jel, lv_args, Value.category, jins, jsrt, jins2, jble, jblt, jf3, List.filter_cons, List.filter_nil, -Int32.not_le, -Int32.not_lt, -Int64.not_le, -Int64.not_lt, i3lt, i6lt, c0, c1]
  try simp (disch := omega) [-Prod.forall, -Prod.exists, -Prod.mk.injEq, -Int32.not_le, -Int32.not_lt, -Int64.not_le, -Int64.not_lt, i3lt, i6lt, c0, c1]
  exact k1
set_option maxRecDepth 100000 in
set_option maxHeartbeats 4000000 in
theorem CS_chk0 {g : jG} (hE : jEs g) (n : Nat) {k N : Nat} (hk : k < N) (hN : N < 1000) (σ : jM) : jCon g (n + 1) mJ0_checkIndex_df160 [.int (nI k), .int (nI N)] σ (fun v τ => v = none ∧ τ = σ) := by
  refine jCon.ofP (by decide +kernel) (by simp [lg_sl, Value.category]) (fun post hp => ?_)
  have k1 := hp _ σ ⟨rfl, rfl⟩
  refine jvk_ok TJ0_checkIndex_df160 (V := []) (S := []) (fun _ h => absurd h List.not_mem_nil) (fun _ h => absurd h List.not_mem_nil) [2] 10 _ _ _ _ ?_
  simp (maxSteps := 1000000) [↓Bool.cond_eq_ite, -Prod.forall, -Prod.exists, -Prod.mk.injEq, jvk, tJ0_checkIndex_df160, jtb, jol, jst, jlk, jcmp, jbin, jfl, fJ0, jc2, lJ0, jcat, jel, lv_args, Value.category, jins, jsrt, jins2, jble, jblt, jf3, List.filter_cons, List.filter_nil, -Int32.not_le, -Int32.not_lt, -Int64.not_le, -Int64.not_lt, i3lt, i6lt]
  try simp (disch := omega) [-Prod.forall, -Prod.exists, -Prod.mk.injEq, -Int32.not_le, -Int32.not_lt, -Int64.not_le, -Int64.not_lt, i3lt, i6lt]
  by_cases h5 : jad g 501 = 0
  · refine jr_gets (idx := 1053) (v := .null) (fun U H h => by have h9 := (hE.1 U H h).2.2.2.1; rw [if_pos h5] at h9; exact h9) (jGw_of 831 (by decide +kernel) (by decide +kernel)) (by decide +kernel) ?_
    refine jr_callSd (idx := 1059) (mt' := mJ3_checkIndex_8e157) (as := [.int (nI k), .int (nI N), .null]) (r := []) (by decide +kernel) kJ0_1059 WJ3_checkIndex_8e157 rfl (by omega : n < n + 1) rfl (by simp) (CS_chk3n n hk hN σ) ?_
    rintro _ _ ⟨rfl, rfl⟩
    refine jvk_ok TJ0_checkIndex_df160 (V := []) (S := []) (fun _ h => absurd h List.not_mem_nil) (fun _ h => absurd h List.not_mem_nil) [] 10 _ _ _ _ ?_
    simp (maxSteps := 1000000) [↓Bool.cond_eq_ite, -Prod.forall, -Prod.exists, -Prod.mk.injEq, jvk, tJ0_checkIndex_df160, jtb, jol, jst, jlk, jcmp, jbin, jfl, fJ0, jc2, lJ0, jcat, jel, lv_args, Value.category, jins, jsrt, jins2, jble, jblt, jf3, List.filter_cons, List.filter_nil, -Int32.not_le, -Int32.not_lt, -Int64.not_le, -Int64.not_lt, i3lt, i6lt]
    try simp (disch := omega) [-Prod.forall, -Prod.exists, -Prod.mk.injEq, -Int32.not_le, -Int32.not_lt, -Int64.not_le, -Int64.not_lt, i3lt, i6lt]
    exact k1
  · refine jr_gets (idx := 1053) (v := .ref 500) (fun U H h => by have h9 := (hE.1 U H h).2.2.2.1; rw [if_neg h5] at h9; exact h9) (jGw_of 831 (by decide +kernel) (by decide +kernel)) (by decide +kernel) ?_
    refine jr_callSd (idx := 1059) (mt' := mJ3_checkIndex_8e157) (as := [.int (nI k), .int (nI N), .ref 500]) (r := []) (by decide +kernel) kJ0_1059 WJ3_checkIndex_8e157 rfl (by omega : n < n + 1) rfl (by simp) (CS_chk3 n hk hN σ) ?_
    rintro _ _ ⟨rfl, rfl⟩
    refine jvk_ok TJ0_checkIndex_df160 (V := []) (S := []) (fun _ h => absurd h List.not_mem_nil) (fun _ h => absurd h List.not_mem_nil) [] 10 _ _ _ _ ?_
    simp (maxSteps := 1000000) [↓Bool.cond_eq_ite, -Prod.forall, -Prod.exists, -Prod.mk.injEq, jvk, tJ0_checkIndex_df160, jtb, jol, jst, jlk, jcmp, jbin, jfl, fJ0, jc2, lJ0, jcat, jel, lv_args, Value.category, jins, jsrt, jins2, jble, jblt, jf3, List.filter_cons, List.filter_nil, -Int32.not_le, -Int32.not_lt, -Int64.not_le, -Int64.not_lt, i3lt, i6lt]
    try simp (disch := omega) [-Prod.forall, -Prod.exists, -Prod.mk.injEq, -Int32.not_le, -Int32.not_lt, -Int64.not_le, -Int64.not_lt, i3lt, i6lt]
    exact k1
set_option maxRecDepth 100000 in
set_option maxHeartbeats 4000000 in
theorem CS_char1 {g : jG} (hE : jEs g) (n : Nat) {i k : Nat} (hi : i < 25) (hk : k < sLn i) (σ : jM) : jCon g (n + 2) mJ1_charAt_3b067 [.ref (400 + i), .int (nI k)] σ (fun v τ => v = some (.int (stC i k)) ∧ τ = σ) := by
  obtain ⟨hL, hC⟩ := stC_ok i hi
  obtain ⟨hc1, hc2⟩ := hC k hk
  refine jCon.ofP (by decide +kernel) (by simp [lg_sl, Value.category]) (fun post hp => ?_)
  refine jvk_ok TJ1_charAt_3b067 (V := []) (S := []) (fun _ h => absurd h List.not_mem_nil) (fun _ h => absurd h List.not_mem_nil) [2] 10 _ _ _ _ ?_
  simp (maxSteps := 1000000) [↓Bool.cond_eq_ite, -Prod.forall, -Prod.exists, -Prod.mk.injEq, jvk, tJ1_charAt_3b067, jtb, jol, jst, jlk, jcmp, jbin, jfl, fJ1, jc2, lJ1, jcat, jel, lv_args, Value.category, jins, jsrt, jins2, jble, jblt, jf3, List.filter_cons, List.filter_nil, -Int32.not_le, -Int32.not_lt, -Int64.not_le, -Int64.not_lt, i3lt, i6lt]
  try simp (disch := omega) [-Prod.forall, -Prod.exists, -Prod.mk.injEq, -Int32.not_le, -Int32.not_lt, -Int64.not_le, -Int64.not_lt, i3lt, i6lt]
  refine jr_sal (N := sLn i) (fun U H h => (((hE.1 U H h).1 i hi).1 0 (by decide)).2.2.2) (by decide +kernel) ?_
  refine jr_callSd (idx := 9) (mt' := mJ0_checkIndex_df160) (as := [.int (nI k), .int (nI (sLn i))]) (r := []) (by decide +kernel) kJ1_9 WJ0_checkIndex_df160 rfl (by omega : n + 1 < n + 2) rfl (by simp) (CS_chk0 hE n hk (by omega) σ) ?_
  rintro _ _ ⟨rfl, rfl⟩
  refine jvk_ok TJ1_charAt_3b067 (V := []) (S := []) (fun _ h => absurd h List.not_mem_nil) (fun _ h => absurd h List.not_mem_nil) [8] 10 _ _ _ _ ?_
  simp (maxSteps := 1000000) [↓Bool.cond_eq_ite, -Prod.forall, -Prod.exists, -Prod.mk.injEq, jvk, tJ1_charAt_3b067, jtb, jol, jst, jlk, jcmp, jbin, jfl, fJ1, jc2, lJ1, jcat, jel, lv_args, Value.category, jins, jsrt, jins2, jble, jblt, jf3, List.filter_cons, List.filter_nil, -Int32.not_le, -Int32.not_lt, -Int64.not_le, -Int64.not_lt, i3lt, i6lt]
  try simp (disch := omega) [-Prod.forall, -Prod.exists, -Prod.mk.injEq, -Int32.not_le, -Int32.not_lt, -Int64.not_le, -Int64.not_lt, i3lt, i6lt]
  refine jr_sba (N := sLn i) (f := stC i) (fun U H h => (((hE.1 U H h).1 i hi).1 0 (by decide)).2.2.2) (jin_nI hk (by omega)) (by decide +kernel) ?_
  rw [nI_clamp (by omega)]
  refine jvk_ok TJ1_charAt_3b067 (V := []) (S := []) (fun _ h => absurd h List.not_mem_nil) (fun _ h => absurd h List.not_mem_nil) [14] 10 _ _ _ _ ?_
  simp (maxSteps := 1000000) [↓Bool.cond_eq_ite, -Prod.forall, -Prod.exists, -Prod.mk.injEq, jvk, tJ1_charAt_3b067, jtb, jol, jst, jlk, jcmp, jbin, jfl, fJ1, jc2, lJ1, jcat, jel, lv_args, Value.category, jins, jsrt, jins2, jble, jblt, jf3, List.filter_cons, List.filter_nil, -Int32.not_le, -Int32.not_lt, -Int64.not_le, -Int64.not_lt, i3lt, i6lt]
  try simp (disch := omega) [-Prod.forall, -Prod.exists, -Prod.mk.injEq, -Int32.not_le, -Int32.not_lt, -Int64.not_le, -Int64.not_lt, i3lt, i6lt]
  rw [hc1]
  exact jr_nret (ty := .char) rfl hc2 (hp _ _ ⟨rfl, rfl⟩) (by decide +kernel)
set_option maxRecDepth 100000 in
set_option maxHeartbeats 4000000 in
theorem CS_charAt {g : jG} (hE : jEs g) (n : Nat) {i k : Nat} (hi : i < 25) (hk : k < sLn i) (σ : jM) : jCon g (n + 3) mJ0_charAt_5068e [.ref (354 + i), .int (nI k)] σ (fun v τ => v = some (.int (stC i k)) ∧ τ = σ) := by
  obtain ⟨hL, hC⟩ := stC_ok i hi
  obtain ⟨hc1, hc2⟩ := hC k hk
  refine jCon.ofP (by decide +kernel) (by simp [lg_sl, Value.category]) (fun post hp => ?_)
  refine jvk_ok TJ0_charAt_5068e (V := []) (S := []) (fun _ h => absurd h List.not_mem_nil) (fun _ h => absurd h List.not_mem_nil) [1] 10 _ _ _ _ ?_
  simp (maxSteps := 1000000) [↓Bool.cond_eq_ite, -Prod.forall, -Prod.exists, -Prod.mk.injEq, jvk, tJ0_charAt_5068e, jtb, jol, jst, jlk, jcmp, jbin, jfl, fJ0, jc2, lJ0, jcat, jel, lv_args, Value.category, jins, jsrt, jins2, jble, jblt, jf3, List.filter_cons, List.filter_nil, -Int32.not_le, -Int32.not_lt, -Int64.not_le, -Int64.not_lt, i3lt, i6lt]
  try simp (disch := omega) [-Prod.forall, -Prod.exists, -Prod.mk.injEq, -Int32.not_le, -Int32.not_lt, -Int64.not_le, -Int64.not_lt, i3lt, i6lt]
  refine jr_callStr (idx := 492) (mt' := mJ0_isLatin1_aae02) (as := []) (r := []) hE hi (by decide +kernel) kJ0_492 WJ0_isLatin1_aae02 rfl rfl (by omega : n < n + 3) rfl (by simp) (CS_isLatin1 hE n hi σ) ?_
  rintro _ _ ⟨rfl, rfl⟩
  have c1 : ¬ (1 : Int32) = 0 := by decide
  refine jvk_ok TJ0_charAt_5068e (V := []) (S := []) (fun _ h => absurd h List.not_mem_nil) (fun _ h => absurd h List.not_mem_nil) [8] 10 _ _ _ _ ?_
  simp (maxSteps := 1000000) [↓Bool.cond_eq_ite, -Prod.forall, -Prod.exists, -Prod.mk.injEq, jvk, tJ0_charAt_5068e, jtb, jol, jst, jlk, jcmp, jbin, jfl, fJ0, jc2, lJ0, jcat, jel, lv_args, Value.category, jins, jsrt, jins2, jble, jblt, jf3, List.filter_cons, List.filter_nil, -Int32.not_le, -Int32.not_lt, -Int64.not_le, -Int64.not_lt, i3lt, i6lt, c1]
  try simp (disch := omega) [-Prod.forall, -Prod.exists, -Prod.mk.injEq, -Int32.not_le, -Int32.not_lt, -Int64.not_le, -Int64.not_lt, i3lt, i6lt, c1]
  refine jr_sgf (idx := 9) (v := .ref (400 + i)) (fun U H h => (((hE.1 U H h).1 i hi).1 0 (by decide)).2.2.1) (jGw_of 961 (by decide +kernel) (by decide +kernel)) (by decide +kernel) ?_
  refine jvk_ok TJ0_charAt_5068e (V := []) (S := []) (fun _ h => absurd h List.not_mem_nil) (fun _ h => absurd h List.not_mem_nil) [12] 10 _ _ _ _ ?_
  simp (maxSteps := 1000000) [↓Bool.cond_eq_ite, -Prod.forall, -Prod.exists, -Prod.mk.injEq, jvk, tJ0_charAt_5068e, jtb, jol, jst, jlk, jcmp, jbin, jfl, fJ0, jc2, lJ0, jcat, jel, lv_args, Value.category, jins, jsrt, jins2, jble, jblt, jf3, List.filter_cons, List.filter_nil, -Int32.not_le, -Int32.not_lt, -Int64.not_le, -Int64.not_lt, i3lt, i6lt]
  try simp (disch := omega) [-Prod.forall, -Prod.exists, -Prod.mk.injEq, -Int32.not_le, -Int32.not_lt, -Int64.not_le, -Int64.not_lt, i3lt, i6lt]
  refine jr_callSd (idx := 495) (mt' := mJ1_charAt_3b067) (as := [.ref (400 + i), .int (nI k)]) (r := []) (by decide +kernel) kJ0_495 WJ1_charAt_3b067 rfl (by omega : n + 2 < n + 3) rfl (by simp) (CS_char1 hE n hi hk _) ?_
  rintro _ _ ⟨rfl, rfl⟩
  exact jr_nret (ty := .char) rfl hc2 (hp _ _ ⟨rfl, rfl⟩) (by decide +kernel)
/-- the words by their letters' numbers -/
def stW (i : Nat) : List Nat := [wRoom, wPerson, wNo, wLease, wDeposit, wPlan, wSet, wMethod, wShare, wAuto, wLow, wHigh, wMiddle].getD i []
def wLt (i k : Nat) : Nat := (stW i).getD k 0
theorem stW_ok : ∀ i, i < 13 → (stW i).length = sLn i ∧ ∀ k, k < sLn i → stC i k = nI (96 + wLt i k) ∧ wLt i k < 32 := by decide +kernel
