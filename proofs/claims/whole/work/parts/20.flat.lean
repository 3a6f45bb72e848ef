/-! Flat, the one in use (cell 37) -/
abbrev fP (σ : jM) (i : Int32) : Prop := 0 ≤ i ∧ i < σ.1 37 1 ∧ i < 10
abbrev fR (σ : jM) (i : Int32) : Prop := 0 ≤ i ∧ i < σ.1 37 0 ∧ i < 6
theorem jin_of {i : Int32} {n : Nat} {m : Int32} (h0 : 0 ≤ i) (h1 : i < m) (hm : m.toInt = n) : jin i n := by
  constructor
  · simpa [Int32.le_iff_toInt_le] using h0
  · have := Int32.lt_iff_toInt_lt.mp h1
    omega
def oX2_isPerson : jO := joRI fun a i σ => (a = 37, fun v τ => v = some (.int (if fP σ i then 1 else 0)) ∧ τ = σ)
theorem CX2_isPerson (g : jG) (n : Nat) : jOk g (n + 0) mX2_isPerson oX2_isPerson := by
  refine joRI_ok ?_
  rintro _ i σ rfl
  refine jCon.of (by decide +kernel) (by simp [lg_sl, Value.category]) ?_
  refine jvk_ok TX2_isPerson (V := []) (S := []) (fun _ h => absurd h List.not_mem_nil) (fun _ h => absurd h List.not_mem_nil) [] 30 _ _ _ _ ?_
  simp [jvk, tX2_isPerson, jtb, jol, jst, jlk, jcmp, jbin, jfl, fX2, jc2, lX2, jobj, jarr, jlen, jelt, jref, jtc, jisO, jcat, jshp, jshpT, jN, jel, lv_args, Value.category, jins, jsrt, jins2, jshp_0, jshp_1, jshp_2, jshp_3, jshp_4, jshp_5, jshp_6, jshp_7, jshp_8, jshp_9, jshp_10, jshp_11, jshp_12, jshp_13, jshp_14, jshp_15, jshp_16, jshp_17]
  grind
def oX2_isRoom : jO := joRI fun a i σ => (a = 37, fun v τ => v = some (.int (if fR σ i then 1 else 0)) ∧ τ = σ)
theorem CX2_isRoom (g : jG) (n : Nat) : jOk g (n + 0) mX2_isRoom oX2_isRoom := by
  refine joRI_ok ?_
  rintro _ i σ rfl
  refine jCon.of (by decide +kernel) (by simp [lg_sl, Value.category]) ?_
  refine jvk_ok TX2_isRoom (V := []) (S := []) (fun _ h => absurd h List.not_mem_nil) (fun _ h => absurd h List.not_mem_nil) [] 30 _ _ _ _ ?_
  simp [jvk, tX2_isRoom, jtb, jol, jst, jlk, jcmp, jbin, jfl, fX2, jc2, lX2, jobj, jarr, jlen, jelt, jref, jtc, jisO, jcat, jshp, jshpT, jN, jel, lv_args, Value.category, jins, jsrt, jins2, jshp_0, jshp_1, jshp_2, jshp_3, jshp_4, jshp_5, jshp_6, jshp_7, jshp_8, jshp_9, jshp_10, jshp_11, jshp_12, jshp_13, jshp_14, jshp_15, jshp_16, jshp_17]
  grind
def oX2_isLiving : jO := joRI fun a i σ => (a = 37, fun v τ => v = some (.int (if fP σ i ∧ σ.1 39 i.toNatClampNeg = 1 then 1 else 0)) ∧ τ = σ)
theorem CX2_isLiving (g : jG) (n : Nat) : jOk g (n + 1) mX2_isLiving oX2_isLiving := by
  refine joRI_ok ?_
  rintro _ i σ rfl
  refine jCon.of (by decide +kernel) (by simp [lg_sl, Value.category]) ?_
  refine jvk_ok TX2_isLiving (V := [(78, 2, 2, oX2_isPerson)]) (S := []) (List.forall_mem_cons.mpr ⟨⟨mX2_isPerson, n + 0, 1, TX2, 16, rfl, by omega, kX2_78, WX2_isPerson, rfl, CX2_isPerson g (n)⟩, (fun _ h => absurd h List.not_mem_nil)⟩) (fun _ h => absurd h List.not_mem_nil) [] 30 _ _ _ _ ?_
  simp [jvk, tX2_isLiving, jtb, jol, jst, jlk, jcmp, jbin, jfl, fX2, jc2, lX2, jobj, jarr, jlen, jelt, jref, jtc, jisO, jcat, jshp, jshpT, jN, jel, lv_args, Value.category, jins, jsrt, jins2, jshp_0, jshp_1, jshp_2, jshp_3, jshp_4, jshp_5, jshp_6, jshp_7, jshp_8, jshp_9, jshp_10, jshp_11, jshp_12, jshp_13, jshp_14, jshp_15, jshp_16, jshp_17, oX2_isPerson, joRI]
  refine ⟨fun a b c d => by grind, fun a b c => ⟨jin_of a c rfl, by grind⟩⟩
