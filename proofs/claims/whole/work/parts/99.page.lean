/-! Page: add -/
abbrev uP (σ : jM) (s : Nat) (L : List Int32) : jM := ouS 321 320 1 σ s L
theorem uP_app (σ : jM) (s : Nat) (L L' : List Int32) : uP (uP σ s L) (s + L.length) L' = uP σ s (L ++ L') := ouS_app _ _ _ _ _ _ _ (by decide)
theorem uP_n (σ : jM) (s : Nat) (L : List Int32) : (uP σ s L).1 320 1 = nI (s + L.length) := by
  rw [ouS_1, if_neg (fun z => by omega), if_pos ⟨rfl, rfl⟩]
theorem ch_n {c : Nat} (h : c < 128) : vp_nar .char ((nI c).toUInt32 % 65536).toInt32 = nI c := by
  have key : ∀ c : Fin 128, vp_nar .char ((nI c.val).toUInt32 % 65536).toInt32 = nI c.val := by decide +kernel
  exact key ⟨c, h⟩
def preA (σ : jM) (x : Int32) : Prop := ∃ s c : Nat, σ.1 320 1 = nI s ∧ s < 162 ∧ x = nI c ∧ c < 128
def oX5_add : jO := joRI fun a x σ => (a = 320 ∧ preA σ x, fun v τ => v = none ∧ τ = uP σ (σ.1 320 1).toNatClampNeg [x])
set_option maxRecDepth 100000 in
set_option maxHeartbeats 4000000 in
theorem CX5_add (g : jG) (n : Nat) : jOk g (n + 0) mX5_add oX5_add := by
  refine joRI_ok ?_
  rintro _ _ σ ⟨rfl, s, c, hs, hs2, rfl, hc⟩
  have js : jin (nI s) 162 := jin_nI hs2 (by decide)
  have ecs : (nI s).toNatClampNeg = s := nI_clamp (by omega)
  have hlt : ¬ (162 : Int32) ≤ nI s := nI_ge (b := 162) hs2 (by decide)
  have eS := ouS_up 321 320 1 σ s (nI c) (by decide)
  refine jCon.ofP (by decide +kernel) (by simp [lg_sl, Value.category]) (fun post hp => ?_)
  refine jvk_ok TX5_add (V := []) (S := []) (fun _ h => absurd h List.not_mem_nil) (fun _ h => absurd h List.not_mem_nil) [] 30 _ _ _ _ ?_
  simp (maxSteps := 1000000) [↓Bool.cond_eq_ite, -Prod.forall, -Prod.exists, -Prod.mk.injEq, jvk, tX5_add, jtb, jol, jst, jlk, jcmp, jbin, jfl, fX5, jc2, lX5, jcat, jel, lv_args, Value.category, jins, jsrt, jins2, jble, jblt, jf3, List.filter_cons, List.filter_nil, G_page, -Int32.not_le, -Int32.not_lt, -Int64.not_le, -Int64.not_lt, i3lt, i6lt, hs, js, ecs, hlt, jup_1, nI_1]
  try simp (disch := omega) [-Prod.forall, -Prod.exists, -Prod.mk.injEq, -Int32.not_le, -Int32.not_lt, -Int64.not_le, -Int64.not_lt, i3lt, i6lt, hs, js, ecs, hlt, jup_1, nI_1]
  rw [ch_n hc, eS]
  exact hp _ _ ⟨rfl, by rw [hs, ecs]⟩
