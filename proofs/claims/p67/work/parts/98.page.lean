/-! Page: clear, charAt; History: forget -/
def oX3_forget : jO := joR fun a σ => (a = 57, fun v τ => v = none ∧ τ = jup σ 57 2 0)
set_option maxRecDepth 100000 in
set_option maxHeartbeats 4000000 in
theorem CX3_forget (g : jG) (n : Nat) : jOk g (n + 0) mX3_forget oX3_forget := by
  refine joR_ok ?_
  rintro _ σ rfl
  refine jCon.ofP (by decide +kernel) (by simp [lg_sl, Value.category]) (fun post hp => ?_)
  refine jvk_ok TX3_forget (V := []) (S := []) (fun _ h => absurd h List.not_mem_nil) (fun _ h => absurd h List.not_mem_nil) [] 10 _ _ _ _ ?_
  simp (maxSteps := 1000000) [↓Bool.cond_eq_ite, -Prod.forall, -Prod.exists, -Prod.mk.injEq, jvk, tX3_forget, jtb, jol, jst, jlk, jcmp, jbin, jfl, fX3, jc2, lX3, jcat, jel, lv_args, Value.category, jins, jsrt, jins2, jble, jblt, jf3, List.filter_cons, List.filter_nil, G_history, -Int32.not_le, -Int32.not_lt, -Int64.not_le, -Int64.not_lt, i3lt, i6lt]
  try simp (disch := omega) [-Prod.forall, -Prod.exists, -Prod.mk.injEq, -Int32.not_le, -Int32.not_lt, -Int64.not_le, -Int64.not_lt, i3lt, i6lt]
  exact hp _ _ ⟨rfl, rfl⟩
