/-! the law's cases of calls that never throw -/
/-- the locals at the loop's head -/
def LL (i : Nat) : List (Nat × Value) := [(0, .ref 380), (1, .ref 0), (2, .ref 322), (3, .ref 352), (4, .ref 353), (5, .int (nI i))]
theorem opt_cat (v : Option Value) : ((v.toList ++ ([] : List Value)).map fun v => v.category).sum ≤ 8 := by
  cases v with
  | none => simp
  | some v => cases v <;> simp [Value.category]
theorem ite01 (x : Int32) : (if x = 0 then (0 : Int32) else 1) = 0 ∨ (if x = 0 then (0 : Int32) else 1) = 1 := by
  by_cases h : x = 0
  · exact Or.inl (if_pos h)
  · exact Or.inr (if_neg h)
section LW2
variable {g : jG} {mt : jMt} {n : Nat} {pc : Nat} {L : List (Nat × Value)} {r : List Value} {σ : jM} {zZ : jZ}
theorem jy_bool {x : Int32} (d0 : decode mt.2.1 pc = .ok (.ifCond .eq 7, 3)) (d3 : decode mt.2.1 (pc + 3) = .ok (.iconst 1, 1)) (d4 : decode mt.2.1 (pc + 4) = .ok (.goto 4, 3)) (d7 : decode mt.2.1 (pc + 7) = .ok (.iconst 0, 1))
    (k : jY g zZ mt n (pc + 8) L (.int (if x = 0 then 0 else 1) :: r) σ) : jY g zZ mt n pc L (.int x :: r) σ := by
  refine jy_if (tg := pc + 7) d0 (by omega) ⟨fun h => ?_, fun h => ?_⟩
  · rw [if_pos h] at k
    exact jy_iconst (v := 0) rfl d7 k
  · rw [if_neg h] at k
    exact jy_iconst (v := 1) rfl d3 (jy_goto (tg := pc + 8) d4 (by omega) k)
end LW2
/-! 0: feed -/
def tC_0 : jTb := [(316, .aload_n 1, 317, 0, 0), (317, .aload_n 0, 318, 0, 0), (318, .iload 5, 320, 0, 0), (320, .iconst 1, 321, 0, 1), (321, .iadd, 322, 0, 0), (322, .iaload, 323, 0, 0), (323, .aload_n 0, 324, 0, 0), (324, .iload 5, 326, 0, 0), (326, .iconst 2, 327, 0, 2), (327, .iadd, 328, 0, 0), (328, .iaload, 329, 0, 0), (329, .aload_n 0, 330, 0, 0), (330, .iload 5, 332, 0, 0), (332, .iconst 3, 333, 0, 3), (333, .iadd, 334, 0, 0), (334, .iaload, 335, 0, 0), (335, .aload_n 0, 336, 0, 0), (336, .iload 5, 338, 0, 0), (338, .iconst 4, 339, 0, 4), (339, .iadd, 340, 0, 0), (340, .iaload, 341, 0, 0), (341, .aload_n 0, 342, 0, 0), (342, .iload 5, 344, 0, 0), (344, .iconst 5, 345, 0, 5), (345, .iadd, 346, 0, 0), (346, .iaload, 347, 0, 0), (347, .invokevirtual 86, 350, 0, 0), (350, .aload_n 2, 351, 0, 0), (351, .aload_n 0, 352, 0, 0), (352, .iload 5, 354, 0, 0), (354, .iconst 1, 355, 0, 1), (355, .iadd, 356, 0, 0), (356, .iaload, 357, 0, 0), (357, .aload_n 0, 358, 0, 0), (358, .iload 5, 360, 0, 0), (360, .iconst 2, 361, 0, 2), (361, .iadd, 362, 0, 0), (362, .iaload, 363, 0, 0), (363, .aload_n 0, 364, 0, 0), (364, .iload 5, 366, 0, 0), (366, .iconst 3, 367, 0, 3), (367, .iadd, 368, 0, 0), (368, .iaload, 369, 0, 0), (369, .aload_n 0, 370, 0, 0), (370, .iload 5, 372, 0, 0), (372, .iconst 4, 373, 0, 4), (373, .iadd, 374, 0, 0), (374, .iaload, 375, 0, 0), (375, .aload_n 0, 376, 0, 0), (376, .iload 5, 378, 0, 0), (378, .iconst 5, 379, 0, 5), (379, .iadd, 380, 0, 0), (380, .iaload, 381, 0, 0), (381, .invokevirtual 90, 384, 0, 0), (384, .if_icmp .eq 2233, 387, 2617, 0), (387, .iconst 0, 388, 0, 0), (388, .ireturn, 389, 0, 0)]
theorem TC_0 : jT mLw [] [] tC_0 := jT.of (cs := []) (fun _ h => absurd h List.not_mem_nil) (fun _ h => absurd h List.not_mem_nil) (fun _ h => absurd h List.not_mem_nil) (by decide +kernel) (by decide +kernel)
theorem LC_0 {g : jG} {N : Nat} {xs : Nat → Int32} (hX : jScr g N xs) {T : lwT} {c0 s0 : Nat} (hc0 : c0 ≤ 601024) (hs0 : s0 ≤ 7293034) {i : Nat} (hi : i + 6 ≤ N) {σ : jM} (hR : xR σ) (k : ∀ υ, xR υ → jY g (zL T c0 s0) mLw 1000 2617 (LL i) [] υ) : jY g (zL T c0 s0) mLw 1000 316 (LL i) [] σ := by
  obtain ⟨p1, q1⟩ := xs_feed (xs (i + 1)) (xs (i + 2)) (xs (i + 3)) (xs (i + 4)) (xs (i + 5)) σ hR
  refine jy_aloadn (j := 1) rfl (TC_0.row (show jtb tC_0 316 = _ from rfl)).1 ?_
  refine jy_S hX 1 rfl rfl hi (by decide) (TC_0.row (show jtb tC_0 317 = _ from rfl)).1 (TC_0.row (show jtb tC_0 318 = _ from rfl)).1 (TC_0.row (show jtb tC_0 320 = _ from rfl)).1 (TC_0.row (show jtb tC_0 321 = _ from rfl)).1 (TC_0.row (show jtb tC_0 322 = _ from rfl)).1 ?_
  refine jy_S hX 2 rfl rfl hi (by decide) (TC_0.row (show jtb tC_0 323 = _ from rfl)).1 (TC_0.row (show jtb tC_0 324 = _ from rfl)).1 (TC_0.row (show jtb tC_0 326 = _ from rfl)).1 (TC_0.row (show jtb tC_0 327 = _ from rfl)).1 (TC_0.row (show jtb tC_0 328 = _ from rfl)).1 ?_
  refine jy_S hX 3 rfl rfl hi (by decide) (TC_0.row (show jtb tC_0 329 = _ from rfl)).1 (TC_0.row (show jtb tC_0 330 = _ from rfl)).1 (TC_0.row (show jtb tC_0 332 = _ from rfl)).1 (TC_0.row (show jtb tC_0 333 = _ from rfl)).1 (TC_0.row (show jtb tC_0 334 = _ from rfl)).1 ?_
  refine jy_S hX 4 rfl rfl hi (by decide) (TC_0.row (show jtb tC_0 335 = _ from rfl)).1 (TC_0.row (show jtb tC_0 336 = _ from rfl)).1 (TC_0.row (show jtb tC_0 338 = _ from rfl)).1 (TC_0.row (show jtb tC_0 339 = _ from rfl)).1 (TC_0.row (show jtb tC_0 340 = _ from rfl)).1 ?_
  refine jy_S hX 5 rfl rfl hi (by decide) (TC_0.row (show jtb tC_0 341 = _ from rfl)).1 (TC_0.row (show jtb tC_0 342 = _ from rfl)).1 (TC_0.row (show jtb tC_0 344 = _ from rfl)).1 (TC_0.row (show jtb tC_0 345 = _ from rfl)).1 (TC_0.row (show jtb tC_0 346 = _ from rfl)).1 ?_
  refine jy_callV (n' := 0 + 1) (mt' := mX11_feed) (as := [.int (xs (i + 1)), .int (xs (i + 2)), .int (xs (i + 3)), .int (xs (i + 4)), .int (xs (i + 5))]) (r := []) (ci := 11) (a := 0) (zL_ok (by decide) hc0 hs0) TC_0 (show jtb tC_0 347 = _ from rfl) kL_86 WX11_feed rfl (by decide +kernel) rfl (by decide) rfl (by simp) (CX11_feed g 0 _ σ p1) (fun v τ hv => ?_)
  obtain ⟨p2, q2⟩ := q1 v τ hv
  refine jy_aloadn (j := 2) rfl (TC_0.row (show jtb tC_0 350 = _ from rfl)).1 ?_
  refine jy_S hX 1 rfl rfl hi (by decide) (TC_0.row (show jtb tC_0 351 = _ from rfl)).1 (TC_0.row (show jtb tC_0 352 = _ from rfl)).1 (TC_0.row (show jtb tC_0 354 = _ from rfl)).1 (TC_0.row (show jtb tC_0 355 = _ from rfl)).1 (TC_0.row (show jtb tC_0 356 = _ from rfl)).1 ?_
  refine jy_S hX 2 rfl rfl hi (by decide) (TC_0.row (show jtb tC_0 357 = _ from rfl)).1 (TC_0.row (show jtb tC_0 358 = _ from rfl)).1 (TC_0.row (show jtb tC_0 360 = _ from rfl)).1 (TC_0.row (show jtb tC_0 361 = _ from rfl)).1 (TC_0.row (show jtb tC_0 362 = _ from rfl)).1 ?_
  refine jy_S hX 3 rfl rfl hi (by decide) (TC_0.row (show jtb tC_0 363 = _ from rfl)).1 (TC_0.row (show jtb tC_0 364 = _ from rfl)).1 (TC_0.row (show jtb tC_0 366 = _ from rfl)).1 (TC_0.row (show jtb tC_0 367 = _ from rfl)).1 (TC_0.row (show jtb tC_0 368 = _ from rfl)).1 ?_
  refine jy_S hX 4 rfl rfl hi (by decide) (TC_0.row (show jtb tC_0 369 = _ from rfl)).1 (TC_0.row (show jtb tC_0 370 = _ from rfl)).1 (TC_0.row (show jtb tC_0 372 = _ from rfl)).1 (TC_0.row (show jtb tC_0 373 = _ from rfl)).1 (TC_0.row (show jtb tC_0 374 = _ from rfl)).1 ?_
  refine jy_S hX 5 rfl rfl hi (by decide) (TC_0.row (show jtb tC_0 375 = _ from rfl)).1 (TC_0.row (show jtb tC_0 376 = _ from rfl)).1 (TC_0.row (show jtb tC_0 378 = _ from rfl)).1 (TC_0.row (show jtb tC_0 379 = _ from rfl)).1 (TC_0.row (show jtb tC_0 380 = _ from rfl)).1 ?_
  refine jy_callV (n' := 0 + 1) (mt' := mX12_feed) (as := [.int (xs (i + 1)), .int (xs (i + 2)), .int (xs (i + 3)), .int (xs (i + 4)), .int (xs (i + 5))]) (r := v.toList ++ []) (ci := 12) (a := 322) (zL_ok (by decide) hc0 hs0) TC_0 (show jtb tC_0 381 = _ from rfl) kL_90 WX12_feed rfl (by decide +kernel) rfl (by decide) rfl (opt_cat v) (CX12_feed g 0 _ τ p2) (fun w υ hw => ?_)
  obtain ⟨⟨z, rfl⟩, rfl, hR'⟩ := q2 w υ hw
  exact jy_icmp (tg := 2617) (TC_0.row (show jtb tC_0 384 = _ from rfl)).1 rfl ⟨fun _ => k υ hR', fun h => absurd rfl h⟩
/-! 1: load -/
def tC_1 : jTb := [(389, .aload_n 1, 390, 0, 0), (390, .aload_n 0, 391, 0, 0), (391, .iload 5, 393, 0, 0), (393, .iconst 1, 394, 0, 1), (394, .iadd, 395, 0, 0), (395, .iaload, 396, 0, 0), (396, .invokevirtual 91, 399, 0, 0), (399, .aload_n 2, 400, 0, 0), (400, .aload_n 0, 401, 0, 0), (401, .iload 5, 403, 0, 0), (403, .iconst 1, 404, 0, 1), (404, .iadd, 405, 0, 0), (405, .iaload, 406, 0, 0), (406, .invokevirtual 94, 409, 0, 0), (409, .if_icmp .eq 2208, 412, 2617, 0), (412, .iconst 0, 413, 0, 0), (413, .ireturn, 414, 0, 0)]
theorem TC_1 : jT mLw [] [] tC_1 := jT.of (cs := []) (fun _ h => absurd h List.not_mem_nil) (fun _ h => absurd h List.not_mem_nil) (fun _ h => absurd h List.not_mem_nil) (by decide +kernel) (by decide +kernel)
theorem LC_1 {g : jG} (hE : jEs g) {N : Nat} {xs : Nat → Int32} (hX : jScr g N xs) {T : lwT} {c0 s0 : Nat} (hc0 : c0 ≤ 601024) (hs0 : s0 ≤ 7293034) {i : Nat} (hi : i + 6 ≤ N) {σ : jM} (hR : xR σ) (k : ∀ υ, xR υ → jY g (zL T c0 s0) mLw 1000 2617 (LL i) [] υ) : jY g (zL T c0 s0) mLw 1000 389 (LL i) [] σ := by
  obtain ⟨p1, q1⟩ := xs_load (xs (i + 1)) σ hR
  refine jy_aloadn (j := 1) rfl (TC_1.row (show jtb tC_1 389 = _ from rfl)).1 ?_
  refine jy_S hX 1 rfl rfl hi (by decide) (TC_1.row (show jtb tC_1 390 = _ from rfl)).1 (TC_1.row (show jtb tC_1 391 = _ from rfl)).1 (TC_1.row (show jtb tC_1 393 = _ from rfl)).1 (TC_1.row (show jtb tC_1 394 = _ from rfl)).1 (TC_1.row (show jtb tC_1 395 = _ from rfl)).1 ?_
  refine jy_callV (n' := 0 + 10) (mt' := mX11_load) (as := [.int (xs (i + 1))]) (r := []) (ci := 11) (a := 0) (zL_ok (by decide) hc0 hs0) TC_1 (show jtb tC_1 396 = _ from rfl) kL_91 WX11_load rfl (by decide +kernel) rfl (by decide) rfl (by simp) (CX11_load g 0 hE _ σ p1) (fun v τ hv => ?_)
  obtain ⟨p2, q2⟩ := q1 v τ hv
  refine jy_aloadn (j := 2) rfl (TC_1.row (show jtb tC_1 399 = _ from rfl)).1 ?_
  refine jy_S hX 1 rfl rfl hi (by decide) (TC_1.row (show jtb tC_1 400 = _ from rfl)).1 (TC_1.row (show jtb tC_1 401 = _ from rfl)).1 (TC_1.row (show jtb tC_1 403 = _ from rfl)).1 (TC_1.row (show jtb tC_1 404 = _ from rfl)).1 (TC_1.row (show jtb tC_1 405 = _ from rfl)).1 ?_
  refine jy_callV (n' := 0 + 5) (mt' := mX12_load) (as := [.int (xs (i + 1))]) (r := v.toList ++ []) (ci := 12) (a := 322) (zL_ok (by decide) hc0 hs0) TC_1 (show jtb tC_1 406 = _ from rfl) kL_94 WX12_load rfl (by decide +kernel) rfl (by decide) rfl (opt_cat v) (CX12_load g 0 _ τ p2) (fun w υ hw => ?_)
  obtain ⟨⟨z, rfl⟩, rfl, hR'⟩ := q2 w υ hw
  exact jy_icmp (tg := 2617) (TC_1.row (show jtb tC_1 409 = _ from rfl)).1 rfl ⟨fun _ => k υ hR', fun h => absurd rfl h⟩
/-! 2: errorPosition -/
def tC_2 : jTb := [(414, .aload_n 1, 415, 0, 0), (415, .invokevirtual 95, 418, 0, 0), (418, .aload_n 2, 419, 0, 0), (419, .invokevirtual 99, 422, 0, 0), (422, .if_icmp .eq 2195, 425, 2617, 0), (425, .iconst 0, 426, 0, 0), (426, .ireturn, 427, 0, 0)]
theorem TC_2 : jT mLw [] [] tC_2 := jT.of (cs := []) (fun _ h => absurd h List.not_mem_nil) (fun _ h => absurd h List.not_mem_nil) (fun _ h => absurd h List.not_mem_nil) (by decide +kernel) (by decide +kernel)
theorem LC_2 {g : jG} {N : Nat} {xs : Nat → Int32} (hX : jScr g N xs) {T : lwT} {c0 s0 : Nat} (hc0 : c0 ≤ 601024) (hs0 : s0 ≤ 7293034) {i : Nat} (hi : i + 6 ≤ N) {σ : jM} (hR : xR σ) (k : ∀ υ, xR υ → jY g (zL T c0 s0) mLw 1000 2617 (LL i) [] υ) : jY g (zL T c0 s0) mLw 1000 414 (LL i) [] σ := by
  obtain ⟨p1, q1⟩ := xs_errorPosition σ hR
  refine jy_aloadn (j := 1) rfl (TC_2.row (show jtb tC_2 414 = _ from rfl)).1 ?_
  refine jy_callV (n' := 0 + 0) (mt' := mX11_errorPosition) (as := []) (r := []) (ci := 11) (a := 0) (zL_ok (by decide) hc0 hs0) TC_2 (show jtb tC_2 415 = _ from rfl) kL_95 WX11_errorPosition rfl (by decide +kernel) rfl (by decide) rfl (by simp) (CX11_errorPosition g 0 _ σ p1) (fun v τ hv => ?_)
  obtain ⟨p2, q2⟩ := q1 v τ hv
  refine jy_aloadn (j := 2) rfl (TC_2.row (show jtb tC_2 418 = _ from rfl)).1 ?_
  refine jy_callV (n' := 0 + 0) (mt' := mX12_errorPosition) (as := []) (r := v.toList ++ []) (ci := 12) (a := 322) (zL_ok (by decide) hc0 hs0) TC_2 (show jtb tC_2 419 = _ from rfl) kL_99 WX12_errorPosition rfl (by decide +kernel) rfl (by decide) rfl (opt_cat v) (CX12_errorPosition g 0 _ τ p2) (fun w υ hw => ?_)
  obtain ⟨⟨z, rfl⟩, rfl, hR'⟩ := q2 w υ hw
  exact jy_icmp (tg := 2617) (TC_2.row (show jtb tC_2 422 = _ from rfl)).1 rfl ⟨fun _ => k υ hR', fun h => absurd rfl h⟩
/-! 3: roomCount -/
def tC_3 : jTb := [(427, .aload_n 1, 428, 0, 0), (428, .invokevirtual 100, 431, 0, 0), (431, .aload_n 2, 432, 0, 0), (432, .invokevirtual 103, 435, 0, 0), (435, .if_icmp .eq 2182, 438, 2617, 0), (438, .iconst 0, 439, 0, 0), (439, .ireturn, 440, 0, 0)]
theorem TC_3 : jT mLw [] [] tC_3 := jT.of (cs := []) (fun _ h => absurd h List.not_mem_nil) (fun _ h => absurd h List.not_mem_nil) (fun _ h => absurd h List.not_mem_nil) (by decide +kernel) (by decide +kernel)
theorem LC_3 {g : jG} {N : Nat} {xs : Nat → Int32} (hX : jScr g N xs) {T : lwT} {c0 s0 : Nat} (hc0 : c0 ≤ 601024) (hs0 : s0 ≤ 7293034) {i : Nat} (hi : i + 6 ≤ N) {σ : jM} (hR : xR σ) (k : ∀ υ, xR υ → jY g (zL T c0 s0) mLw 1000 2617 (LL i) [] υ) : jY g (zL T c0 s0) mLw 1000 427 (LL i) [] σ := by
  obtain ⟨p1, q1⟩ := xs_roomCount σ hR
  refine jy_aloadn (j := 1) rfl (TC_3.row (show jtb tC_3 427 = _ from rfl)).1 ?_
  refine jy_callV (n' := 0 + 0) (mt' := mX11_roomCount) (as := []) (r := []) (ci := 11) (a := 0) (zL_ok (by decide) hc0 hs0) TC_3 (show jtb tC_3 428 = _ from rfl) kL_100 WX11_roomCount rfl (by decide +kernel) rfl (by decide) rfl (by simp) (CX11_roomCount g 0 _ σ p1) (fun v τ hv => ?_)
  obtain ⟨p2, q2⟩ := q1 v τ hv
  refine jy_aloadn (j := 2) rfl (TC_3.row (show jtb tC_3 431 = _ from rfl)).1 ?_
  refine jy_callV (n' := 0 + 0) (mt' := mX12_roomCount) (as := []) (r := v.toList ++ []) (ci := 12) (a := 322) (zL_ok (by decide) hc0 hs0) TC_3 (show jtb tC_3 432 = _ from rfl) kL_103 WX12_roomCount rfl (by decide +kernel) rfl (by decide) rfl (opt_cat v) (CX12_roomCount g 0 _ τ p2) (fun w υ hw => ?_)
  obtain ⟨⟨z, rfl⟩, rfl, hR'⟩ := q2 w υ hw
  exact jy_icmp (tg := 2617) (TC_3.row (show jtb tC_3 435 = _ from rfl)).1 rfl ⟨fun _ => k υ hR', fun h => absurd rfl h⟩
/-! 4: personCount -/
def tC_4 : jTb := [(440, .aload_n 1, 441, 0, 0), (441, .invokevirtual 104, 444, 0, 0), (444, .aload_n 2, 445, 0, 0), (445, .invokevirtual 107, 448, 0, 0), (448, .if_icmp .eq 2169, 451, 2617, 0), (451, .iconst 0, 452, 0, 0), (452, .ireturn, 453, 0, 0)]
theorem TC_4 : jT mLw [] [] tC_4 := jT.of (cs := []) (fun _ h => absurd h List.not_mem_nil) (fun _ h => absurd h List.not_mem_nil) (fun _ h => absurd h List.not_mem_nil) (by decide +kernel) (by decide +kernel)
theorem LC_4 {g : jG} {N : Nat} {xs : Nat → Int32} (hX : jScr g N xs) {T : lwT} {c0 s0 : Nat} (hc0 : c0 ≤ 601024) (hs0 : s0 ≤ 7293034) {i : Nat} (hi : i + 6 ≤ N) {σ : jM} (hR : xR σ) (k : ∀ υ, xR υ → jY g (zL T c0 s0) mLw 1000 2617 (LL i) [] υ) : jY g (zL T c0 s0) mLw 1000 440 (LL i) [] σ := by
  obtain ⟨p1, q1⟩ := xs_personCount σ hR
  refine jy_aloadn (j := 1) rfl (TC_4.row (show jtb tC_4 440 = _ from rfl)).1 ?_
  refine jy_callV (n' := 0 + 0) (mt' := mX11_personCount) (as := []) (r := []) (ci := 11) (a := 0) (zL_ok (by decide) hc0 hs0) TC_4 (show jtb tC_4 441 = _ from rfl) kL_104 WX11_personCount rfl (by decide +kernel) rfl (by decide) rfl (by simp) (CX11_personCount g 0 _ σ p1) (fun v τ hv => ?_)
  obtain ⟨p2, q2⟩ := q1 v τ hv
  refine jy_aloadn (j := 2) rfl (TC_4.row (show jtb tC_4 444 = _ from rfl)).1 ?_
  refine jy_callV (n' := 0 + 0) (mt' := mX12_personCount) (as := []) (r := v.toList ++ []) (ci := 12) (a := 322) (zL_ok (by decide) hc0 hs0) TC_4 (show jtb tC_4 445 = _ from rfl) kL_107 WX12_personCount rfl (by decide +kernel) rfl (by decide) rfl (opt_cat v) (CX12_personCount g 0 _ τ p2) (fun w υ hw => ?_)
  obtain ⟨⟨z, rfl⟩, rfl, hR'⟩ := q2 w υ hw
  exact jy_icmp (tg := 2617) (TC_4.row (show jtb tC_4 448 = _ from rfl)).1 rfl ⟨fun _ => k υ hR', fun h => absurd rfl h⟩
/-! 5: roomNamed -/
def tC_5 : jTb := [(453, .aload_n 1, 454, 0, 0), (454, .aload_n 0, 455, 0, 0), (455, .iload 5, 457, 0, 0), (457, .iconst 1, 458, 0, 1), (458, .iadd, 459, 0, 0), (459, .iaload, 460, 0, 0), (460, .invokevirtual 108, 463, 0, 0), (463, .aload_n 2, 464, 0, 0), (464, .aload_n 0, 465, 0, 0), (465, .iload 5, 467, 0, 0), (467, .iconst 1, 468, 0, 1), (468, .iadd, 469, 0, 0), (469, .iaload, 470, 0, 0), (470, .invokevirtual 111, 473, 0, 0), (473, .if_icmp .eq 2144, 476, 2617, 0), (476, .iconst 0, 477, 0, 0), (477, .ireturn, 478, 0, 0)]
theorem TC_5 : jT mLw [] [] tC_5 := jT.of (cs := []) (fun _ h => absurd h List.not_mem_nil) (fun _ h => absurd h List.not_mem_nil) (fun _ h => absurd h List.not_mem_nil) (by decide +kernel) (by decide +kernel)
theorem LC_5 {g : jG} {N : Nat} {xs : Nat → Int32} (hX : jScr g N xs) {T : lwT} {c0 s0 : Nat} (hc0 : c0 ≤ 601024) (hs0 : s0 ≤ 7293034) {i : Nat} (hi : i + 6 ≤ N) {σ : jM} (hR : xR σ) (k : ∀ υ, xR υ → jY g (zL T c0 s0) mLw 1000 2617 (LL i) [] υ) : jY g (zL T c0 s0) mLw 1000 453 (LL i) [] σ := by
  obtain ⟨p1, q1⟩ := xs_roomNamed (xs (i + 1)) σ hR
  refine jy_aloadn (j := 1) rfl (TC_5.row (show jtb tC_5 453 = _ from rfl)).1 ?_
  refine jy_S hX 1 rfl rfl hi (by decide) (TC_5.row (show jtb tC_5 454 = _ from rfl)).1 (TC_5.row (show jtb tC_5 455 = _ from rfl)).1 (TC_5.row (show jtb tC_5 457 = _ from rfl)).1 (TC_5.row (show jtb tC_5 458 = _ from rfl)).1 (TC_5.row (show jtb tC_5 459 = _ from rfl)).1 ?_
  refine jy_callV (n' := 0 + 1) (mt' := mX11_roomNamed) (as := [.int (xs (i + 1))]) (r := []) (ci := 11) (a := 0) (zL_ok (by decide) hc0 hs0) TC_5 (show jtb tC_5 460 = _ from rfl) kL_108 WX11_roomNamed rfl (by decide +kernel) rfl (by decide) rfl (by simp) (CX11_roomNamed g 0 _ σ p1) (fun v τ hv => ?_)
  obtain ⟨p2, q2⟩ := q1 v τ hv
  refine jy_aloadn (j := 2) rfl (TC_5.row (show jtb tC_5 463 = _ from rfl)).1 ?_
  refine jy_S hX 1 rfl rfl hi (by decide) (TC_5.row (show jtb tC_5 464 = _ from rfl)).1 (TC_5.row (show jtb tC_5 465 = _ from rfl)).1 (TC_5.row (show jtb tC_5 467 = _ from rfl)).1 (TC_5.row (show jtb tC_5 468 = _ from rfl)).1 (TC_5.row (show jtb tC_5 469 = _ from rfl)).1 ?_
  refine jy_callV (n' := 0 + 0) (mt' := mX12_roomNamed) (as := [.int (xs (i + 1))]) (r := v.toList ++ []) (ci := 12) (a := 322) (zL_ok (by decide) hc0 hs0) TC_5 (show jtb tC_5 470 = _ from rfl) kL_111 WX12_roomNamed rfl (by decide +kernel) rfl (by decide) rfl (opt_cat v) (CX12_roomNamed g 0 _ τ p2) (fun w υ hw => ?_)
  obtain ⟨⟨z, rfl⟩, rfl, hR'⟩ := q2 w υ hw
  exact jy_icmp (tg := 2617) (TC_5.row (show jtb tC_5 473 = _ from rfl)).1 rfl ⟨fun _ => k υ hR', fun h => absurd rfl h⟩
/-! 6: personNamed -/
def tC_6 : jTb := [(478, .aload_n 1, 479, 0, 0), (479, .aload_n 0, 480, 0, 0), (480, .iload 5, 482, 0, 0), (482, .iconst 1, 483, 0, 1), (483, .iadd, 484, 0, 0), (484, .iaload, 485, 0, 0), (485, .invokevirtual 112, 488, 0, 0), (488, .aload_n 2, 489, 0, 0), (489, .aload_n 0, 490, 0, 0), (490, .iload 5, 492, 0, 0), (492, .iconst 1, 493, 0, 1), (493, .iadd, 494, 0, 0), (494, .iaload, 495, 0, 0), (495, .invokevirtual 115, 498, 0, 0), (498, .if_icmp .eq 2119, 501, 2617, 0), (501, .iconst 0, 502, 0, 0), (502, .ireturn, 503, 0, 0)]
theorem TC_6 : jT mLw [] [] tC_6 := jT.of (cs := []) (fun _ h => absurd h List.not_mem_nil) (fun _ h => absurd h List.not_mem_nil) (fun _ h => absurd h List.not_mem_nil) (by decide +kernel) (by decide +kernel)
theorem LC_6 {g : jG} {N : Nat} {xs : Nat → Int32} (hX : jScr g N xs) {T : lwT} {c0 s0 : Nat} (hc0 : c0 ≤ 601024) (hs0 : s0 ≤ 7293034) {i : Nat} (hi : i + 6 ≤ N) {σ : jM} (hR : xR σ) (k : ∀ υ, xR υ → jY g (zL T c0 s0) mLw 1000 2617 (LL i) [] υ) : jY g (zL T c0 s0) mLw 1000 478 (LL i) [] σ := by
  obtain ⟨p1, q1⟩ := xs_personNamed (xs (i + 1)) σ hR
  refine jy_aloadn (j := 1) rfl (TC_6.row (show jtb tC_6 478 = _ from rfl)).1 ?_
  refine jy_S hX 1 rfl rfl hi (by decide) (TC_6.row (show jtb tC_6 479 = _ from rfl)).1 (TC_6.row (show jtb tC_6 480 = _ from rfl)).1 (TC_6.row (show jtb tC_6 482 = _ from rfl)).1 (TC_6.row (show jtb tC_6 483 = _ from rfl)).1 (TC_6.row (show jtb tC_6 484 = _ from rfl)).1 ?_
  refine jy_callV (n' := 0 + 1) (mt' := mX11_personNamed) (as := [.int (xs (i + 1))]) (r := []) (ci := 11) (a := 0) (zL_ok (by decide) hc0 hs0) TC_6 (show jtb tC_6 485 = _ from rfl) kL_112 WX11_personNamed rfl (by decide +kernel) rfl (by decide) rfl (by simp) (CX11_personNamed g 0 _ σ p1) (fun v τ hv => ?_)
  obtain ⟨p2, q2⟩ := q1 v τ hv
  refine jy_aloadn (j := 2) rfl (TC_6.row (show jtb tC_6 488 = _ from rfl)).1 ?_
  refine jy_S hX 1 rfl rfl hi (by decide) (TC_6.row (show jtb tC_6 489 = _ from rfl)).1 (TC_6.row (show jtb tC_6 490 = _ from rfl)).1 (TC_6.row (show jtb tC_6 492 = _ from rfl)).1 (TC_6.row (show jtb tC_6 493 = _ from rfl)).1 (TC_6.row (show jtb tC_6 494 = _ from rfl)).1 ?_
  refine jy_callV (n' := 0 + 0) (mt' := mX12_personNamed) (as := [.int (xs (i + 1))]) (r := v.toList ++ []) (ci := 12) (a := 322) (zL_ok (by decide) hc0 hs0) TC_6 (show jtb tC_6 495 = _ from rfl) kL_115 WX12_personNamed rfl (by decide +kernel) rfl (by decide) rfl (opt_cat v) (CX12_personNamed g 0 _ τ p2) (fun w υ hw => ?_)
  obtain ⟨⟨z, rfl⟩, rfl, hR'⟩ := q2 w υ hw
  exact jy_icmp (tg := 2617) (TC_6.row (show jtb tC_6 498 = _ from rfl)).1 rfl ⟨fun _ => k υ hR', fun h => absurd rfl h⟩
/-! 7: month -/
def tC_7 : jTb := [(503, .aload_n 1, 504, 0, 0), (504, .invokevirtual 116, 507, 0, 0), (507, .aload_n 2, 508, 0, 0), (508, .invokevirtual 119, 511, 0, 0), (511, .if_icmp .eq 2106, 514, 2617, 0), (514, .iconst 0, 515, 0, 0), (515, .ireturn, 516, 0, 0)]
theorem TC_7 : jT mLw [] [] tC_7 := jT.of (cs := []) (fun _ h => absurd h List.not_mem_nil) (fun _ h => absurd h List.not_mem_nil) (fun _ h => absurd h List.not_mem_nil) (by decide +kernel) (by decide +kernel)
theorem LC_7 {g : jG} {N : Nat} {xs : Nat → Int32} (hX : jScr g N xs) {T : lwT} {c0 s0 : Nat} (hc0 : c0 ≤ 601024) (hs0 : s0 ≤ 7293034) {i : Nat} (hi : i + 6 ≤ N) {σ : jM} (hR : xR σ) (k : ∀ υ, xR υ → jY g (zL T c0 s0) mLw 1000 2617 (LL i) [] υ) : jY g (zL T c0 s0) mLw 1000 503 (LL i) [] σ := by
  obtain ⟨p1, q1⟩ := xs_month σ hR
  refine jy_aloadn (j := 1) rfl (TC_7.row (show jtb tC_7 503 = _ from rfl)).1 ?_
  refine jy_callV (n' := 0 + 0) (mt' := mX11_month) (as := []) (r := []) (ci := 11) (a := 0) (zL_ok (by decide) hc0 hs0) TC_7 (show jtb tC_7 504 = _ from rfl) kL_116 WX11_month rfl (by decide +kernel) rfl (by decide) rfl (by simp) (CX11_month g 0 _ σ p1) (fun v τ hv => ?_)
  obtain ⟨p2, q2⟩ := q1 v τ hv
  refine jy_aloadn (j := 2) rfl (TC_7.row (show jtb tC_7 507 = _ from rfl)).1 ?_
  refine jy_callV (n' := 0 + 0) (mt' := mX12_month) (as := []) (r := v.toList ++ []) (ci := 12) (a := 322) (zL_ok (by decide) hc0 hs0) TC_7 (show jtb tC_7 508 = _ from rfl) kL_119 WX12_month rfl (by decide +kernel) rfl (by decide) rfl (opt_cat v) (CX12_month g 0 _ τ p2) (fun w υ hw => ?_)
  obtain ⟨⟨z, rfl⟩, rfl, hR'⟩ := q2 w υ hw
  exact jy_icmp (tg := 2617) (TC_7.row (show jtb tC_7 511 = _ from rfl)).1 rfl ⟨fun _ => k υ hR', fun h => absurd rfl h⟩
/-! 8: undoCount -/
def tC_8 : jTb := [(516, .aload_n 1, 517, 0, 0), (517, .invokevirtual 120, 520, 0, 0), (520, .aload_n 2, 521, 0, 0), (521, .invokevirtual 123, 524, 0, 0), (524, .if_icmp .eq 2093, 527, 2617, 0), (527, .iconst 0, 528, 0, 0), (528, .ireturn, 529, 0, 0)]
theorem TC_8 : jT mLw [] [] tC_8 := jT.of (cs := []) (fun _ h => absurd h List.not_mem_nil) (fun _ h => absurd h List.not_mem_nil) (fun _ h => absurd h List.not_mem_nil) (by decide +kernel) (by decide +kernel)
theorem LC_8 {g : jG} {N : Nat} {xs : Nat → Int32} (hX : jScr g N xs) {T : lwT} {c0 s0 : Nat} (hc0 : c0 ≤ 601024) (hs0 : s0 ≤ 7293034) {i : Nat} (hi : i + 6 ≤ N) {σ : jM} (hR : xR σ) (k : ∀ υ, xR υ → jY g (zL T c0 s0) mLw 1000 2617 (LL i) [] υ) : jY g (zL T c0 s0) mLw 1000 516 (LL i) [] σ := by
  obtain ⟨p1, q1⟩ := xs_undoCount σ hR
  refine jy_aloadn (j := 1) rfl (TC_8.row (show jtb tC_8 516 = _ from rfl)).1 ?_
  refine jy_callV (n' := 0 + 0) (mt' := mX11_undoCount) (as := []) (r := []) (ci := 11) (a := 0) (zL_ok (by decide) hc0 hs0) TC_8 (show jtb tC_8 517 = _ from rfl) kL_120 WX11_undoCount rfl (by decide +kernel) rfl (by decide) rfl (by simp) (CX11_undoCount g 0 _ σ p1) (fun v τ hv => ?_)
  obtain ⟨p2, q2⟩ := q1 v τ hv
  refine jy_aloadn (j := 2) rfl (TC_8.row (show jtb tC_8 520 = _ from rfl)).1 ?_
  refine jy_callV (n' := 0 + 0) (mt' := mX12_undoCount) (as := []) (r := v.toList ++ []) (ci := 12) (a := 322) (zL_ok (by decide) hc0 hs0) TC_8 (show jtb tC_8 521 = _ from rfl) kL_123 WX12_undoCount rfl (by decide +kernel) rfl (by decide) rfl (opt_cat v) (CX12_undoCount g 0 _ τ p2) (fun w υ hw => ?_)
  obtain ⟨⟨z, rfl⟩, rfl, hR'⟩ := q2 w υ hw
  exact jy_icmp (tg := 2617) (TC_8.row (show jtb tC_8 524 = _ from rfl)).1 rfl ⟨fun _ => k υ hR', fun h => absurd rfl h⟩
/-! 9: getSetting -/
def tC_9 : jTb := [(529, .aload_n 1, 530, 0, 0), (530, .aload_n 0, 531, 0, 0), (531, .iload 5, 533, 0, 0), (533, .iconst 1, 534, 0, 1), (534, .iadd, 535, 0, 0), (535, .iaload, 536, 0, 0), (536, .invokevirtual 124, 539, 0, 0), (539, .aload_n 2, 540, 0, 0), (540, .aload_n 0, 541, 0, 0), (541, .iload 5, 543, 0, 0), (543, .iconst 1, 544, 0, 1), (544, .iadd, 545, 0, 0), (545, .iaload, 546, 0, 0), (546, .invokevirtual 127, 549, 0, 0), (549, .if_icmp .eq 2068, 552, 2617, 0), (552, .iconst 0, 553, 0, 0), (553, .ireturn, 554, 0, 0)]
theorem TC_9 : jT mLw [] [] tC_9 := jT.of (cs := []) (fun _ h => absurd h List.not_mem_nil) (fun _ h => absurd h List.not_mem_nil) (fun _ h => absurd h List.not_mem_nil) (by decide +kernel) (by decide +kernel)
theorem LC_9 {g : jG} {N : Nat} {xs : Nat → Int32} (hX : jScr g N xs) {T : lwT} {c0 s0 : Nat} (hc0 : c0 ≤ 601024) (hs0 : s0 ≤ 7293034) {i : Nat} (hi : i + 6 ≤ N) {σ : jM} (hR : xR σ) (k : ∀ υ, xR υ → jY g (zL T c0 s0) mLw 1000 2617 (LL i) [] υ) : jY g (zL T c0 s0) mLw 1000 529 (LL i) [] σ := by
  obtain ⟨p1, q1⟩ := xs_getSetting (xs (i + 1)) σ hR
  refine jy_aloadn (j := 1) rfl (TC_9.row (show jtb tC_9 529 = _ from rfl)).1 ?_
  refine jy_S hX 1 rfl rfl hi (by decide) (TC_9.row (show jtb tC_9 530 = _ from rfl)).1 (TC_9.row (show jtb tC_9 531 = _ from rfl)).1 (TC_9.row (show jtb tC_9 533 = _ from rfl)).1 (TC_9.row (show jtb tC_9 534 = _ from rfl)).1 (TC_9.row (show jtb tC_9 535 = _ from rfl)).1 ?_
  refine jy_callV (n' := 0 + 1) (mt' := mX11_getSetting) (as := [.int (xs (i + 1))]) (r := []) (ci := 11) (a := 0) (zL_ok (by decide) hc0 hs0) TC_9 (show jtb tC_9 536 = _ from rfl) kL_124 WX11_getSetting rfl (by decide +kernel) rfl (by decide) rfl (by simp) (CX11_getSetting g 0 _ σ p1) (fun v τ hv => ?_)
  obtain ⟨p2, q2⟩ := q1 v τ hv
  refine jy_aloadn (j := 2) rfl (TC_9.row (show jtb tC_9 539 = _ from rfl)).1 ?_
  refine jy_S hX 1 rfl rfl hi (by decide) (TC_9.row (show jtb tC_9 540 = _ from rfl)).1 (TC_9.row (show jtb tC_9 541 = _ from rfl)).1 (TC_9.row (show jtb tC_9 543 = _ from rfl)).1 (TC_9.row (show jtb tC_9 544 = _ from rfl)).1 (TC_9.row (show jtb tC_9 545 = _ from rfl)).1 ?_
  refine jy_callV (n' := 0 + 1) (mt' := mX12_getSetting) (as := [.int (xs (i + 1))]) (r := v.toList ++ []) (ci := 12) (a := 322) (zL_ok (by decide) hc0 hs0) TC_9 (show jtb tC_9 546 = _ from rfl) kL_127 WX12_getSetting rfl (by decide +kernel) rfl (by decide) rfl (opt_cat v) (CX12_getSetting g 0 _ τ p2) (fun w υ hw => ?_)
  obtain ⟨⟨z, rfl⟩, rfl, hR'⟩ := q2 w υ hw
  exact jy_icmp (tg := 2617) (TC_9.row (show jtb tC_9 549 = _ from rfl)).1 rfl ⟨fun _ => k υ hR', fun h => absurd rfl h⟩
/-! 10: lease -/
def tC_10 : jTb := [(554, .aload_n 1, 555, 0, 0), (555, .invokevirtual 128, 558, 0, 0), (558, .aload_n 2, 559, 0, 0), (559, .invokevirtual 131, 562, 0, 0), (562, .if_icmp .eq 2055, 565, 2617, 0), (565, .iconst 0, 566, 0, 0), (566, .ireturn, 567, 0, 0)]
theorem TC_10 : jT mLw [] [] tC_10 := jT.of (cs := []) (fun _ h => absurd h List.not_mem_nil) (fun _ h => absurd h List.not_mem_nil) (fun _ h => absurd h List.not_mem_nil) (by decide +kernel) (by decide +kernel)
theorem LC_10 {g : jG} {N : Nat} {xs : Nat → Int32} (hX : jScr g N xs) {T : lwT} {c0 s0 : Nat} (hc0 : c0 ≤ 601024) (hs0 : s0 ≤ 7293034) {i : Nat} (hi : i + 6 ≤ N) {σ : jM} (hR : xR σ) (k : ∀ υ, xR υ → jY g (zL T c0 s0) mLw 1000 2617 (LL i) [] υ) : jY g (zL T c0 s0) mLw 1000 554 (LL i) [] σ := by
  obtain ⟨p1, q1⟩ := xs_lease σ hR
  refine jy_aloadn (j := 1) rfl (TC_10.row (show jtb tC_10 554 = _ from rfl)).1 ?_
  refine jy_callV (n' := 0 + 0) (mt' := mX11_lease) (as := []) (r := []) (ci := 11) (a := 0) (zL_ok (by decide) hc0 hs0) TC_10 (show jtb tC_10 555 = _ from rfl) kL_128 WX11_lease rfl (by decide +kernel) rfl (by decide) rfl (by simp) (CX11_lease g 0 _ σ p1) (fun v τ hv => ?_)
  obtain ⟨p2, q2⟩ := q1 v τ hv
  refine jy_aloadn (j := 2) rfl (TC_10.row (show jtb tC_10 558 = _ from rfl)).1 ?_
  refine jy_callV (n' := 0 + 0) (mt' := mX12_lease) (as := []) (r := v.toList ++ []) (ci := 12) (a := 322) (zL_ok (by decide) hc0 hs0) TC_10 (show jtb tC_10 559 = _ from rfl) kL_131 WX12_lease rfl (by decide +kernel) rfl (by decide) rfl (opt_cat v) (CX12_lease g 0 _ τ p2) (fun w υ hw => ?_)
  obtain ⟨⟨z, rfl⟩, rfl, hR'⟩ := q2 w υ hw
  exact jy_icmp (tg := 2617) (TC_10.row (show jtb tC_10 562 = _ from rfl)).1 rfl ⟨fun _ => k υ hR', fun h => absurd rfl h⟩
/-! 11: deposit -/
def tC_11 : jTb := [(567, .aload_n 1, 568, 0, 0), (568, .invokevirtual 132, 571, 0, 0), (571, .aload_n 2, 572, 0, 0), (572, .invokevirtual 135, 575, 0, 0), (575, .if_icmp .eq 2042, 578, 2617, 0), (578, .iconst 0, 579, 0, 0), (579, .ireturn, 580, 0, 0)]
theorem TC_11 : jT mLw [] [] tC_11 := jT.of (cs := []) (fun _ h => absurd h List.not_mem_nil) (fun _ h => absurd h List.not_mem_nil) (fun _ h => absurd h List.not_mem_nil) (by decide +kernel) (by decide +kernel)
theorem LC_11 {g : jG} {N : Nat} {xs : Nat → Int32} (hX : jScr g N xs) {T : lwT} {c0 s0 : Nat} (hc0 : c0 ≤ 601024) (hs0 : s0 ≤ 7293034) {i : Nat} (hi : i + 6 ≤ N) {σ : jM} (hR : xR σ) (k : ∀ υ, xR υ → jY g (zL T c0 s0) mLw 1000 2617 (LL i) [] υ) : jY g (zL T c0 s0) mLw 1000 567 (LL i) [] σ := by
  obtain ⟨p1, q1⟩ := xs_deposit σ hR
  refine jy_aloadn (j := 1) rfl (TC_11.row (show jtb tC_11 567 = _ from rfl)).1 ?_
  refine jy_callV (n' := 0 + 0) (mt' := mX11_deposit) (as := []) (r := []) (ci := 11) (a := 0) (zL_ok (by decide) hc0 hs0) TC_11 (show jtb tC_11 568 = _ from rfl) kL_132 WX11_deposit rfl (by decide +kernel) rfl (by decide) rfl (by simp) (CX11_deposit g 0 _ σ p1) (fun v τ hv => ?_)
  obtain ⟨p2, q2⟩ := q1 v τ hv
  refine jy_aloadn (j := 2) rfl (TC_11.row (show jtb tC_11 571 = _ from rfl)).1 ?_
  refine jy_callV (n' := 0 + 0) (mt' := mX12_deposit) (as := []) (r := v.toList ++ []) (ci := 12) (a := 322) (zL_ok (by decide) hc0 hs0) TC_11 (show jtb tC_11 572 = _ from rfl) kL_135 WX12_deposit rfl (by decide +kernel) rfl (by decide) rfl (opt_cat v) (CX12_deposit g 0 _ τ p2) (fun w υ hw => ?_)
  obtain ⟨⟨z, rfl⟩, rfl, hR'⟩ := q2 w υ hw
  exact jy_icmp (tg := 2617) (TC_11.row (show jtb tC_11 575 = _ from rfl)).1 rfl ⟨fun _ => k υ hR', fun h => absurd rfl h⟩
/-! 16: livingCount -/
def tC_16 : jTb := [(835, .aload_n 1, 836, 0, 0), (836, .invokevirtual 155, 839, 0, 0), (839, .aload_n 2, 840, 0, 0), (840, .invokevirtual 158, 843, 0, 0), (843, .if_icmp .eq 1774, 846, 2617, 0), (846, .iconst 0, 847, 0, 0), (847, .ireturn, 848, 0, 0)]
theorem TC_16 : jT mLw [] [] tC_16 := jT.of (cs := []) (fun _ h => absurd h List.not_mem_nil) (fun _ h => absurd h List.not_mem_nil) (fun _ h => absurd h List.not_mem_nil) (by decide +kernel) (by decide +kernel)
theorem LC_16 {g : jG} {N : Nat} {xs : Nat → Int32} (hX : jScr g N xs) {T : lwT} {c0 s0 : Nat} (hc0 : c0 ≤ 601024) (hs0 : s0 ≤ 7293034) {i : Nat} (hi : i + 6 ≤ N) {σ : jM} (hR : xR σ) (k : ∀ υ, xR υ → jY g (zL T c0 s0) mLw 1000 2617 (LL i) [] υ) : jY g (zL T c0 s0) mLw 1000 835 (LL i) [] σ := by
  obtain ⟨p1, q1⟩ := xs_livingCount σ hR
  refine jy_aloadn (j := 1) rfl (TC_16.row (show jtb tC_16 835 = _ from rfl)).1 ?_
  refine jy_callV (n' := 0 + 3) (mt' := mX11_livingCount) (as := []) (r := []) (ci := 11) (a := 0) (zL_ok (by decide) hc0 hs0) TC_16 (show jtb tC_16 836 = _ from rfl) kL_155 WX11_livingCount rfl (by decide +kernel) rfl (by decide) rfl (by simp) (CX11_livingCount g 0 _ σ p1) (fun v τ hv => ?_)
  obtain ⟨p2, q2⟩ := q1 v τ hv
  refine jy_aloadn (j := 2) rfl (TC_16.row (show jtb tC_16 839 = _ from rfl)).1 ?_
  refine jy_callV (n' := 0 + 4) (mt' := mX12_livingCount) (as := []) (r := v.toList ++ []) (ci := 12) (a := 322) (zL_ok (by decide) hc0 hs0) TC_16 (show jtb tC_16 840 = _ from rfl) kL_158 WX12_livingCount rfl (by decide +kernel) rfl (by decide) rfl (opt_cat v) (CX12_livingCount g 0 _ τ p2) (fun w υ hw => ?_)
  obtain ⟨⟨z, rfl⟩, rfl, hR'⟩ := q2 w υ hw
  exact jy_icmp (tg := 2617) (TC_16.row (show jtb tC_16 843 = _ from rfl)).1 rfl ⟨fun _ => k υ hR', fun h => absurd rfl h⟩
/-! 17: planCount -/
def tC_17 : jTb := [(848, .aload_n 1, 849, 0, 0), (849, .invokevirtual 159, 852, 0, 0), (852, .aload_n 2, 853, 0, 0), (853, .invokevirtual 162, 856, 0, 0), (856, .if_icmp .eq 1761, 859, 2617, 0), (859, .iconst 0, 860, 0, 0), (860, .ireturn, 861, 0, 0)]
theorem TC_17 : jT mLw [] [] tC_17 := jT.of (cs := []) (fun _ h => absurd h List.not_mem_nil) (fun _ h => absurd h List.not_mem_nil) (fun _ h => absurd h List.not_mem_nil) (by decide +kernel) (by decide +kernel)
theorem LC_17 {g : jG} {N : Nat} {xs : Nat → Int32} (hX : jScr g N xs) {T : lwT} {c0 s0 : Nat} (hc0 : c0 ≤ 601024) (hs0 : s0 ≤ 7293034) {i : Nat} (hi : i + 6 ≤ N) {σ : jM} (hR : xR σ) (k : ∀ υ, xR υ → jY g (zL T c0 s0) mLw 1000 2617 (LL i) [] υ) : jY g (zL T c0 s0) mLw 1000 848 (LL i) [] σ := by
  obtain ⟨p1, q1⟩ := xs_planCount σ hR
  refine jy_aloadn (j := 1) rfl (TC_17.row (show jtb tC_17 848 = _ from rfl)).1 ?_
  refine jy_callV (n' := 0 + 0) (mt' := mX11_planCount) (as := []) (r := []) (ci := 11) (a := 0) (zL_ok (by decide) hc0 hs0) TC_17 (show jtb tC_17 849 = _ from rfl) kL_159 WX11_planCount rfl (by decide +kernel) rfl (by decide) rfl (by simp) (CX11_planCount g 0 _ σ p1) (fun v τ hv => ?_)
  obtain ⟨p2, q2⟩ := q1 v τ hv
  refine jy_aloadn (j := 2) rfl (TC_17.row (show jtb tC_17 852 = _ from rfl)).1 ?_
  refine jy_callV (n' := 0 + 2) (mt' := mX12_planCount) (as := []) (r := v.toList ++ []) (ci := 12) (a := 322) (zL_ok (by decide) hc0 hs0) TC_17 (show jtb tC_17 853 = _ from rfl) kL_162 WX12_planCount rfl (by decide +kernel) rfl (by decide) rfl (opt_cat v) (CX12_planCount g 0 _ τ p2) (fun w υ hw => ?_)
  obtain ⟨⟨z, rfl⟩, rfl, hR'⟩ := q2 w υ hw
  exact jy_icmp (tg := 2617) (TC_17.row (show jtb tC_17 856 = _ from rfl)).1 rfl ⟨fun _ => k υ hR', fun h => absurd rfl h⟩
/-! 19: hasProposal -/
def tC_19 : jTb := [(929, .aload_n 1, 930, 0, 0), (930, .invokevirtual 166, 933, 0, 0), (933, .aload_n 2, 934, 0, 0), (934, .invokevirtual 170, 937, 0, 0), (937, .if_icmp .eq 1680, 940, 2617, 0), (940, .iconst 0, 941, 0, 0), (941, .ireturn, 942, 0, 0)]
theorem TC_19 : jT mLw [] [] tC_19 := jT.of (cs := []) (fun _ h => absurd h List.not_mem_nil) (fun _ h => absurd h List.not_mem_nil) (fun _ h => absurd h List.not_mem_nil) (by decide +kernel) (by decide +kernel)
theorem LC_19 {g : jG} {N : Nat} {xs : Nat → Int32} (hX : jScr g N xs) {T : lwT} {c0 s0 : Nat} (hc0 : c0 ≤ 601024) (hs0 : s0 ≤ 7293034) {i : Nat} (hi : i + 6 ≤ N) {σ : jM} (hR : xR σ) (k : ∀ υ, xR υ → jY g (zL T c0 s0) mLw 1000 2617 (LL i) [] υ) : jY g (zL T c0 s0) mLw 1000 929 (LL i) [] σ := by
  obtain ⟨p1, q1⟩ := xs_hasProposal σ hR
  refine jy_aloadn (j := 1) rfl (TC_19.row (show jtb tC_19 929 = _ from rfl)).1 ?_
  refine jy_callV (n' := 0 + 6) (mt' := mX11_hasProposal) (as := []) (r := []) (ci := 11) (a := 0) (zL_ok (by decide) hc0 hs0) TC_19 (show jtb tC_19 930 = _ from rfl) kL_166 WX11_hasProposal rfl (by decide +kernel) rfl (by decide) rfl (by simp) (CX11_hasProposal g 0 _ σ p1) (fun v τ hv => ?_)
  obtain ⟨p2, q2⟩ := q1 v τ hv
  refine jy_aloadn (j := 2) rfl (TC_19.row (show jtb tC_19 933 = _ from rfl)).1 ?_
  refine jy_callV (n' := 0 + 15) (mt' := mX12_hasProposal) (as := []) (r := v.toList ++ []) (ci := 12) (a := 322) (zL_ok (by decide) hc0 hs0) TC_19 (show jtb tC_19 934 = _ from rfl) kL_170 WX12_hasProposal rfl (by decide +kernel) rfl (by decide) rfl (opt_cat v) (CX12_hasProposal g 0 _ τ p2) (fun w υ hw => ?_)
  obtain ⟨⟨z, rfl⟩, rfl, hR'⟩ := q2 w υ hw
  exact jy_icmp (tg := 2617) (TC_19.row (show jtb tC_19 937 = _ from rfl)).1 rfl ⟨fun _ => k υ hR', fun h => absurd rfl h⟩
/-! 21: proposedValue -/
def tC_21 : jTb := [(998, .aload_n 1, 999, 0, 0), (999, .invokevirtual 174, 1002, 0, 0), (1002, .aload_n 2, 1003, 0, 0), (1003, .invokevirtual 177, 1006, 0, 0), (1006, .if_icmp .eq 1611, 1009, 2617, 0), (1009, .iconst 0, 1010, 0, 0), (1010, .ireturn, 1011, 0, 0)]
theorem TC_21 : jT mLw [] [] tC_21 := jT.of (cs := []) (fun _ h => absurd h List.not_mem_nil) (fun _ h => absurd h List.not_mem_nil) (fun _ h => absurd h List.not_mem_nil) (by decide +kernel) (by decide +kernel)
theorem LC_21 {g : jG} {N : Nat} {xs : Nat → Int32} (hX : jScr g N xs) {T : lwT} {c0 s0 : Nat} (hc0 : c0 ≤ 601024) (hs0 : s0 ≤ 7293034) {i : Nat} (hi : i + 6 ≤ N) {σ : jM} (hR : xR σ) (k : ∀ υ, xR υ → jY g (zL T c0 s0) mLw 1000 2617 (LL i) [] υ) : jY g (zL T c0 s0) mLw 1000 998 (LL i) [] σ := by
  obtain ⟨p1, q1⟩ := xs_proposedValue σ hR
  refine jy_aloadn (j := 1) rfl (TC_21.row (show jtb tC_21 998 = _ from rfl)).1 ?_
  refine jy_callV (n' := 0 + 6) (mt' := mX11_proposedValue) (as := []) (r := []) (ci := 11) (a := 0) (zL_ok (by decide) hc0 hs0) TC_21 (show jtb tC_21 999 = _ from rfl) kL_174 WX11_proposedValue rfl (by decide +kernel) rfl (by decide) rfl (by simp) (CX11_proposedValue g 0 _ σ p1) (fun v τ hv => ?_)
  obtain ⟨p2, q2⟩ := q1 v τ hv
  refine jy_aloadn (j := 2) rfl (TC_21.row (show jtb tC_21 1002 = _ from rfl)).1 ?_
  refine jy_callV (n' := 0 + 15) (mt' := mX12_proposedValue) (as := []) (r := v.toList ++ []) (ci := 12) (a := 322) (zL_ok (by decide) hc0 hs0) TC_21 (show jtb tC_21 1003 = _ from rfl) kL_177 WX12_proposedValue rfl (by decide +kernel) rfl (by decide) rfl (opt_cat v) (CX12_proposedValue g 0 _ τ p2) (fun w υ hw => ?_)
  obtain ⟨⟨z, rfl⟩, rfl, hR'⟩ := q2 w υ hw
  exact jy_icmp (tg := 2617) (TC_21.row (show jtb tC_21 1006 = _ from rfl)).1 rfl ⟨fun _ => k υ hR', fun h => absurd rfl h⟩
/-! 22: choiceCount -/
def tC_22 : jTb := [(1011, .aload_n 1, 1012, 0, 0), (1012, .invokevirtual 178, 1015, 0, 0), (1015, .aload_n 2, 1016, 0, 0), (1016, .invokevirtual 181, 1019, 0, 0), (1019, .if_icmp .eq 1598, 1022, 2617, 0), (1022, .iconst 0, 1023, 0, 0), (1023, .ireturn, 1024, 0, 0)]
theorem TC_22 : jT mLw [] [] tC_22 := jT.of (cs := []) (fun _ h => absurd h List.not_mem_nil) (fun _ h => absurd h List.not_mem_nil) (fun _ h => absurd h List.not_mem_nil) (by decide +kernel) (by decide +kernel)
theorem LC_22 {g : jG} {N : Nat} {xs : Nat → Int32} (hX : jScr g N xs) {T : lwT} {c0 s0 : Nat} (hc0 : c0 ≤ 601024) (hs0 : s0 ≤ 7293034) {i : Nat} (hi : i + 6 ≤ N) {σ : jM} (hR : xR σ) (k : ∀ υ, xR υ → jY g (zL T c0 s0) mLw 1000 2617 (LL i) [] υ) : jY g (zL T c0 s0) mLw 1000 1011 (LL i) [] σ := by
  obtain ⟨p1, q1⟩ := xs_choiceCount σ hR
  refine jy_aloadn (j := 1) rfl (TC_22.row (show jtb tC_22 1011 = _ from rfl)).1 ?_
  refine jy_callV (n' := 0 + 6) (mt' := mX11_choiceCount) (as := []) (r := []) (ci := 11) (a := 0) (zL_ok (by decide) hc0 hs0) TC_22 (show jtb tC_22 1012 = _ from rfl) kL_178 WX11_choiceCount rfl (by decide +kernel) rfl (by decide) rfl (by simp) (CX11_choiceCount g 0 _ σ p1) (fun v τ hv => ?_)
  obtain ⟨p2, q2⟩ := q1 v τ hv
  refine jy_aloadn (j := 2) rfl (TC_22.row (show jtb tC_22 1015 = _ from rfl)).1 ?_
  refine jy_callV (n' := 0 + 15) (mt' := mX12_choiceCount) (as := []) (r := v.toList ++ []) (ci := 12) (a := 322) (zL_ok (by decide) hc0 hs0) TC_22 (show jtb tC_22 1016 = _ from rfl) kL_181 WX12_choiceCount rfl (by decide +kernel) rfl (by decide) rfl (opt_cat v) (CX12_choiceCount g 0 _ τ p2) (fun w υ hw => ?_)
  obtain ⟨⟨z, rfl⟩, rfl, hR'⟩ := q2 w υ hw
  exact jy_icmp (tg := 2617) (TC_22.row (show jtb tC_22 1019 = _ from rfl)).1 rfl ⟨fun _ => k υ hR', fun h => absurd rfl h⟩
/-! 25: pricePart -/
def tC_25 : jTb := [(1164, .aload_n 1, 1165, 0, 0), (1165, .invokevirtual 189, 1168, 0, 0), (1168, .aload_n 2, 1169, 0, 0), (1169, .invokevirtual 192, 1172, 0, 0), (1172, .if_icmp .eq 1445, 1175, 2617, 0), (1175, .iconst 0, 1176, 0, 0), (1176, .ireturn, 1177, 0, 0)]
theorem TC_25 : jT mLw [] [] tC_25 := jT.of (cs := []) (fun _ h => absurd h List.not_mem_nil) (fun _ h => absurd h List.not_mem_nil) (fun _ h => absurd h List.not_mem_nil) (by decide +kernel) (by decide +kernel)
theorem LC_25 {g : jG} {N : Nat} {xs : Nat → Int32} (hX : jScr g N xs) {T : lwT} {c0 s0 : Nat} (hc0 : c0 ≤ 601024) (hs0 : s0 ≤ 7293034) {i : Nat} (hi : i + 6 ≤ N) {σ : jM} (hR : xR σ) (k : ∀ υ, xR υ → jY g (zL T c0 s0) mLw 1000 2617 (LL i) [] υ) : jY g (zL T c0 s0) mLw 1000 1164 (LL i) [] σ := by
  obtain ⟨p1, q1⟩ := xs_pricePart σ hR
  refine jy_aloadn (j := 1) rfl (TC_25.row (show jtb tC_25 1164 = _ from rfl)).1 ?_
  refine jy_callV (n' := 0 + 1) (mt' := mX11_pricePart) (as := []) (r := []) (ci := 11) (a := 0) (zL_ok (by decide) hc0 hs0) TC_25 (show jtb tC_25 1165 = _ from rfl) kL_189 WX11_pricePart rfl (by decide +kernel) rfl (by decide) rfl (by simp) (CX11_pricePart g 0 _ σ p1) (fun v τ hv => ?_)
  obtain ⟨p2, q2⟩ := q1 v τ hv
  refine jy_aloadn (j := 2) rfl (TC_25.row (show jtb tC_25 1168 = _ from rfl)).1 ?_
  refine jy_callV (n' := 0 + 1) (mt' := mX12_pricePart) (as := []) (r := v.toList ++ []) (ci := 12) (a := 322) (zL_ok (by decide) hc0 hs0) TC_25 (show jtb tC_25 1169 = _ from rfl) kL_192 WX12_pricePart rfl (by decide +kernel) rfl (by decide) rfl (opt_cat v) (CX12_pricePart g 0 _ τ p2) (fun w υ hw => ?_)
  obtain ⟨⟨z, rfl⟩, rfl, hR'⟩ := q2 w υ hw
  exact jy_icmp (tg := 2617) (TC_25.row (show jtb tC_25 1172 = _ from rfl)).1 rfl ⟨fun _ => k υ hR', fun h => absurd rfl h⟩
/-! 29: leastSurplus -/
def tC_29 : jTb := [(1345, .aload_n 1, 1346, 0, 0), (1346, .invokevirtual 202, 1349, 0, 0), (1349, .aload_n 2, 1350, 0, 0), (1350, .invokevirtual 205, 1353, 0, 0), (1353, .if_icmp .eq 1264, 1356, 2617, 0), (1356, .iconst 0, 1357, 0, 0), (1357, .ireturn, 1358, 0, 0)]
theorem TC_29 : jT mLw [] [] tC_29 := jT.of (cs := []) (fun _ h => absurd h List.not_mem_nil) (fun _ h => absurd h List.not_mem_nil) (fun _ h => absurd h List.not_mem_nil) (by decide +kernel) (by decide +kernel)
theorem LC_29 {g : jG} {N : Nat} {xs : Nat → Int32} (hX : jScr g N xs) {T : lwT} {c0 s0 : Nat} (hc0 : c0 ≤ 601024) (hs0 : s0 ≤ 7293034) {i : Nat} (hi : i + 6 ≤ N) {σ : jM} (hR : xR σ) (k : ∀ υ, xR υ → jY g (zL T c0 s0) mLw 1000 2617 (LL i) [] υ) : jY g (zL T c0 s0) mLw 1000 1345 (LL i) [] σ := by
  obtain ⟨p1, q1⟩ := xs_leastSurplus σ hR
  refine jy_aloadn (j := 1) rfl (TC_29.row (show jtb tC_29 1345 = _ from rfl)).1 ?_
  refine jy_callV (n' := 0 + 6) (mt' := mX11_leastSurplus) (as := []) (r := []) (ci := 11) (a := 0) (zL_ok (by decide) hc0 hs0) TC_29 (show jtb tC_29 1346 = _ from rfl) kL_202 WX11_leastSurplus rfl (by decide +kernel) rfl (by decide) rfl (by simp) (CX11_leastSurplus g 0 _ σ p1) (fun v τ hv => ?_)
  obtain ⟨p2, q2⟩ := q1 v τ hv
  refine jy_aloadn (j := 2) rfl (TC_29.row (show jtb tC_29 1349 = _ from rfl)).1 ?_
  refine jy_callV (n' := 0 + 16) (mt' := mX12_leastSurplus) (as := []) (r := v.toList ++ []) (ci := 12) (a := 322) (zL_ok (by decide) hc0 hs0) TC_29 (show jtb tC_29 1350 = _ from rfl) kL_205 WX12_leastSurplus rfl (by decide +kernel) rfl (by decide) rfl (opt_cat v) (CX12_leastSurplus g 0 _ τ p2) (fun w υ hw => ?_)
  obtain ⟨⟨z, rfl⟩, rfl, hR'⟩ := q2 w υ hw
  exact jy_icmp (tg := 2617) (TC_29.row (show jtb tC_29 1353 = _ from rfl)).1 rfl ⟨fun _ => k υ hR', fun h => absurd rfl h⟩
/-! 30: affordable -/
def tC_30 : jTb := [(1358, .aload_n 1, 1359, 0, 0), (1359, .aload_n 0, 1360, 0, 0), (1360, .iload 5, 1362, 0, 0), (1362, .iconst 1, 1363, 0, 1), (1363, .iadd, 1364, 0, 0), (1364, .iaload, 1365, 0, 0), (1365, .invokevirtual 206, 1368, 0, 0), (1368, .aload_n 2, 1369, 0, 0), (1369, .aload_n 0, 1370, 0, 0), (1370, .iload 5, 1372, 0, 0), (1372, .iconst 1, 1373, 0, 1), (1373, .iadd, 1374, 0, 0), (1374, .iaload, 1375, 0, 0), (1375, .invokevirtual 209, 1378, 0, 0), (1378, .if_icmp .eq 1239, 1381, 2617, 0), (1381, .iconst 0, 1382, 0, 0), (1382, .ireturn, 1383, 0, 0)]
theorem TC_30 : jT mLw [] [] tC_30 := jT.of (cs := []) (fun _ h => absurd h List.not_mem_nil) (fun _ h => absurd h List.not_mem_nil) (fun _ h => absurd h List.not_mem_nil) (by decide +kernel) (by decide +kernel)
theorem LC_30 {g : jG} {N : Nat} {xs : Nat → Int32} (hX : jScr g N xs) {T : lwT} {c0 s0 : Nat} (hc0 : c0 ≤ 601024) (hs0 : s0 ≤ 7293034) {i : Nat} (hi : i + 6 ≤ N) {σ : jM} (hR : xR σ) (k : ∀ υ, xR υ → jY g (zL T c0 s0) mLw 1000 2617 (LL i) [] υ) : jY g (zL T c0 s0) mLw 1000 1358 (LL i) [] σ := by
  obtain ⟨p1, q1⟩ := xs_affordable (xs (i + 1)) σ hR
  refine jy_aloadn (j := 1) rfl (TC_30.row (show jtb tC_30 1358 = _ from rfl)).1 ?_
  refine jy_S hX 1 rfl rfl hi (by decide) (TC_30.row (show jtb tC_30 1359 = _ from rfl)).1 (TC_30.row (show jtb tC_30 1360 = _ from rfl)).1 (TC_30.row (show jtb tC_30 1362 = _ from rfl)).1 (TC_30.row (show jtb tC_30 1363 = _ from rfl)).1 (TC_30.row (show jtb tC_30 1364 = _ from rfl)).1 ?_
  refine jy_callV (n' := 0 + 6) (mt' := mX11_affordable) (as := [.int (xs (i + 1))]) (r := []) (ci := 11) (a := 0) (zL_ok (by decide) hc0 hs0) TC_30 (show jtb tC_30 1365 = _ from rfl) kL_206 WX11_affordable rfl (by decide +kernel) rfl (by decide) rfl (by simp) (CX11_affordable g 0 _ σ p1) (fun v τ hv => ?_)
  obtain ⟨p2, q2⟩ := q1 v τ hv
  refine jy_aloadn (j := 2) rfl (TC_30.row (show jtb tC_30 1368 = _ from rfl)).1 ?_
  refine jy_S hX 1 rfl rfl hi (by decide) (TC_30.row (show jtb tC_30 1369 = _ from rfl)).1 (TC_30.row (show jtb tC_30 1370 = _ from rfl)).1 (TC_30.row (show jtb tC_30 1372 = _ from rfl)).1 (TC_30.row (show jtb tC_30 1373 = _ from rfl)).1 (TC_30.row (show jtb tC_30 1374 = _ from rfl)).1 ?_
  refine jy_callV (n' := 0 + 16) (mt' := mX12_affordable) (as := [.int (xs (i + 1))]) (r := v.toList ++ []) (ci := 12) (a := 322) (zL_ok (by decide) hc0 hs0) TC_30 (show jtb tC_30 1375 = _ from rfl) kL_209 WX12_affordable rfl (by decide +kernel) rfl (by decide) rfl (opt_cat v) (CX12_affordable g 0 _ τ p2) (fun w υ hw => ?_)
  obtain ⟨⟨z, rfl⟩, rfl, hR'⟩ := q2 w υ hw
  exact jy_icmp (tg := 2617) (TC_30.row (show jtb tC_30 1378 = _ from rfl)).1 rfl ⟨fun _ => k υ hR', fun h => absurd rfl h⟩
/-! 31: leastShare -/
def tC_31 : jTb := [(1383, .aload_n 1, 1384, 0, 0), (1384, .aload_n 0, 1385, 0, 0), (1385, .iload 5, 1387, 0, 0), (1387, .iconst 1, 1388, 0, 1), (1388, .iadd, 1389, 0, 0), (1389, .iaload, 1390, 0, 0), (1390, .invokevirtual 210, 1393, 0, 0), (1393, .aload_n 2, 1394, 0, 0), (1394, .aload_n 0, 1395, 0, 0), (1395, .iload 5, 1397, 0, 0), (1397, .iconst 1, 1398, 0, 1), (1398, .iadd, 1399, 0, 0), (1399, .iaload, 1400, 0, 0), (1400, .invokevirtual 213, 1403, 0, 0), (1403, .if_icmp .eq 1214, 1406, 2617, 0), (1406, .iconst 0, 1407, 0, 0), (1407, .ireturn, 1408, 0, 0)]
theorem TC_31 : jT mLw [] [] tC_31 := jT.of (cs := []) (fun _ h => absurd h List.not_mem_nil) (fun _ h => absurd h List.not_mem_nil) (fun _ h => absurd h List.not_mem_nil) (by decide +kernel) (by decide +kernel)
theorem LC_31 {g : jG} {N : Nat} {xs : Nat → Int32} (hX : jScr g N xs) {T : lwT} {c0 s0 : Nat} (hc0 : c0 ≤ 601024) (hs0 : s0 ≤ 7293034) {i : Nat} (hi : i + 6 ≤ N) {σ : jM} (hR : xR σ) (k : ∀ υ, xR υ → jY g (zL T c0 s0) mLw 1000 2617 (LL i) [] υ) : jY g (zL T c0 s0) mLw 1000 1383 (LL i) [] σ := by
  obtain ⟨p1, q1⟩ := xs_leastShare (xs (i + 1)) σ hR
  refine jy_aloadn (j := 1) rfl (TC_31.row (show jtb tC_31 1383 = _ from rfl)).1 ?_
  refine jy_S hX 1 rfl rfl hi (by decide) (TC_31.row (show jtb tC_31 1384 = _ from rfl)).1 (TC_31.row (show jtb tC_31 1385 = _ from rfl)).1 (TC_31.row (show jtb tC_31 1387 = _ from rfl)).1 (TC_31.row (show jtb tC_31 1388 = _ from rfl)).1 (TC_31.row (show jtb tC_31 1389 = _ from rfl)).1 ?_
  refine jy_callV (n' := 0 + 6) (mt' := mX11_leastShare) (as := [.int (xs (i + 1))]) (r := []) (ci := 11) (a := 0) (zL_ok (by decide) hc0 hs0) TC_31 (show jtb tC_31 1390 = _ from rfl) kL_210 WX11_leastShare rfl (by decide +kernel) rfl (by decide) rfl (by simp) (CX11_leastShare g 0 _ σ p1) (fun v τ hv => ?_)
  obtain ⟨p2, q2⟩ := q1 v τ hv
  refine jy_aloadn (j := 2) rfl (TC_31.row (show jtb tC_31 1393 = _ from rfl)).1 ?_
  refine jy_S hX 1 rfl rfl hi (by decide) (TC_31.row (show jtb tC_31 1394 = _ from rfl)).1 (TC_31.row (show jtb tC_31 1395 = _ from rfl)).1 (TC_31.row (show jtb tC_31 1397 = _ from rfl)).1 (TC_31.row (show jtb tC_31 1398 = _ from rfl)).1 (TC_31.row (show jtb tC_31 1399 = _ from rfl)).1 ?_
  refine jy_callV (n' := 0 + 15) (mt' := mX12_leastShare) (as := [.int (xs (i + 1))]) (r := v.toList ++ []) (ci := 12) (a := 322) (zL_ok (by decide) hc0 hs0) TC_31 (show jtb tC_31 1400 = _ from rfl) kL_213 WX12_leastShare rfl (by decide +kernel) rfl (by decide) rfl (opt_cat v) (CX12_leastShare g 0 _ τ p2) (fun w υ hw => ?_)
  obtain ⟨⟨z, rfl⟩, rfl, hR'⟩ := q2 w υ hw
  exact jy_icmp (tg := 2617) (TC_31.row (show jtb tC_31 1403 = _ from rfl)).1 rfl ⟨fun _ => k υ hR', fun h => absurd rfl h⟩
/-! 36: isCurrent -/
def tC_36 : jTb := [(1644, .aload_n 1, 1645, 0, 0), (1645, .invokevirtual 226, 1648, 0, 0), (1648, .aload_n 2, 1649, 0, 0), (1649, .invokevirtual 229, 1652, 0, 0), (1652, .if_icmp .eq 965, 1655, 2617, 0), (1655, .iconst 0, 1656, 0, 0), (1656, .ireturn, 1657, 0, 0)]
theorem TC_36 : jT mLw [] [] tC_36 := jT.of (cs := []) (fun _ h => absurd h List.not_mem_nil) (fun _ h => absurd h List.not_mem_nil) (fun _ h => absurd h List.not_mem_nil) (by decide +kernel) (by decide +kernel)
theorem LC_36 {g : jG} {N : Nat} {xs : Nat → Int32} (hX : jScr g N xs) {T : lwT} {c0 s0 : Nat} (hc0 : c0 ≤ 601024) (hs0 : s0 ≤ 7293034) {i : Nat} (hi : i + 6 ≤ N) {σ : jM} (hR : xR σ) (k : ∀ υ, xR υ → jY g (zL T c0 s0) mLw 1000 2617 (LL i) [] υ) : jY g (zL T c0 s0) mLw 1000 1644 (LL i) [] σ := by
  obtain ⟨p1, q1⟩ := xs_isCurrent σ hR
  refine jy_aloadn (j := 1) rfl (TC_36.row (show jtb tC_36 1644 = _ from rfl)).1 ?_
  refine jy_callV (n' := 0 + 6) (mt' := mX11_isCurrent) (as := []) (r := []) (ci := 11) (a := 0) (zL_ok (by decide) hc0 hs0) TC_36 (show jtb tC_36 1645 = _ from rfl) kL_226 WX11_isCurrent rfl (by decide +kernel) rfl (by decide) rfl (by simp) (CX11_isCurrent g 0 _ σ p1) (fun v τ hv => ?_)
  obtain ⟨p2, q2⟩ := q1 v τ hv
  refine jy_aloadn (j := 2) rfl (TC_36.row (show jtb tC_36 1648 = _ from rfl)).1 ?_
  refine jy_callV (n' := 0 + 16) (mt' := mX12_isCurrent) (as := []) (r := v.toList ++ []) (ci := 12) (a := 322) (zL_ok (by decide) hc0 hs0) TC_36 (show jtb tC_36 1649 = _ from rfl) kL_229 WX12_isCurrent rfl (by decide +kernel) rfl (by decide) rfl (opt_cat v) (CX12_isCurrent g 0 _ τ p2) (fun w υ hw => ?_)
  obtain ⟨⟨z, rfl⟩, rfl, hR'⟩ := q2 w υ hw
  exact jy_icmp (tg := 2617) (TC_36.row (show jtb tC_36 1652 = _ from rfl)).1 rfl ⟨fun _ => k υ hR', fun h => absurd rfl h⟩
/-! 38: totalEnvy -/
def tC_38 : jTb := [(1725, .aload_n 1, 1726, 0, 0), (1726, .invokevirtual 233, 1729, 0, 0), (1729, .aload_n 2, 1730, 0, 0), (1730, .invokevirtual 236, 1733, 0, 0), (1733, .if_icmp .eq 884, 1736, 2617, 0), (1736, .iconst 0, 1737, 0, 0), (1737, .ireturn, 1738, 0, 0)]
theorem TC_38 : jT mLw [] [] tC_38 := jT.of (cs := []) (fun _ h => absurd h List.not_mem_nil) (fun _ h => absurd h List.not_mem_nil) (fun _ h => absurd h List.not_mem_nil) (by decide +kernel) (by decide +kernel)
theorem LC_38 {g : jG} {N : Nat} {xs : Nat → Int32} (hX : jScr g N xs) {T : lwT} {c0 s0 : Nat} (hc0 : c0 ≤ 601024) (hs0 : s0 ≤ 7293034) {i : Nat} (hi : i + 6 ≤ N) {σ : jM} (hR : xR σ) (k : ∀ υ, xR υ → jY g (zL T c0 s0) mLw 1000 2617 (LL i) [] υ) : jY g (zL T c0 s0) mLw 1000 1725 (LL i) [] σ := by
  obtain ⟨p1, q1⟩ := xs_totalEnvy σ hR
  refine jy_aloadn (j := 1) rfl (TC_38.row (show jtb tC_38 1725 = _ from rfl)).1 ?_
  refine jy_callV (n' := 0 + 5) (mt' := mX11_totalEnvy) (as := []) (r := []) (ci := 11) (a := 0) (zL_ok (by decide) hc0 hs0) TC_38 (show jtb tC_38 1726 = _ from rfl) kL_233 WX11_totalEnvy rfl (by decide +kernel) rfl (by decide) rfl (by simp) (CX11_totalEnvy g 0 _ σ p1) (fun v τ hv => ?_)
  obtain ⟨p2, q2⟩ := q1 v τ hv
  refine jy_aloadn (j := 2) rfl (TC_38.row (show jtb tC_38 1729 = _ from rfl)).1 ?_
  refine jy_callV (n' := 0 + 5) (mt' := mX12_totalEnvy) (as := []) (r := v.toList ++ []) (ci := 12) (a := 322) (zL_ok (by decide) hc0 hs0) TC_38 (show jtb tC_38 1730 = _ from rfl) kL_236 WX12_totalEnvy rfl (by decide +kernel) rfl (by decide) rfl (opt_cat v) (CX12_totalEnvy g 0 _ τ p2) (fun w υ hw => ?_)
  obtain ⟨⟨z, rfl⟩, rfl, hR'⟩ := q2 w υ hw
  exact jy_icmp (tg := 2617) (TC_38.row (show jtb tC_38 1733 = _ from rfl)).1 rfl ⟨fun _ => k υ hR', fun h => absurd rfl h⟩
/-! 40: mostEnvied -/
def tC_40 : jTb := [(1794, .aload_n 1, 1795, 0, 0), (1795, .invokevirtual 240, 1798, 0, 0), (1798, .aload_n 2, 1799, 0, 0), (1799, .invokevirtual 243, 1802, 0, 0), (1802, .if_icmp .eq 815, 1805, 2617, 0), (1805, .iconst 0, 1806, 0, 0), (1806, .ireturn, 1807, 0, 0)]
theorem TC_40 : jT mLw [] [] tC_40 := jT.of (cs := []) (fun _ h => absurd h List.not_mem_nil) (fun _ h => absurd h List.not_mem_nil) (fun _ h => absurd h List.not_mem_nil) (by decide +kernel) (by decide +kernel)
theorem LC_40 {g : jG} {N : Nat} {xs : Nat → Int32} (hX : jScr g N xs) {T : lwT} {c0 s0 : Nat} (hc0 : c0 ≤ 601024) (hs0 : s0 ≤ 7293034) {i : Nat} (hi : i + 6 ≤ N) {σ : jM} (hR : xR σ) (k : ∀ υ, xR υ → jY g (zL T c0 s0) mLw 1000 2617 (LL i) [] υ) : jY g (zL T c0 s0) mLw 1000 1794 (LL i) [] σ := by
  obtain ⟨p1, q1⟩ := xs_mostEnvied σ hR
  refine jy_aloadn (j := 1) rfl (TC_40.row (show jtb tC_40 1794 = _ from rfl)).1 ?_
  refine jy_callV (n' := 0 + 5) (mt' := mX11_mostEnvied) (as := []) (r := []) (ci := 11) (a := 0) (zL_ok (by decide) hc0 hs0) TC_40 (show jtb tC_40 1795 = _ from rfl) kL_240 WX11_mostEnvied rfl (by decide +kernel) rfl (by decide) rfl (by simp) (CX11_mostEnvied g 0 _ σ p1) (fun v τ hv => ?_)
  obtain ⟨p2, q2⟩ := q1 v τ hv
  refine jy_aloadn (j := 2) rfl (TC_40.row (show jtb tC_40 1798 = _ from rfl)).1 ?_
  refine jy_callV (n' := 0 + 5) (mt' := mX12_mostEnvied) (as := []) (r := v.toList ++ []) (ci := 12) (a := 322) (zL_ok (by decide) hc0 hs0) TC_40 (show jtb tC_40 1799 = _ from rfl) kL_243 WX12_mostEnvied rfl (by decide +kernel) rfl (by decide) rfl (opt_cat v) (CX12_mostEnvied g 0 _ τ p2) (fun w υ hw => ?_)
  obtain ⟨⟨z, rfl⟩, rfl, hR'⟩ := q2 w υ hw
  exact jy_icmp (tg := 2617) (TC_40.row (show jtb tC_40 1802 = _ from rfl)).1 rfl ⟨fun _ => k υ hR', fun h => absurd rfl h⟩
/-! 42: missing -/
def tC_42 : jTb := [(1882, .aload_n 1, 1883, 0, 0), (1883, .invokevirtual 247, 1886, 0, 0), (1886, .aload_n 2, 1887, 0, 0), (1887, .invokevirtual 250, 1890, 0, 0), (1890, .if_icmp .eq 727, 1893, 2617, 0), (1893, .iconst 0, 1894, 0, 0), (1894, .ireturn, 1895, 0, 0)]
theorem TC_42 : jT mLw [] [] tC_42 := jT.of (cs := []) (fun _ h => absurd h List.not_mem_nil) (fun _ h => absurd h List.not_mem_nil) (fun _ h => absurd h List.not_mem_nil) (by decide +kernel) (by decide +kernel)
theorem LC_42 {g : jG} {N : Nat} {xs : Nat → Int32} (hX : jScr g N xs) {T : lwT} {c0 s0 : Nat} (hc0 : c0 ≤ 601024) (hs0 : s0 ≤ 7293034) {i : Nat} (hi : i + 6 ≤ N) {σ : jM} (hR : xR σ) (k : ∀ υ, xR υ → jY g (zL T c0 s0) mLw 1000 2617 (LL i) [] υ) : jY g (zL T c0 s0) mLw 1000 1882 (LL i) [] σ := by
  obtain ⟨p1, q1⟩ := xs_missing σ hR
  refine jy_aloadn (j := 1) rfl (TC_42.row (show jtb tC_42 1882 = _ from rfl)).1 ?_
  refine jy_callV (n' := 0 + 1) (mt' := mX11_missing) (as := []) (r := []) (ci := 11) (a := 0) (zL_ok (by decide) hc0 hs0) TC_42 (show jtb tC_42 1883 = _ from rfl) kL_247 WX11_missing rfl (by decide +kernel) rfl (by decide) rfl (by simp) (CX11_missing g 0 _ σ p1) (fun v τ hv => ?_)
  obtain ⟨p2, q2⟩ := q1 v τ hv
  refine jy_aloadn (j := 2) rfl (TC_42.row (show jtb tC_42 1886 = _ from rfl)).1 ?_
  refine jy_callV (n' := 0 + 3) (mt' := mX12_missing) (as := []) (r := v.toList ++ []) (ci := 12) (a := 322) (zL_ok (by decide) hc0 hs0) TC_42 (show jtb tC_42 1887 = _ from rfl) kL_250 WX12_missing rfl (by decide +kernel) rfl (by decide) rfl (opt_cat v) (CX12_missing g 0 _ τ p2) (fun w υ hw => ?_)
  obtain ⟨⟨z, rfl⟩, rfl, hR'⟩ := q2 w υ hw
  exact jy_icmp (tg := 2617) (TC_42.row (show jtb tC_42 1890 = _ from rfl)).1 rfl ⟨fun _ => k υ hR', fun h => absurd rfl h⟩
/-! 45: arrears -/
def tC_45 : jTb := [(2040, .aload_n 1, 2041, 0, 0), (2041, .invokevirtual 258, 2044, 0, 0), (2044, .aload_n 2, 2045, 0, 0), (2045, .invokevirtual 261, 2048, 0, 0), (2048, .if_icmp .eq 569, 2051, 2617, 0), (2051, .iconst 0, 2052, 0, 0), (2052, .ireturn, 2053, 0, 0)]
theorem TC_45 : jT mLw [] [] tC_45 := jT.of (cs := []) (fun _ h => absurd h List.not_mem_nil) (fun _ h => absurd h List.not_mem_nil) (fun _ h => absurd h List.not_mem_nil) (by decide +kernel) (by decide +kernel)
theorem LC_45 {g : jG} {N : Nat} {xs : Nat → Int32} (hX : jScr g N xs) {T : lwT} {c0 s0 : Nat} (hc0 : c0 ≤ 601024) (hs0 : s0 ≤ 7293034) {i : Nat} (hi : i + 6 ≤ N) {σ : jM} (hR : xR σ) (k : ∀ υ, xR υ → jY g (zL T c0 s0) mLw 1000 2617 (LL i) [] υ) : jY g (zL T c0 s0) mLw 1000 2040 (LL i) [] σ := by
  obtain ⟨p1, q1⟩ := xs_arrears σ hR
  refine jy_aloadn (j := 1) rfl (TC_45.row (show jtb tC_45 2040 = _ from rfl)).1 ?_
  refine jy_callV (n' := 0 + 0) (mt' := mX11_arrears) (as := []) (r := []) (ci := 11) (a := 0) (zL_ok (by decide) hc0 hs0) TC_45 (show jtb tC_45 2041 = _ from rfl) kL_258 WX11_arrears rfl (by decide +kernel) rfl (by decide) rfl (by simp) (CX11_arrears g 0 _ σ p1) (fun v τ hv => ?_)
  obtain ⟨p2, q2⟩ := q1 v τ hv
  refine jy_aloadn (j := 2) rfl (TC_45.row (show jtb tC_45 2044 = _ from rfl)).1 ?_
  refine jy_callV (n' := 0 + 0) (mt' := mX12_arrears) (as := []) (r := v.toList ++ []) (ci := 12) (a := 322) (zL_ok (by decide) hc0 hs0) TC_45 (show jtb tC_45 2045 = _ from rfl) kL_261 WX12_arrears rfl (by decide +kernel) rfl (by decide) rfl (opt_cat v) (CX12_arrears g 0 _ τ p2) (fun w υ hw => ?_)
  obtain ⟨⟨z, rfl⟩, rfl, hR'⟩ := q2 w υ hw
  exact jy_icmp (tg := 2617) (TC_45.row (show jtb tC_45 2048 = _ from rfl)).1 rfl ⟨fun _ => k υ hR', fun h => absurd rfl h⟩
/-! 47: transferCount -/
def tC_47 : jTb := [(2109, .aload_n 1, 2110, 0, 0), (2110, .invokevirtual 265, 2113, 0, 0), (2113, .aload_n 2, 2114, 0, 0), (2114, .invokevirtual 268, 2117, 0, 0), (2117, .if_icmp .eq 500, 2120, 2617, 0), (2120, .iconst 0, 2121, 0, 0), (2121, .ireturn, 2122, 0, 0)]
theorem TC_47 : jT mLw [] [] tC_47 := jT.of (cs := []) (fun _ h => absurd h List.not_mem_nil) (fun _ h => absurd h List.not_mem_nil) (fun _ h => absurd h List.not_mem_nil) (by decide +kernel) (by decide +kernel)
theorem LC_47 {g : jG} {N : Nat} {xs : Nat → Int32} (hX : jScr g N xs) {T : lwT} {c0 s0 : Nat} (hc0 : c0 ≤ 601024) (hs0 : s0 ≤ 7293034) {i : Nat} (hi : i + 6 ≤ N) {σ : jM} (hR : xR σ) (k : ∀ υ, xR υ → jY g (zL T c0 s0) mLw 1000 2617 (LL i) [] υ) : jY g (zL T c0 s0) mLw 1000 2109 (LL i) [] σ := by
  obtain ⟨p1, q1⟩ := xs_transferCount σ hR
  refine jy_aloadn (j := 1) rfl (TC_47.row (show jtb tC_47 2109 = _ from rfl)).1 ?_
  refine jy_callV (n' := 0 + 4) (mt' := mX11_transferCount) (as := []) (r := []) (ci := 11) (a := 0) (zL_ok (by decide) hc0 hs0) TC_47 (show jtb tC_47 2110 = _ from rfl) kL_265 WX11_transferCount rfl (by decide +kernel) rfl (by decide) rfl (by simp) (CX11_transferCount g 0 _ σ p1) (fun v τ hv => ?_)
  obtain ⟨p2, q2⟩ := q1 v τ hv
  refine jy_aloadn (j := 2) rfl (TC_47.row (show jtb tC_47 2113 = _ from rfl)).1 ?_
  refine jy_callV (n' := 0 + 5) (mt' := mX12_transferCount) (as := []) (r := v.toList ++ []) (ci := 12) (a := 322) (zL_ok (by decide) hc0 hs0) TC_47 (show jtb tC_47 2114 = _ from rfl) kL_268 WX12_transferCount rfl (by decide +kernel) rfl (by decide) rfl (opt_cat v) (CX12_transferCount g 0 _ τ p2) (fun w υ hw => ?_)
  obtain ⟨⟨z, rfl⟩, rfl, hR'⟩ := q2 w υ hw
  exact jy_icmp (tg := 2617) (TC_47.row (show jtb tC_47 2117 = _ from rfl)).1 rfl ⟨fun _ => k υ hR', fun h => absurd rfl h⟩
/-! 49: moveIn -/
def tC_49 : jTb := [(2190, .aload_n 1, 2191, 0, 0), (2191, .aload_n 0, 2192, 0, 0), (2192, .iload 5, 2194, 0, 0), (2194, .iconst 1, 2195, 0, 1), (2195, .iadd, 2196, 0, 0), (2196, .iaload, 2197, 0, 0), (2197, .invokevirtual 272, 2200, 0, 0), (2200, .aload_n 2, 2201, 0, 0), (2201, .aload_n 0, 2202, 0, 0), (2202, .iload 5, 2204, 0, 0), (2204, .iconst 1, 2205, 0, 1), (2205, .iadd, 2206, 0, 0), (2206, .iaload, 2207, 0, 0), (2207, .invokevirtual 275, 2210, 0, 0), (2210, .if_icmp .eq 407, 2213, 2617, 0), (2213, .iconst 0, 2214, 0, 0), (2214, .ireturn, 2215, 0, 0)]
theorem TC_49 : jT mLw [] [] tC_49 := jT.of (cs := []) (fun _ h => absurd h List.not_mem_nil) (fun _ h => absurd h List.not_mem_nil) (fun _ h => absurd h List.not_mem_nil) (by decide +kernel) (by decide +kernel)
theorem LC_49 {g : jG} {N : Nat} {xs : Nat → Int32} (hX : jScr g N xs) {T : lwT} {c0 s0 : Nat} (hc0 : c0 ≤ 601024) (hs0 : s0 ≤ 7293034) {i : Nat} (hi : i + 6 ≤ N) {σ : jM} (hR : xR σ) (k : ∀ υ, xR υ → jY g (zL T c0 s0) mLw 1000 2617 (LL i) [] υ) : jY g (zL T c0 s0) mLw 1000 2190 (LL i) [] σ := by
  obtain ⟨p1, q1⟩ := xs_moveIn (xs (i + 1)) σ hR
  refine jy_aloadn (j := 1) rfl (TC_49.row (show jtb tC_49 2190 = _ from rfl)).1 ?_
  refine jy_S hX 1 rfl rfl hi (by decide) (TC_49.row (show jtb tC_49 2191 = _ from rfl)).1 (TC_49.row (show jtb tC_49 2192 = _ from rfl)).1 (TC_49.row (show jtb tC_49 2194 = _ from rfl)).1 (TC_49.row (show jtb tC_49 2195 = _ from rfl)).1 (TC_49.row (show jtb tC_49 2196 = _ from rfl)).1 ?_
  refine jy_callV (n' := 0 + 4) (mt' := mX11_moveIn) (as := [.int (xs (i + 1))]) (r := []) (ci := 11) (a := 0) (zL_ok (by decide) hc0 hs0) TC_49 (show jtb tC_49 2197 = _ from rfl) kL_272 WX11_moveIn rfl (by decide +kernel) rfl (by decide) rfl (by simp) (CX11_moveIn g 0 _ σ p1) (fun v τ hv => ?_)
  obtain ⟨p2, q2⟩ := q1 v τ hv
  refine jy_aloadn (j := 2) rfl (TC_49.row (show jtb tC_49 2200 = _ from rfl)).1 ?_
  refine jy_S hX 1 rfl rfl hi (by decide) (TC_49.row (show jtb tC_49 2201 = _ from rfl)).1 (TC_49.row (show jtb tC_49 2202 = _ from rfl)).1 (TC_49.row (show jtb tC_49 2204 = _ from rfl)).1 (TC_49.row (show jtb tC_49 2205 = _ from rfl)).1 (TC_49.row (show jtb tC_49 2206 = _ from rfl)).1 ?_
  refine jy_callV (n' := 0 + 4) (mt' := mX12_moveIn) (as := [.int (xs (i + 1))]) (r := v.toList ++ []) (ci := 12) (a := 322) (zL_ok (by decide) hc0 hs0) TC_49 (show jtb tC_49 2207 = _ from rfl) kL_275 WX12_moveIn rfl (by decide +kernel) rfl (by decide) rfl (opt_cat v) (CX12_moveIn g 0 _ τ p2) (fun w υ hw => ?_)
  obtain ⟨⟨z, rfl⟩, rfl, hR'⟩ := q2 w υ hw
  exact jy_icmp (tg := 2617) (TC_49.row (show jtb tC_49 2210 = _ from rfl)).1 rfl ⟨fun _ => k υ hR', fun h => absurd rfl h⟩
/-! 50: moveOut -/
def tC_50 : jTb := [(2215, .aload_n 1, 2216, 0, 0), (2216, .aload_n 0, 2217, 0, 0), (2217, .iload 5, 2219, 0, 0), (2219, .iconst 1, 2220, 0, 1), (2220, .iadd, 2221, 0, 0), (2221, .iaload, 2222, 0, 0), (2222, .invokevirtual 276, 2225, 0, 0), (2225, .aload_n 2, 2226, 0, 0), (2226, .aload_n 0, 2227, 0, 0), (2227, .iload 5, 2229, 0, 0), (2229, .iconst 1, 2230, 0, 1), (2230, .iadd, 2231, 0, 0), (2231, .iaload, 2232, 0, 0), (2232, .invokevirtual 279, 2235, 0, 0), (2235, .if_icmp .eq 382, 2238, 2617, 0), (2238, .iconst 0, 2239, 0, 0), (2239, .ireturn, 2240, 0, 0)]
theorem TC_50 : jT mLw [] [] tC_50 := jT.of (cs := []) (fun _ h => absurd h List.not_mem_nil) (fun _ h => absurd h List.not_mem_nil) (fun _ h => absurd h List.not_mem_nil) (by decide +kernel) (by decide +kernel)
theorem LC_50 {g : jG} {N : Nat} {xs : Nat → Int32} (hX : jScr g N xs) {T : lwT} {c0 s0 : Nat} (hc0 : c0 ≤ 601024) (hs0 : s0 ≤ 7293034) {i : Nat} (hi : i + 6 ≤ N) {σ : jM} (hR : xR σ) (k : ∀ υ, xR υ → jY g (zL T c0 s0) mLw 1000 2617 (LL i) [] υ) : jY g (zL T c0 s0) mLw 1000 2215 (LL i) [] σ := by
  obtain ⟨p1, q1⟩ := xs_moveOut (xs (i + 1)) σ hR
  refine jy_aloadn (j := 1) rfl (TC_50.row (show jtb tC_50 2215 = _ from rfl)).1 ?_
  refine jy_S hX 1 rfl rfl hi (by decide) (TC_50.row (show jtb tC_50 2216 = _ from rfl)).1 (TC_50.row (show jtb tC_50 2217 = _ from rfl)).1 (TC_50.row (show jtb tC_50 2219 = _ from rfl)).1 (TC_50.row (show jtb tC_50 2220 = _ from rfl)).1 (TC_50.row (show jtb tC_50 2221 = _ from rfl)).1 ?_
  refine jy_callV (n' := 0 + 4) (mt' := mX11_moveOut) (as := [.int (xs (i + 1))]) (r := []) (ci := 11) (a := 0) (zL_ok (by decide) hc0 hs0) TC_50 (show jtb tC_50 2222 = _ from rfl) kL_276 WX11_moveOut rfl (by decide +kernel) rfl (by decide) rfl (by simp) (CX11_moveOut g 0 _ σ p1) (fun v τ hv => ?_)
  obtain ⟨p2, q2⟩ := q1 v τ hv
  refine jy_aloadn (j := 2) rfl (TC_50.row (show jtb tC_50 2225 = _ from rfl)).1 ?_
  refine jy_S hX 1 rfl rfl hi (by decide) (TC_50.row (show jtb tC_50 2226 = _ from rfl)).1 (TC_50.row (show jtb tC_50 2227 = _ from rfl)).1 (TC_50.row (show jtb tC_50 2229 = _ from rfl)).1 (TC_50.row (show jtb tC_50 2230 = _ from rfl)).1 (TC_50.row (show jtb tC_50 2231 = _ from rfl)).1 ?_
  refine jy_callV (n' := 0 + 4) (mt' := mX12_moveOut) (as := [.int (xs (i + 1))]) (r := v.toList ++ []) (ci := 12) (a := 322) (zL_ok (by decide) hc0 hs0) TC_50 (show jtb tC_50 2232 = _ from rfl) kL_279 WX12_moveOut rfl (by decide +kernel) rfl (by decide) rfl (opt_cat v) (CX12_moveOut g 0 _ τ p2) (fun w υ hw => ?_)
  obtain ⟨⟨z, rfl⟩, rfl, hR'⟩ := q2 w υ hw
  exact jy_icmp (tg := 2617) (TC_50.row (show jtb tC_50 2235 = _ from rfl)).1 rfl ⟨fun _ => k υ hR', fun h => absurd rfl h⟩
/-! 51: setValue -/
def tC_51 : jTb := [(2240, .aload_n 1, 2241, 0, 0), (2241, .aload_n 0, 2242, 0, 0), (2242, .iload 5, 2244, 0, 0), (2244, .iconst 1, 2245, 0, 1), (2245, .iadd, 2246, 0, 0), (2246, .iaload, 2247, 0, 0), (2247, .aload_n 0, 2248, 0, 0), (2248, .iload 5, 2250, 0, 0), (2250, .iconst 2, 2251, 0, 2), (2251, .iadd, 2252, 0, 0), (2252, .iaload, 2253, 0, 0), (2253, .aload_n 0, 2254, 0, 0), (2254, .iload 5, 2256, 0, 0), (2256, .iconst 3, 2257, 0, 3), (2257, .iadd, 2258, 0, 0), (2258, .iaload, 2259, 0, 0), (2259, .invokevirtual 280, 2262, 0, 0), (2262, .aload_n 2, 2263, 0, 0), (2263, .aload_n 0, 2264, 0, 0), (2264, .iload 5, 2266, 0, 0), (2266, .iconst 1, 2267, 0, 1), (2267, .iadd, 2268, 0, 0), (2268, .iaload, 2269, 0, 0), (2269, .aload_n 0, 2270, 0, 0), (2270, .iload 5, 2272, 0, 0), (2272, .iconst 2, 2273, 0, 2), (2273, .iadd, 2274, 0, 0), (2274, .iaload, 2275, 0, 0), (2275, .aload_n 0, 2276, 0, 0), (2276, .iload 5, 2278, 0, 0), (2278, .iconst 3, 2279, 0, 3), (2279, .iadd, 2280, 0, 0), (2280, .iaload, 2281, 0, 0), (2281, .invokevirtual 284, 2284, 0, 0), (2284, .if_icmp .eq 333, 2287, 2617, 0), (2287, .iconst 0, 2288, 0, 0), (2288, .ireturn, 2289, 0, 0)]
theorem TC_51 : jT mLw [] [] tC_51 := jT.of (cs := []) (fun _ h => absurd h List.not_mem_nil) (fun _ h => absurd h List.not_mem_nil) (fun _ h => absurd h List.not_mem_nil) (by decide +kernel) (by decide +kernel)
theorem LC_51 {g : jG} {N : Nat} {xs : Nat → Int32} (hX : jScr g N xs) {T : lwT} {c0 s0 : Nat} (hc0 : c0 ≤ 601024) (hs0 : s0 ≤ 7293034) {i : Nat} (hi : i + 6 ≤ N) {σ : jM} (hR : xR σ) (k : ∀ υ, xR υ → jY g (zL T c0 s0) mLw 1000 2617 (LL i) [] υ) : jY g (zL T c0 s0) mLw 1000 2240 (LL i) [] σ := by
  obtain ⟨p1, q1⟩ := xs_setValue (xs (i + 1)) (xs (i + 2)) (xs (i + 3)) σ hR
  refine jy_aloadn (j := 1) rfl (TC_51.row (show jtb tC_51 2240 = _ from rfl)).1 ?_
  refine jy_S hX 1 rfl rfl hi (by decide) (TC_51.row (show jtb tC_51 2241 = _ from rfl)).1 (TC_51.row (show jtb tC_51 2242 = _ from rfl)).1 (TC_51.row (show jtb tC_51 2244 = _ from rfl)).1 (TC_51.row (show jtb tC_51 2245 = _ from rfl)).1 (TC_51.row (show jtb tC_51 2246 = _ from rfl)).1 ?_
  refine jy_S hX 2 rfl rfl hi (by decide) (TC_51.row (show jtb tC_51 2247 = _ from rfl)).1 (TC_51.row (show jtb tC_51 2248 = _ from rfl)).1 (TC_51.row (show jtb tC_51 2250 = _ from rfl)).1 (TC_51.row (show jtb tC_51 2251 = _ from rfl)).1 (TC_51.row (show jtb tC_51 2252 = _ from rfl)).1 ?_
  refine jy_S hX 3 rfl rfl hi (by decide) (TC_51.row (show jtb tC_51 2253 = _ from rfl)).1 (TC_51.row (show jtb tC_51 2254 = _ from rfl)).1 (TC_51.row (show jtb tC_51 2256 = _ from rfl)).1 (TC_51.row (show jtb tC_51 2257 = _ from rfl)).1 (TC_51.row (show jtb tC_51 2258 = _ from rfl)).1 ?_
  refine jy_callV (n' := 0 + 4) (mt' := mX11_setValue) (as := [.int (xs (i + 1)), .int (xs (i + 2)), .int (xs (i + 3))]) (r := []) (ci := 11) (a := 0) (zL_ok (by decide) hc0 hs0) TC_51 (show jtb tC_51 2259 = _ from rfl) kL_280 WX11_setValue rfl (by decide +kernel) rfl (by decide) rfl (by simp) (CX11_setValue g 0 _ σ p1) (fun v τ hv => ?_)
  obtain ⟨p2, q2⟩ := q1 v τ hv
  refine jy_aloadn (j := 2) rfl (TC_51.row (show jtb tC_51 2262 = _ from rfl)).1 ?_
  refine jy_S hX 1 rfl rfl hi (by decide) (TC_51.row (show jtb tC_51 2263 = _ from rfl)).1 (TC_51.row (show jtb tC_51 2264 = _ from rfl)).1 (TC_51.row (show jtb tC_51 2266 = _ from rfl)).1 (TC_51.row (show jtb tC_51 2267 = _ from rfl)).1 (TC_51.row (show jtb tC_51 2268 = _ from rfl)).1 ?_
  refine jy_S hX 2 rfl rfl hi (by decide) (TC_51.row (show jtb tC_51 2269 = _ from rfl)).1 (TC_51.row (show jtb tC_51 2270 = _ from rfl)).1 (TC_51.row (show jtb tC_51 2272 = _ from rfl)).1 (TC_51.row (show jtb tC_51 2273 = _ from rfl)).1 (TC_51.row (show jtb tC_51 2274 = _ from rfl)).1 ?_
  refine jy_S hX 3 rfl rfl hi (by decide) (TC_51.row (show jtb tC_51 2275 = _ from rfl)).1 (TC_51.row (show jtb tC_51 2276 = _ from rfl)).1 (TC_51.row (show jtb tC_51 2278 = _ from rfl)).1 (TC_51.row (show jtb tC_51 2279 = _ from rfl)).1 (TC_51.row (show jtb tC_51 2280 = _ from rfl)).1 ?_
  refine jy_callV (n' := 0 + 2) (mt' := mX12_setValue) (as := [.int (xs (i + 1)), .int (xs (i + 2)), .int (xs (i + 3))]) (r := v.toList ++ []) (ci := 12) (a := 322) (zL_ok (by decide) hc0 hs0) TC_51 (show jtb tC_51 2281 = _ from rfl) kL_284 WX12_setValue rfl (by decide +kernel) rfl (by decide) rfl (opt_cat v) (CX12_setValue g 0 _ τ p2) (fun w υ hw => ?_)
  obtain ⟨⟨z, rfl⟩, rfl, hR'⟩ := q2 w υ hw
  exact jy_icmp (tg := 2617) (TC_51.row (show jtb tC_51 2284 = _ from rfl)).1 rfl ⟨fun _ => k υ hR', fun h => absurd rfl h⟩
/-! 52: setRefusal -/
def tC_52 : jTb := [(2289, .aload_n 1, 2290, 0, 0), (2290, .aload_n 0, 2291, 0, 0), (2291, .iload 5, 2293, 0, 0), (2293, .iconst 1, 2294, 0, 1), (2294, .iadd, 2295, 0, 0), (2295, .iaload, 2296, 0, 0), (2296, .aload_n 0, 2297, 0, 0), (2297, .iload 5, 2299, 0, 0), (2299, .iconst 2, 2300, 0, 2), (2300, .iadd, 2301, 0, 0), (2301, .iaload, 2302, 0, 0), (2302, .aload_n 0, 2303, 0, 0), (2303, .iload 5, 2305, 0, 0), (2305, .iconst 3, 2306, 0, 3), (2306, .iadd, 2307, 0, 0), (2307, .iaload, 2308, 0, 0), (2308, .ifCond .eq 7, 2311, 2315, 0), (2311, .iconst 1, 2312, 0, 1), (2312, .goto 4, 2315, 2316, 0), (2315, .iconst 0, 2316, 0, 0), (2316, .invokevirtual 285, 2319, 0, 0), (2319, .aload_n 2, 2320, 0, 0), (2320, .aload_n 0, 2321, 0, 0), (2321, .iload 5, 2323, 0, 0), (2323, .iconst 1, 2324, 0, 1), (2324, .iadd, 2325, 0, 0), (2325, .iaload, 2326, 0, 0), (2326, .aload_n 0, 2327, 0, 0), (2327, .iload 5, 2329, 0, 0), (2329, .iconst 2, 2330, 0, 2), (2330, .iadd, 2331, 0, 0), (2331, .iaload, 2332, 0, 0), (2332, .aload_n 0, 2333, 0, 0), (2333, .iload 5, 2335, 0, 0), (2335, .iconst 3, 2336, 0, 3), (2336, .iadd, 2337, 0, 0), (2337, .iaload, 2338, 0, 0), (2338, .ifCond .eq 7, 2341, 2345, 0), (2341, .iconst 1, 2342, 0, 1), (2342, .goto 4, 2345, 2346, 0), (2345, .iconst 0, 2346, 0, 0), (2346, .invokevirtual 289, 2349, 0, 0), (2349, .if_icmp .eq 268, 2352, 2617, 0), (2352, .iconst 0, 2353, 0, 0), (2353, .ireturn, 2354, 0, 0)]
theorem TC_52 : jT mLw [] [] tC_52 := jT.of (cs := []) (fun _ h => absurd h List.not_mem_nil) (fun _ h => absurd h List.not_mem_nil) (fun _ h => absurd h List.not_mem_nil) (by decide +kernel) (by decide +kernel)
theorem LC_52 {g : jG} {N : Nat} {xs : Nat → Int32} (hX : jScr g N xs) {T : lwT} {c0 s0 : Nat} (hc0 : c0 ≤ 601024) (hs0 : s0 ≤ 7293034) {i : Nat} (hi : i + 6 ≤ N) {σ : jM} (hR : xR σ) (k : ∀ υ, xR υ → jY g (zL T c0 s0) mLw 1000 2617 (LL i) [] υ) : jY g (zL T c0 s0) mLw 1000 2289 (LL i) [] σ := by
  obtain ⟨p1, q1⟩ := xs_setRefusal (xs (i + 1)) (xs (i + 2)) (if xs (i + 3) = 0 then 0 else 1) (ite01 _) σ hR
  refine jy_aloadn (j := 1) rfl (TC_52.row (show jtb tC_52 2289 = _ from rfl)).1 ?_
  refine jy_S hX 1 rfl rfl hi (by decide) (TC_52.row (show jtb tC_52 2290 = _ from rfl)).1 (TC_52.row (show jtb tC_52 2291 = _ from rfl)).1 (TC_52.row (show jtb tC_52 2293 = _ from rfl)).1 (TC_52.row (show jtb tC_52 2294 = _ from rfl)).1 (TC_52.row (show jtb tC_52 2295 = _ from rfl)).1 ?_
  refine jy_S hX 2 rfl rfl hi (by decide) (TC_52.row (show jtb tC_52 2296 = _ from rfl)).1 (TC_52.row (show jtb tC_52 2297 = _ from rfl)).1 (TC_52.row (show jtb tC_52 2299 = _ from rfl)).1 (TC_52.row (show jtb tC_52 2300 = _ from rfl)).1 (TC_52.row (show jtb tC_52 2301 = _ from rfl)).1 ?_
  refine jy_S hX 3 rfl rfl hi (by decide) (TC_52.row (show jtb tC_52 2302 = _ from rfl)).1 (TC_52.row (show jtb tC_52 2303 = _ from rfl)).1 (TC_52.row (show jtb tC_52 2305 = _ from rfl)).1 (TC_52.row (show jtb tC_52 2306 = _ from rfl)).1 (TC_52.row (show jtb tC_52 2307 = _ from rfl)).1 ?_
  refine jy_bool (TC_52.row (show jtb tC_52 2308 = _ from rfl)).1 (TC_52.row (show jtb tC_52 2311 = _ from rfl)).1 (TC_52.row (show jtb tC_52 2312 = _ from rfl)).1 (TC_52.row (show jtb tC_52 2315 = _ from rfl)).1 ?_
  refine jy_callV (n' := 0 + 4) (mt' := mX11_setRefusal) (as := [.int (xs (i + 1)), .int (xs (i + 2)), .int (if xs (i + 3) = 0 then 0 else 1)]) (r := []) (ci := 11) (a := 0) (zL_ok (by decide) hc0 hs0) TC_52 (show jtb tC_52 2316 = _ from rfl) kL_285 WX11_setRefusal rfl (by decide +kernel) rfl (by decide) rfl (by simp) (CX11_setRefusal g 0 _ σ p1) (fun v τ hv => ?_)
  obtain ⟨p2, q2⟩ := q1 v τ hv
  refine jy_aloadn (j := 2) rfl (TC_52.row (show jtb tC_52 2319 = _ from rfl)).1 ?_
  refine jy_S hX 1 rfl rfl hi (by decide) (TC_52.row (show jtb tC_52 2320 = _ from rfl)).1 (TC_52.row (show jtb tC_52 2321 = _ from rfl)).1 (TC_52.row (show jtb tC_52 2323 = _ from rfl)).1 (TC_52.row (show jtb tC_52 2324 = _ from rfl)).1 (TC_52.row (show jtb tC_52 2325 = _ from rfl)).1 ?_
  refine jy_S hX 2 rfl rfl hi (by decide) (TC_52.row (show jtb tC_52 2326 = _ from rfl)).1 (TC_52.row (show jtb tC_52 2327 = _ from rfl)).1 (TC_52.row (show jtb tC_52 2329 = _ from rfl)).1 (TC_52.row (show jtb tC_52 2330 = _ from rfl)).1 (TC_52.row (show jtb tC_52 2331 = _ from rfl)).1 ?_
  refine jy_S hX 3 rfl rfl hi (by decide) (TC_52.row (show jtb tC_52 2332 = _ from rfl)).1 (TC_52.row (show jtb tC_52 2333 = _ from rfl)).1 (TC_52.row (show jtb tC_52 2335 = _ from rfl)).1 (TC_52.row (show jtb tC_52 2336 = _ from rfl)).1 (TC_52.row (show jtb tC_52 2337 = _ from rfl)).1 ?_
  refine jy_bool (TC_52.row (show jtb tC_52 2338 = _ from rfl)).1 (TC_52.row (show jtb tC_52 2341 = _ from rfl)).1 (TC_52.row (show jtb tC_52 2342 = _ from rfl)).1 (TC_52.row (show jtb tC_52 2345 = _ from rfl)).1 ?_
  refine jy_callV (n' := 0 + 3) (mt' := mX12_setRefusal) (as := [.int (xs (i + 1)), .int (xs (i + 2)), .int (if xs (i + 3) = 0 then 0 else 1)]) (r := v.toList ++ []) (ci := 12) (a := 322) (zL_ok (by decide) hc0 hs0) TC_52 (show jtb tC_52 2346 = _ from rfl) kL_289 WX12_setRefusal rfl (by decide +kernel) rfl (by decide) rfl (opt_cat v) (CX12_setRefusal g 0 _ τ p2) (fun w υ hw => ?_)
  obtain ⟨⟨z, rfl⟩, rfl, hR'⟩ := q2 w υ hw
  exact jy_icmp (tg := 2617) (TC_52.row (show jtb tC_52 2349 = _ from rfl)).1 rfl ⟨fun _ => k υ hR', fun h => absurd rfl h⟩
/-! 53: setIncome -/
def tC_53 : jTb := [(2354, .aload_n 1, 2355, 0, 0), (2355, .aload_n 0, 2356, 0, 0), (2356, .iload 5, 2358, 0, 0), (2358, .iconst 1, 2359, 0, 1), (2359, .iadd, 2360, 0, 0), (2360, .iaload, 2361, 0, 0), (2361, .aload_n 0, 2362, 0, 0), (2362, .iload 5, 2364, 0, 0), (2364, .iconst 2, 2365, 0, 2), (2365, .iadd, 2366, 0, 0), (2366, .iaload, 2367, 0, 0), (2367, .invokevirtual 290, 2370, 0, 0), (2370, .aload_n 2, 2371, 0, 0), (2371, .aload_n 0, 2372, 0, 0), (2372, .iload 5, 2374, 0, 0), (2374, .iconst 1, 2375, 0, 1), (2375, .iadd, 2376, 0, 0), (2376, .iaload, 2377, 0, 0), (2377, .aload_n 0, 2378, 0, 0), (2378, .iload 5, 2380, 0, 0), (2380, .iconst 2, 2381, 0, 2), (2381, .iadd, 2382, 0, 0), (2382, .iaload, 2383, 0, 0), (2383, .invokevirtual 293, 2386, 0, 0), (2386, .if_icmp .eq 231, 2389, 2617, 0), (2389, .iconst 0, 2390, 0, 0), (2390, .ireturn, 2391, 0, 0)]
theorem TC_53 : jT mLw [] [] tC_53 := jT.of (cs := []) (fun _ h => absurd h List.not_mem_nil) (fun _ h => absurd h List.not_mem_nil) (fun _ h => absurd h List.not_mem_nil) (by decide +kernel) (by decide +kernel)
theorem LC_53 {g : jG} {N : Nat} {xs : Nat → Int32} (hX : jScr g N xs) {T : lwT} {c0 s0 : Nat} (hc0 : c0 ≤ 601024) (hs0 : s0 ≤ 7293034) {i : Nat} (hi : i + 6 ≤ N) {σ : jM} (hR : xR σ) (k : ∀ υ, xR υ → jY g (zL T c0 s0) mLw 1000 2617 (LL i) [] υ) : jY g (zL T c0 s0) mLw 1000 2354 (LL i) [] σ := by
  obtain ⟨p1, q1⟩ := xs_setIncome (xs (i + 1)) (xs (i + 2)) σ hR
  refine jy_aloadn (j := 1) rfl (TC_53.row (show jtb tC_53 2354 = _ from rfl)).1 ?_
  refine jy_S hX 1 rfl rfl hi (by decide) (TC_53.row (show jtb tC_53 2355 = _ from rfl)).1 (TC_53.row (show jtb tC_53 2356 = _ from rfl)).1 (TC_53.row (show jtb tC_53 2358 = _ from rfl)).1 (TC_53.row (show jtb tC_53 2359 = _ from rfl)).1 (TC_53.row (show jtb tC_53 2360 = _ from rfl)).1 ?_
  refine jy_S hX 2 rfl rfl hi (by decide) (TC_53.row (show jtb tC_53 2361 = _ from rfl)).1 (TC_53.row (show jtb tC_53 2362 = _ from rfl)).1 (TC_53.row (show jtb tC_53 2364 = _ from rfl)).1 (TC_53.row (show jtb tC_53 2365 = _ from rfl)).1 (TC_53.row (show jtb tC_53 2366 = _ from rfl)).1 ?_
  refine jy_callV (n' := 0 + 4) (mt' := mX11_setIncome) (as := [.int (xs (i + 1)), .int (xs (i + 2))]) (r := []) (ci := 11) (a := 0) (zL_ok (by decide) hc0 hs0) TC_53 (show jtb tC_53 2367 = _ from rfl) kL_290 WX11_setIncome rfl (by decide +kernel) rfl (by decide) rfl (by simp) (CX11_setIncome g 0 _ σ p1) (fun v τ hv => ?_)
  obtain ⟨p2, q2⟩ := q1 v τ hv
  refine jy_aloadn (j := 2) rfl (TC_53.row (show jtb tC_53 2370 = _ from rfl)).1 ?_
  refine jy_S hX 1 rfl rfl hi (by decide) (TC_53.row (show jtb tC_53 2371 = _ from rfl)).1 (TC_53.row (show jtb tC_53 2372 = _ from rfl)).1 (TC_53.row (show jtb tC_53 2374 = _ from rfl)).1 (TC_53.row (show jtb tC_53 2375 = _ from rfl)).1 (TC_53.row (show jtb tC_53 2376 = _ from rfl)).1 ?_
  refine jy_S hX 2 rfl rfl hi (by decide) (TC_53.row (show jtb tC_53 2377 = _ from rfl)).1 (TC_53.row (show jtb tC_53 2378 = _ from rfl)).1 (TC_53.row (show jtb tC_53 2380 = _ from rfl)).1 (TC_53.row (show jtb tC_53 2381 = _ from rfl)).1 (TC_53.row (show jtb tC_53 2382 = _ from rfl)).1 ?_
  refine jy_callV (n' := 0 + 2) (mt' := mX12_setIncome) (as := [.int (xs (i + 1)), .int (xs (i + 2))]) (r := v.toList ++ []) (ci := 12) (a := 322) (zL_ok (by decide) hc0 hs0) TC_53 (show jtb tC_53 2383 = _ from rfl) kL_293 WX12_setIncome rfl (by decide +kernel) rfl (by decide) rfl (opt_cat v) (CX12_setIncome g 0 _ τ p2) (fun w υ hw => ?_)
  obtain ⟨⟨z, rfl⟩, rfl, hR'⟩ := q2 w υ hw
  exact jy_icmp (tg := 2617) (TC_53.row (show jtb tC_53 2386 = _ from rfl)).1 rfl ⟨fun _ => k υ hR', fun h => absurd rfl h⟩
/-! 54: setLease -/
def tC_54 : jTb := [(2391, .aload_n 1, 2392, 0, 0), (2392, .aload_n 0, 2393, 0, 0), (2393, .iload 5, 2395, 0, 0), (2395, .iconst 1, 2396, 0, 1), (2396, .iadd, 2397, 0, 0), (2397, .iaload, 2398, 0, 0), (2398, .invokevirtual 294, 2401, 0, 0), (2401, .aload_n 2, 2402, 0, 0), (2402, .aload_n 0, 2403, 0, 0), (2403, .iload 5, 2405, 0, 0), (2405, .iconst 1, 2406, 0, 1), (2406, .iadd, 2407, 0, 0), (2407, .iaload, 2408, 0, 0), (2408, .invokevirtual 297, 2411, 0, 0), (2411, .if_icmp .eq 206, 2414, 2617, 0), (2414, .iconst 0, 2415, 0, 0), (2415, .ireturn, 2416, 0, 0)]
theorem TC_54 : jT mLw [] [] tC_54 := jT.of (cs := []) (fun _ h => absurd h List.not_mem_nil) (fun _ h => absurd h List.not_mem_nil) (fun _ h => absurd h List.not_mem_nil) (by decide +kernel) (by decide +kernel)
theorem LC_54 {g : jG} {N : Nat} {xs : Nat → Int32} (hX : jScr g N xs) {T : lwT} {c0 s0 : Nat} (hc0 : c0 ≤ 601024) (hs0 : s0 ≤ 7293034) {i : Nat} (hi : i + 6 ≤ N) {σ : jM} (hR : xR σ) (k : ∀ υ, xR υ → jY g (zL T c0 s0) mLw 1000 2617 (LL i) [] υ) : jY g (zL T c0 s0) mLw 1000 2391 (LL i) [] σ := by
  obtain ⟨p1, q1⟩ := xs_setLease (xs (i + 1)) σ hR
  refine jy_aloadn (j := 1) rfl (TC_54.row (show jtb tC_54 2391 = _ from rfl)).1 ?_
  refine jy_S hX 1 rfl rfl hi (by decide) (TC_54.row (show jtb tC_54 2392 = _ from rfl)).1 (TC_54.row (show jtb tC_54 2393 = _ from rfl)).1 (TC_54.row (show jtb tC_54 2395 = _ from rfl)).1 (TC_54.row (show jtb tC_54 2396 = _ from rfl)).1 (TC_54.row (show jtb tC_54 2397 = _ from rfl)).1 ?_
  refine jy_callV (n' := 0 + 4) (mt' := mX11_setLease) (as := [.int (xs (i + 1))]) (r := []) (ci := 11) (a := 0) (zL_ok (by decide) hc0 hs0) TC_54 (show jtb tC_54 2398 = _ from rfl) kL_294 WX11_setLease rfl (by decide +kernel) rfl (by decide) rfl (by simp) (CX11_setLease g 0 _ σ p1) (fun v τ hv => ?_)
  obtain ⟨p2, q2⟩ := q1 v τ hv
  refine jy_aloadn (j := 2) rfl (TC_54.row (show jtb tC_54 2401 = _ from rfl)).1 ?_
  refine jy_S hX 1 rfl rfl hi (by decide) (TC_54.row (show jtb tC_54 2402 = _ from rfl)).1 (TC_54.row (show jtb tC_54 2403 = _ from rfl)).1 (TC_54.row (show jtb tC_54 2405 = _ from rfl)).1 (TC_54.row (show jtb tC_54 2406 = _ from rfl)).1 (TC_54.row (show jtb tC_54 2407 = _ from rfl)).1 ?_
  refine jy_callV (n' := 0 + 2) (mt' := mX12_setLease) (as := [.int (xs (i + 1))]) (r := v.toList ++ []) (ci := 12) (a := 322) (zL_ok (by decide) hc0 hs0) TC_54 (show jtb tC_54 2408 = _ from rfl) kL_297 WX12_setLease rfl (by decide +kernel) rfl (by decide) rfl (opt_cat v) (CX12_setLease g 0 _ τ p2) (fun w υ hw => ?_)
  obtain ⟨⟨z, rfl⟩, rfl, hR'⟩ := q2 w υ hw
  exact jy_icmp (tg := 2617) (TC_54.row (show jtb tC_54 2411 = _ from rfl)).1 rfl ⟨fun _ => k υ hR', fun h => absurd rfl h⟩
/-! 55: setDeposit -/
def tC_55 : jTb := [(2416, .aload_n 1, 2417, 0, 0), (2417, .aload_n 0, 2418, 0, 0), (2418, .iload 5, 2420, 0, 0), (2420, .iconst 1, 2421, 0, 1), (2421, .iadd, 2422, 0, 0), (2422, .iaload, 2423, 0, 0), (2423, .invokevirtual 298, 2426, 0, 0), (2426, .aload_n 2, 2427, 0, 0), (2427, .aload_n 0, 2428, 0, 0), (2428, .iload 5, 2430, 0, 0), (2430, .iconst 1, 2431, 0, 1), (2431, .iadd, 2432, 0, 0), (2432, .iaload, 2433, 0, 0), (2433, .invokevirtual 301, 2436, 0, 0), (2436, .if_icmp .eq 181, 2439, 2617, 0), (2439, .iconst 0, 2440, 0, 0), (2440, .ireturn, 2441, 0, 0)]
theorem TC_55 : jT mLw [] [] tC_55 := jT.of (cs := []) (fun _ h => absurd h List.not_mem_nil) (fun _ h => absurd h List.not_mem_nil) (fun _ h => absurd h List.not_mem_nil) (by decide +kernel) (by decide +kernel)
theorem LC_55 {g : jG} {N : Nat} {xs : Nat → Int32} (hX : jScr g N xs) {T : lwT} {c0 s0 : Nat} (hc0 : c0 ≤ 601024) (hs0 : s0 ≤ 7293034) {i : Nat} (hi : i + 6 ≤ N) {σ : jM} (hR : xR σ) (k : ∀ υ, xR υ → jY g (zL T c0 s0) mLw 1000 2617 (LL i) [] υ) : jY g (zL T c0 s0) mLw 1000 2416 (LL i) [] σ := by
  obtain ⟨p1, q1⟩ := xs_setDeposit (xs (i + 1)) σ hR
  refine jy_aloadn (j := 1) rfl (TC_55.row (show jtb tC_55 2416 = _ from rfl)).1 ?_
  refine jy_S hX 1 rfl rfl hi (by decide) (TC_55.row (show jtb tC_55 2417 = _ from rfl)).1 (TC_55.row (show jtb tC_55 2418 = _ from rfl)).1 (TC_55.row (show jtb tC_55 2420 = _ from rfl)).1 (TC_55.row (show jtb tC_55 2421 = _ from rfl)).1 (TC_55.row (show jtb tC_55 2422 = _ from rfl)).1 ?_
  refine jy_callV (n' := 0 + 4) (mt' := mX11_setDeposit) (as := [.int (xs (i + 1))]) (r := []) (ci := 11) (a := 0) (zL_ok (by decide) hc0 hs0) TC_55 (show jtb tC_55 2423 = _ from rfl) kL_298 WX11_setDeposit rfl (by decide +kernel) rfl (by decide) rfl (by simp) (CX11_setDeposit g 0 _ σ p1) (fun v τ hv => ?_)
  obtain ⟨p2, q2⟩ := q1 v τ hv
  refine jy_aloadn (j := 2) rfl (TC_55.row (show jtb tC_55 2426 = _ from rfl)).1 ?_
  refine jy_S hX 1 rfl rfl hi (by decide) (TC_55.row (show jtb tC_55 2427 = _ from rfl)).1 (TC_55.row (show jtb tC_55 2428 = _ from rfl)).1 (TC_55.row (show jtb tC_55 2430 = _ from rfl)).1 (TC_55.row (show jtb tC_55 2431 = _ from rfl)).1 (TC_55.row (show jtb tC_55 2432 = _ from rfl)).1 ?_
  refine jy_callV (n' := 0 + 2) (mt' := mX12_setDeposit) (as := [.int (xs (i + 1))]) (r := v.toList ++ []) (ci := 12) (a := 322) (zL_ok (by decide) hc0 hs0) TC_55 (show jtb tC_55 2433 = _ from rfl) kL_301 WX12_setDeposit rfl (by decide +kernel) rfl (by decide) rfl (opt_cat v) (CX12_setDeposit g 0 _ τ p2) (fun w υ hw => ?_)
  obtain ⟨⟨z, rfl⟩, rfl, hR'⟩ := q2 w υ hw
  exact jy_icmp (tg := 2617) (TC_55.row (show jtb tC_55 2436 = _ from rfl)).1 rfl ⟨fun _ => k υ hR', fun h => absurd rfl h⟩
/-! 56: setSetting -/
def tC_56 : jTb := [(2441, .aload_n 1, 2442, 0, 0), (2442, .aload_n 0, 2443, 0, 0), (2443, .iload 5, 2445, 0, 0), (2445, .iconst 1, 2446, 0, 1), (2446, .iadd, 2447, 0, 0), (2447, .iaload, 2448, 0, 0), (2448, .aload_n 0, 2449, 0, 0), (2449, .iload 5, 2451, 0, 0), (2451, .iconst 2, 2452, 0, 2), (2452, .iadd, 2453, 0, 0), (2453, .iaload, 2454, 0, 0), (2454, .invokevirtual 302, 2457, 0, 0), (2457, .aload_n 2, 2458, 0, 0), (2458, .aload_n 0, 2459, 0, 0), (2459, .iload 5, 2461, 0, 0), (2461, .iconst 1, 2462, 0, 1), (2462, .iadd, 2463, 0, 0), (2463, .iaload, 2464, 0, 0), (2464, .aload_n 0, 2465, 0, 0), (2465, .iload 5, 2467, 0, 0), (2467, .iconst 2, 2468, 0, 2), (2468, .iadd, 2469, 0, 0), (2469, .iaload, 2470, 0, 0), (2470, .invokevirtual 305, 2473, 0, 0), (2473, .if_icmp .eq 144, 2476, 2617, 0), (2476, .iconst 0, 2477, 0, 0), (2477, .ireturn, 2478, 0, 0)]
theorem TC_56 : jT mLw [] [] tC_56 := jT.of (cs := []) (fun _ h => absurd h List.not_mem_nil) (fun _ h => absurd h List.not_mem_nil) (fun _ h => absurd h List.not_mem_nil) (by decide +kernel) (by decide +kernel)
theorem LC_56 {g : jG} {N : Nat} {xs : Nat → Int32} (hX : jScr g N xs) {T : lwT} {c0 s0 : Nat} (hc0 : c0 ≤ 601024) (hs0 : s0 ≤ 7293034) {i : Nat} (hi : i + 6 ≤ N) {σ : jM} (hR : xR σ) (k : ∀ υ, xR υ → jY g (zL T c0 s0) mLw 1000 2617 (LL i) [] υ) : jY g (zL T c0 s0) mLw 1000 2441 (LL i) [] σ := by
  obtain ⟨p1, q1⟩ := xs_setSetting (xs (i + 1)) (xs (i + 2)) σ hR
  refine jy_aloadn (j := 1) rfl (TC_56.row (show jtb tC_56 2441 = _ from rfl)).1 ?_
  refine jy_S hX 1 rfl rfl hi (by decide) (TC_56.row (show jtb tC_56 2442 = _ from rfl)).1 (TC_56.row (show jtb tC_56 2443 = _ from rfl)).1 (TC_56.row (show jtb tC_56 2445 = _ from rfl)).1 (TC_56.row (show jtb tC_56 2446 = _ from rfl)).1 (TC_56.row (show jtb tC_56 2447 = _ from rfl)).1 ?_
  refine jy_S hX 2 rfl rfl hi (by decide) (TC_56.row (show jtb tC_56 2448 = _ from rfl)).1 (TC_56.row (show jtb tC_56 2449 = _ from rfl)).1 (TC_56.row (show jtb tC_56 2451 = _ from rfl)).1 (TC_56.row (show jtb tC_56 2452 = _ from rfl)).1 (TC_56.row (show jtb tC_56 2453 = _ from rfl)).1 ?_
  refine jy_callV (n' := 0 + 4) (mt' := mX11_setSetting) (as := [.int (xs (i + 1)), .int (xs (i + 2))]) (r := []) (ci := 11) (a := 0) (zL_ok (by decide) hc0 hs0) TC_56 (show jtb tC_56 2454 = _ from rfl) kL_302 WX11_setSetting rfl (by decide +kernel) rfl (by decide) rfl (by simp) (CX11_setSetting g 0 _ σ p1) (fun v τ hv => ?_)
  obtain ⟨p2, q2⟩ := q1 v τ hv
  refine jy_aloadn (j := 2) rfl (TC_56.row (show jtb tC_56 2457 = _ from rfl)).1 ?_
  refine jy_S hX 1 rfl rfl hi (by decide) (TC_56.row (show jtb tC_56 2458 = _ from rfl)).1 (TC_56.row (show jtb tC_56 2459 = _ from rfl)).1 (TC_56.row (show jtb tC_56 2461 = _ from rfl)).1 (TC_56.row (show jtb tC_56 2462 = _ from rfl)).1 (TC_56.row (show jtb tC_56 2463 = _ from rfl)).1 ?_
  refine jy_S hX 2 rfl rfl hi (by decide) (TC_56.row (show jtb tC_56 2464 = _ from rfl)).1 (TC_56.row (show jtb tC_56 2465 = _ from rfl)).1 (TC_56.row (show jtb tC_56 2467 = _ from rfl)).1 (TC_56.row (show jtb tC_56 2468 = _ from rfl)).1 (TC_56.row (show jtb tC_56 2469 = _ from rfl)).1 ?_
  refine jy_callV (n' := 0 + 2) (mt' := mX12_setSetting) (as := [.int (xs (i + 1)), .int (xs (i + 2))]) (r := v.toList ++ []) (ci := 12) (a := 322) (zL_ok (by decide) hc0 hs0) TC_56 (show jtb tC_56 2470 = _ from rfl) kL_305 WX12_setSetting rfl (by decide +kernel) rfl (by decide) rfl (opt_cat v) (CX12_setSetting g 0 _ τ p2) (fun w υ hw => ?_)
  obtain ⟨⟨z, rfl⟩, rfl, hR'⟩ := q2 w υ hw
  exact jy_icmp (tg := 2617) (TC_56.row (show jtb tC_56 2473 = _ from rfl)).1 rfl ⟨fun _ => k υ hR', fun h => absurd rfl h⟩
/-! 57: divide -/
def tC_57 : jTb := [(2478, .aload_n 1, 2479, 0, 0), (2479, .invokevirtual 306, 2482, 0, 0), (2482, .aload_n 2, 2483, 0, 0), (2483, .invokevirtual 309, 2486, 0, 0), (2486, .if_icmp .eq 131, 2489, 2617, 0), (2489, .iconst 0, 2490, 0, 0), (2490, .ireturn, 2491, 0, 0)]
theorem TC_57 : jT mLw [] [] tC_57 := jT.of (cs := []) (fun _ h => absurd h List.not_mem_nil) (fun _ h => absurd h List.not_mem_nil) (fun _ h => absurd h List.not_mem_nil) (by decide +kernel) (by decide +kernel)
theorem LC_57 {g : jG} {N : Nat} {xs : Nat → Int32} (hX : jScr g N xs) {T : lwT} {c0 s0 : Nat} (hc0 : c0 ≤ 601024) (hs0 : s0 ≤ 7293034) {i : Nat} (hi : i + 6 ≤ N) {σ : jM} (hR : xR σ) (k : ∀ υ, xR υ → jY g (zL T c0 s0) mLw 1000 2617 (LL i) [] υ) : jY g (zL T c0 s0) mLw 1000 2478 (LL i) [] σ := by
  obtain ⟨p1, q1⟩ := xs_divide σ hR
  refine jy_aloadn (j := 1) rfl (TC_57.row (show jtb tC_57 2478 = _ from rfl)).1 ?_
  refine jy_callV (n' := 0 + 6) (mt' := mX11_divide) (as := []) (r := []) (ci := 11) (a := 0) (zL_ok (by decide) hc0 hs0) TC_57 (show jtb tC_57 2479 = _ from rfl) kL_306 WX11_divide rfl (by decide +kernel) rfl (by decide) rfl (by simp) (CX11_divide g 0 _ σ p1) (fun v τ hv => ?_)
  obtain ⟨p2, q2⟩ := q1 v τ hv
  refine jy_aloadn (j := 2) rfl (TC_57.row (show jtb tC_57 2482 = _ from rfl)).1 ?_
  refine jy_callV (n' := 0 + 16) (mt' := mX12_divide) (as := []) (r := v.toList ++ []) (ci := 12) (a := 322) (zL_ok (by decide) hc0 hs0) TC_57 (show jtb tC_57 2483 = _ from rfl) kL_309 WX12_divide rfl (by decide +kernel) rfl (by decide) rfl (opt_cat v) (CX12_divide g 0 _ τ p2) (fun w υ hw => ?_)
  obtain ⟨⟨z, rfl⟩, rfl, hR'⟩ := q2 w υ hw
  exact jy_icmp (tg := 2617) (TC_57.row (show jtb tC_57 2486 = _ from rfl)).1 rfl ⟨fun _ => k υ hR', fun h => absurd rfl h⟩
/-! 58: swapRooms -/
def tC_58 : jTb := [(2491, .aload_n 1, 2492, 0, 0), (2492, .aload_n 0, 2493, 0, 0), (2493, .iload 5, 2495, 0, 0), (2495, .iconst 1, 2496, 0, 1), (2496, .iadd, 2497, 0, 0), (2497, .iaload, 2498, 0, 0), (2498, .aload_n 0, 2499, 0, 0), (2499, .iload 5, 2501, 0, 0), (2501, .iconst 2, 2502, 0, 2), (2502, .iadd, 2503, 0, 0), (2503, .iaload, 2504, 0, 0), (2504, .invokevirtual 310, 2507, 0, 0), (2507, .aload_n 2, 2508, 0, 0), (2508, .aload_n 0, 2509, 0, 0), (2509, .iload 5, 2511, 0, 0), (2511, .iconst 1, 2512, 0, 1), (2512, .iadd, 2513, 0, 0), (2513, .iaload, 2514, 0, 0), (2514, .aload_n 0, 2515, 0, 0), (2515, .iload 5, 2517, 0, 0), (2517, .iconst 2, 2518, 0, 2), (2518, .iadd, 2519, 0, 0), (2519, .iaload, 2520, 0, 0), (2520, .invokevirtual 313, 2523, 0, 0), (2523, .if_icmp .eq 94, 2526, 2617, 0), (2526, .iconst 0, 2527, 0, 0), (2527, .ireturn, 2528, 0, 0)]
theorem TC_58 : jT mLw [] [] tC_58 := jT.of (cs := []) (fun _ h => absurd h List.not_mem_nil) (fun _ h => absurd h List.not_mem_nil) (fun _ h => absurd h List.not_mem_nil) (by decide +kernel) (by decide +kernel)
theorem LC_58 {g : jG} {N : Nat} {xs : Nat → Int32} (hX : jScr g N xs) {T : lwT} {c0 s0 : Nat} (hc0 : c0 ≤ 601024) (hs0 : s0 ≤ 7293034) {i : Nat} (hi : i + 6 ≤ N) {σ : jM} (hR : xR σ) (k : ∀ υ, xR υ → jY g (zL T c0 s0) mLw 1000 2617 (LL i) [] υ) : jY g (zL T c0 s0) mLw 1000 2491 (LL i) [] σ := by
  obtain ⟨p1, q1⟩ := xs_swapRooms (xs (i + 1)) (xs (i + 2)) σ hR
  refine jy_aloadn (j := 1) rfl (TC_58.row (show jtb tC_58 2491 = _ from rfl)).1 ?_
  refine jy_S hX 1 rfl rfl hi (by decide) (TC_58.row (show jtb tC_58 2492 = _ from rfl)).1 (TC_58.row (show jtb tC_58 2493 = _ from rfl)).1 (TC_58.row (show jtb tC_58 2495 = _ from rfl)).1 (TC_58.row (show jtb tC_58 2496 = _ from rfl)).1 (TC_58.row (show jtb tC_58 2497 = _ from rfl)).1 ?_
  refine jy_S hX 2 rfl rfl hi (by decide) (TC_58.row (show jtb tC_58 2498 = _ from rfl)).1 (TC_58.row (show jtb tC_58 2499 = _ from rfl)).1 (TC_58.row (show jtb tC_58 2501 = _ from rfl)).1 (TC_58.row (show jtb tC_58 2502 = _ from rfl)).1 (TC_58.row (show jtb tC_58 2503 = _ from rfl)).1 ?_
  refine jy_callV (n' := 0 + 5) (mt' := mX11_swapRooms) (as := [.int (xs (i + 1)), .int (xs (i + 2))]) (r := []) (ci := 11) (a := 0) (zL_ok (by decide) hc0 hs0) TC_58 (show jtb tC_58 2504 = _ from rfl) kL_310 WX11_swapRooms rfl (by decide +kernel) rfl (by decide) rfl (by simp) (CX11_swapRooms g 0 _ σ p1) (fun v τ hv => ?_)
  obtain ⟨p2, q2⟩ := q1 v τ hv
  refine jy_aloadn (j := 2) rfl (TC_58.row (show jtb tC_58 2507 = _ from rfl)).1 ?_
  refine jy_S hX 1 rfl rfl hi (by decide) (TC_58.row (show jtb tC_58 2508 = _ from rfl)).1 (TC_58.row (show jtb tC_58 2509 = _ from rfl)).1 (TC_58.row (show jtb tC_58 2511 = _ from rfl)).1 (TC_58.row (show jtb tC_58 2512 = _ from rfl)).1 (TC_58.row (show jtb tC_58 2513 = _ from rfl)).1 ?_
  refine jy_S hX 2 rfl rfl hi (by decide) (TC_58.row (show jtb tC_58 2514 = _ from rfl)).1 (TC_58.row (show jtb tC_58 2515 = _ from rfl)).1 (TC_58.row (show jtb tC_58 2517 = _ from rfl)).1 (TC_58.row (show jtb tC_58 2518 = _ from rfl)).1 (TC_58.row (show jtb tC_58 2519 = _ from rfl)).1 ?_
  refine jy_callV (n' := 0 + 5) (mt' := mX12_swapRooms) (as := [.int (xs (i + 1)), .int (xs (i + 2))]) (r := v.toList ++ []) (ci := 12) (a := 322) (zL_ok (by decide) hc0 hs0) TC_58 (show jtb tC_58 2520 = _ from rfl) kL_313 WX12_swapRooms rfl (by decide +kernel) rfl (by decide) rfl (opt_cat v) (CX12_swapRooms g 0 _ τ p2) (fun w υ hw => ?_)
  obtain ⟨⟨z, rfl⟩, rfl, hR'⟩ := q2 w υ hw
  exact jy_icmp (tg := 2617) (TC_58.row (show jtb tC_58 2523 = _ from rfl)).1 rfl ⟨fun _ => k υ hR', fun h => absurd rfl h⟩
/-! 59: passMonths -/
def tC_59 : jTb := [(2528, .aload_n 1, 2529, 0, 0), (2529, .aload_n 0, 2530, 0, 0), (2530, .iload 5, 2532, 0, 0), (2532, .iconst 1, 2533, 0, 1), (2533, .iadd, 2534, 0, 0), (2534, .iaload, 2535, 0, 0), (2535, .invokevirtual 314, 2538, 0, 0), (2538, .aload_n 2, 2539, 0, 0), (2539, .aload_n 0, 2540, 0, 0), (2540, .iload 5, 2542, 0, 0), (2542, .iconst 1, 2543, 0, 1), (2543, .iadd, 2544, 0, 0), (2544, .iaload, 2545, 0, 0), (2545, .invokevirtual 317, 2548, 0, 0), (2548, .if_icmp .eq 69, 2551, 2617, 0), (2551, .iconst 0, 2552, 0, 0), (2552, .ireturn, 2553, 0, 0)]
theorem TC_59 : jT mLw [] [] tC_59 := jT.of (cs := []) (fun _ h => absurd h List.not_mem_nil) (fun _ h => absurd h List.not_mem_nil) (fun _ h => absurd h List.not_mem_nil) (by decide +kernel) (by decide +kernel)
theorem LC_59 {g : jG} {N : Nat} {xs : Nat → Int32} (hX : jScr g N xs) {T : lwT} {c0 s0 : Nat} (hc0 : c0 ≤ 601024) (hs0 : s0 ≤ 7293034) {i : Nat} (hi : i + 6 ≤ N) {σ : jM} (hR : xR σ) (k : ∀ υ, xR υ → jY g (zL T c0 s0) mLw 1000 2617 (LL i) [] υ) : jY g (zL T c0 s0) mLw 1000 2528 (LL i) [] σ := by
  obtain ⟨p1, q1⟩ := xs_passMonths (xs (i + 1)) σ hR
  refine jy_aloadn (j := 1) rfl (TC_59.row (show jtb tC_59 2528 = _ from rfl)).1 ?_
  refine jy_S hX 1 rfl rfl hi (by decide) (TC_59.row (show jtb tC_59 2529 = _ from rfl)).1 (TC_59.row (show jtb tC_59 2530 = _ from rfl)).1 (TC_59.row (show jtb tC_59 2532 = _ from rfl)).1 (TC_59.row (show jtb tC_59 2533 = _ from rfl)).1 (TC_59.row (show jtb tC_59 2534 = _ from rfl)).1 ?_
  refine jy_callV (n' := 0 + 7) (mt' := mX11_passMonths) (as := [.int (xs (i + 1))]) (r := []) (ci := 11) (a := 0) (zL_ok (by decide) hc0 hs0) TC_59 (show jtb tC_59 2535 = _ from rfl) kL_314 WX11_passMonths rfl (by decide +kernel) rfl (by decide) rfl (by simp) (CX11_passMonths g 0 _ σ p1) (fun v τ hv => ?_)
  obtain ⟨p2, q2⟩ := q1 v τ hv
  refine jy_aloadn (j := 2) rfl (TC_59.row (show jtb tC_59 2538 = _ from rfl)).1 ?_
  refine jy_S hX 1 rfl rfl hi (by decide) (TC_59.row (show jtb tC_59 2539 = _ from rfl)).1 (TC_59.row (show jtb tC_59 2540 = _ from rfl)).1 (TC_59.row (show jtb tC_59 2542 = _ from rfl)).1 (TC_59.row (show jtb tC_59 2543 = _ from rfl)).1 (TC_59.row (show jtb tC_59 2544 = _ from rfl)).1 ?_
  refine jy_callV (n' := 0 + 17) (mt' := mX12_passMonths) (as := [.int (xs (i + 1))]) (r := v.toList ++ []) (ci := 12) (a := 322) (zL_ok (by decide) hc0 hs0) TC_59 (show jtb tC_59 2545 = _ from rfl) kL_317 WX12_passMonths rfl (by decide +kernel) rfl (by decide) rfl (opt_cat v) (CX12_passMonths g 0 _ τ p2) (fun w υ hw => ?_)
  obtain ⟨⟨z, rfl⟩, rfl, hR'⟩ := q2 w υ hw
  exact jy_icmp (tg := 2617) (TC_59.row (show jtb tC_59 2548 = _ from rfl)).1 rfl ⟨fun _ => k υ hR', fun h => absurd rfl h⟩
/-! 60: settle -/
def tC_60 : jTb := [(2553, .aload_n 1, 2554, 0, 0), (2554, .invokevirtual 318, 2557, 0, 0), (2557, .aload_n 2, 2558, 0, 0), (2558, .invokevirtual 321, 2561, 0, 0), (2561, .if_icmp .eq 56, 2564, 2617, 0), (2564, .iconst 0, 2565, 0, 0), (2565, .ireturn, 2566, 0, 0)]
theorem TC_60 : jT mLw [] [] tC_60 := jT.of (cs := []) (fun _ h => absurd h List.not_mem_nil) (fun _ h => absurd h List.not_mem_nil) (fun _ h => absurd h List.not_mem_nil) (by decide +kernel) (by decide +kernel)
theorem LC_60 {g : jG} {N : Nat} {xs : Nat → Int32} (hX : jScr g N xs) {T : lwT} {c0 s0 : Nat} (hc0 : c0 ≤ 601024) (hs0 : s0 ≤ 7293034) {i : Nat} (hi : i + 6 ≤ N) {σ : jM} (hR : xR σ) (k : ∀ υ, xR υ → jY g (zL T c0 s0) mLw 1000 2617 (LL i) [] υ) : jY g (zL T c0 s0) mLw 1000 2553 (LL i) [] σ := by
  obtain ⟨p1, q1⟩ := xs_settle σ hR
  refine jy_aloadn (j := 1) rfl (TC_60.row (show jtb tC_60 2553 = _ from rfl)).1 ?_
  refine jy_callV (n' := 0 + 4) (mt' := mX11_settle) (as := []) (r := []) (ci := 11) (a := 0) (zL_ok (by decide) hc0 hs0) TC_60 (show jtb tC_60 2554 = _ from rfl) kL_318 WX11_settle rfl (by decide +kernel) rfl (by decide) rfl (by simp) (CX11_settle g 0 _ σ p1) (fun v τ hv => ?_)
  obtain ⟨p2, q2⟩ := q1 v τ hv
  refine jy_aloadn (j := 2) rfl (TC_60.row (show jtb tC_60 2557 = _ from rfl)).1 ?_
  refine jy_callV (n' := 0 + 5) (mt' := mX12_settle) (as := []) (r := v.toList ++ []) (ci := 12) (a := 322) (zL_ok (by decide) hc0 hs0) TC_60 (show jtb tC_60 2558 = _ from rfl) kL_321 WX12_settle rfl (by decide +kernel) rfl (by decide) rfl (opt_cat v) (CX12_settle g 0 _ τ p2) (fun w υ hw => ?_)
  obtain ⟨⟨z, rfl⟩, rfl, hR'⟩ := q2 w υ hw
  exact jy_icmp (tg := 2617) (TC_60.row (show jtb tC_60 2561 = _ from rfl)).1 rfl ⟨fun _ => k υ hR', fun h => absurd rfl h⟩
/-! 61: undo -/
def tC_61 : jTb := [(2566, .aload_n 1, 2567, 0, 0), (2567, .invokevirtual 322, 2570, 0, 0), (2570, .aload_n 2, 2571, 0, 0), (2571, .invokevirtual 325, 2574, 0, 0), (2574, .if_icmp .eq 43, 2577, 2617, 0), (2577, .iconst 0, 2578, 0, 0), (2578, .ireturn, 2579, 0, 0)]
theorem TC_61 : jT mLw [] [] tC_61 := jT.of (cs := []) (fun _ h => absurd h List.not_mem_nil) (fun _ h => absurd h List.not_mem_nil) (fun _ h => absurd h List.not_mem_nil) (by decide +kernel) (by decide +kernel)
theorem LC_61 {g : jG} {N : Nat} {xs : Nat → Int32} (hX : jScr g N xs) {T : lwT} {c0 s0 : Nat} (hc0 : c0 ≤ 601024) (hs0 : s0 ≤ 7293034) {i : Nat} (hi : i + 6 ≤ N) {σ : jM} (hR : xR σ) (k : ∀ υ, xR υ → jY g (zL T c0 s0) mLw 1000 2617 (LL i) [] υ) : jY g (zL T c0 s0) mLw 1000 2566 (LL i) [] σ := by
  obtain ⟨p1, q1⟩ := xs_undo σ hR
  refine jy_aloadn (j := 1) rfl (TC_61.row (show jtb tC_61 2566 = _ from rfl)).1 ?_
  refine jy_callV (n' := 0 + 3) (mt' := mX11_undo) (as := []) (r := []) (ci := 11) (a := 0) (zL_ok (by decide) hc0 hs0) TC_61 (show jtb tC_61 2567 = _ from rfl) kL_322 WX11_undo rfl (by decide +kernel) rfl (by decide) rfl (by simp) (CX11_undo g 0 _ σ p1) (fun v τ hv => ?_)
  obtain ⟨p2, q2⟩ := q1 v τ hv
  refine jy_aloadn (j := 2) rfl (TC_61.row (show jtb tC_61 2570 = _ from rfl)).1 ?_
  refine jy_callV (n' := 0 + 0) (mt' := mX12_undo) (as := []) (r := v.toList ++ []) (ci := 12) (a := 322) (zL_ok (by decide) hc0 hs0) TC_61 (show jtb tC_61 2571 = _ from rfl) kL_325 WX12_undo rfl (by decide +kernel) rfl (by decide) rfl (opt_cat v) (CX12_undo g 0 _ τ p2) (fun w υ hw => ?_)
  obtain ⟨⟨z, rfl⟩, rfl, hR'⟩ := q2 w υ hw
  exact jy_icmp (tg := 2617) (TC_61.row (show jtb tC_61 2574 = _ from rfl)).1 rfl ⟨fun _ => k υ hR', fun h => absurd rfl h⟩
/-! 62: write -/
def tC_62 : jTb := [(2579, .aload_n 1, 2580, 0, 0), (2580, .invokevirtual 326, 2583, 0, 0), (2583, .aload_n 2, 2584, 0, 0), (2584, .invokevirtual 329, 2587, 0, 0), (2587, .if_icmp .eq 30, 2590, 2617, 0), (2590, .iconst 0, 2591, 0, 0), (2591, .ireturn, 2592, 0, 0)]
theorem TC_62 : jT mLw [] [] tC_62 := jT.of (cs := []) (fun _ h => absurd h List.not_mem_nil) (fun _ h => absurd h List.not_mem_nil) (fun _ h => absurd h List.not_mem_nil) (by decide +kernel) (by decide +kernel)
theorem LC_62 {g : jG} {N : Nat} {xs : Nat → Int32} (hX : jScr g N xs) {T : lwT} {c0 s0 : Nat} (hc0 : c0 ≤ 601024) (hs0 : s0 ≤ 7293034) {i : Nat} (hi : i + 6 ≤ N) {σ : jM} (hR : xR σ) (k : ∀ υ, xR υ → jY g (zL T c0 s0) mLw 1000 2617 (LL i) [] υ) : jY g (zL T c0 s0) mLw 1000 2579 (LL i) [] σ := by
  obtain ⟨p1, q1⟩ := xs_write σ hR
  refine jy_aloadn (j := 1) rfl (TC_62.row (show jtb tC_62 2579 = _ from rfl)).1 ?_
  refine jy_callV (n' := 0 + 3) (mt' := mX11_write) (as := []) (r := []) (ci := 11) (a := 0) (zL_ok (by decide) hc0 hs0) TC_62 (show jtb tC_62 2580 = _ from rfl) kL_326 WX11_write rfl (by decide +kernel) rfl (by decide) rfl (by simp) (CX11_write g 0 _ σ p1) (fun v τ hv => ?_)
  obtain ⟨p2, q2⟩ := q1 v τ hv
  refine jy_aloadn (j := 2) rfl (TC_62.row (show jtb tC_62 2583 = _ from rfl)).1 ?_
  refine jy_callV (n' := 0 + 3) (mt' := mX12_write) (as := []) (r := v.toList ++ []) (ci := 12) (a := 322) (zL_ok (by decide) hc0 hs0) TC_62 (show jtb tC_62 2584 = _ from rfl) kL_329 WX12_write rfl (by decide +kernel) rfl (by decide) rfl (opt_cat v) (CX12_write g 0 _ τ p2) (fun w υ hw => ?_)
  obtain ⟨⟨z, rfl⟩, rfl, hR'⟩ := q2 w υ hw
  exact jy_icmp (tg := 2617) (TC_62.row (show jtb tC_62 2587 = _ from rfl)).1 rfl ⟨fun _ => k υ hR', fun h => absurd rfl h⟩
/-! 63: outputAt -/
def tC_63 : jTb := [(2592, .aload_n 1, 2593, 0, 0), (2593, .aload_n 0, 2594, 0, 0), (2594, .iload 5, 2596, 0, 0), (2596, .iconst 1, 2597, 0, 1), (2597, .iadd, 2598, 0, 0), (2598, .iaload, 2599, 0, 0), (2599, .invokevirtual 330, 2602, 0, 0), (2602, .aload_n 2, 2603, 0, 0), (2603, .aload_n 0, 2604, 0, 0), (2604, .iload 5, 2606, 0, 0), (2606, .iconst 1, 2607, 0, 1), (2607, .iadd, 2608, 0, 0), (2608, .iaload, 2609, 0, 0), (2609, .invokevirtual 333, 2612, 0, 0), (2612, .if_icmp .eq 5, 2615, 2617, 0), (2615, .iconst 0, 2616, 0, 0), (2616, .ireturn, 2617, 0, 0)]
theorem TC_63 : jT mLw [] [] tC_63 := jT.of (cs := []) (fun _ h => absurd h List.not_mem_nil) (fun _ h => absurd h List.not_mem_nil) (fun _ h => absurd h List.not_mem_nil) (by decide +kernel) (by decide +kernel)
theorem LC_63 {g : jG} {N : Nat} {xs : Nat → Int32} (hX : jScr g N xs) {T : lwT} {c0 s0 : Nat} (hc0 : c0 ≤ 601024) (hs0 : s0 ≤ 7293034) {i : Nat} (hi : i + 6 ≤ N) {σ : jM} (hR : xR σ) (k : ∀ υ, xR υ → jY g (zL T c0 s0) mLw 1000 2617 (LL i) [] υ) : jY g (zL T c0 s0) mLw 1000 2592 (LL i) [] σ := by
  obtain ⟨p1, q1⟩ := xs_outputAt (xs (i + 1)) σ hR
  refine jy_aloadn (j := 1) rfl (TC_63.row (show jtb tC_63 2592 = _ from rfl)).1 ?_
  refine jy_S hX 1 rfl rfl hi (by decide) (TC_63.row (show jtb tC_63 2593 = _ from rfl)).1 (TC_63.row (show jtb tC_63 2594 = _ from rfl)).1 (TC_63.row (show jtb tC_63 2596 = _ from rfl)).1 (TC_63.row (show jtb tC_63 2597 = _ from rfl)).1 (TC_63.row (show jtb tC_63 2598 = _ from rfl)).1 ?_
  refine jy_callV (n' := 0 + 1) (mt' := mX11_outputAt) (as := [.int (xs (i + 1))]) (r := []) (ci := 11) (a := 0) (zL_ok (by decide) hc0 hs0) TC_63 (show jtb tC_63 2599 = _ from rfl) kL_330 WX11_outputAt rfl (by decide +kernel) rfl (by decide) rfl (by simp) (CX11_outputAt g 0 _ σ p1) (fun v τ hv => ?_)
  obtain ⟨p2, q2⟩ := q1 v τ hv
  refine jy_aloadn (j := 2) rfl (TC_63.row (show jtb tC_63 2602 = _ from rfl)).1 ?_
  refine jy_S hX 1 rfl rfl hi (by decide) (TC_63.row (show jtb tC_63 2603 = _ from rfl)).1 (TC_63.row (show jtb tC_63 2604 = _ from rfl)).1 (TC_63.row (show jtb tC_63 2606 = _ from rfl)).1 (TC_63.row (show jtb tC_63 2607 = _ from rfl)).1 (TC_63.row (show jtb tC_63 2608 = _ from rfl)).1 ?_
  refine jy_callV (n' := 0 + 1) (mt' := mX12_outputAt) (as := [.int (xs (i + 1))]) (r := v.toList ++ []) (ci := 12) (a := 322) (zL_ok (by decide) hc0 hs0) TC_63 (show jtb tC_63 2609 = _ from rfl) kL_333 WX12_outputAt rfl (by decide +kernel) rfl (by decide) rfl (opt_cat v) (CX12_outputAt g 0 _ τ p2) (fun w υ hw => ?_)
  obtain ⟨⟨z, rfl⟩, rfl, hR'⟩ := q2 w υ hw
  exact jy_icmp (tg := 2617) (TC_63.row (show jtb tC_63 2612 = _ from rfl)).1 rfl ⟨fun _ => k υ hR', fun h => absurd rfl h⟩
