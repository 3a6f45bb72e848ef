/-! the law's cases of calls that may throw -/
section LW3
variable {g : jG} {mt : jMt} {n : Nat} {pc : Nat} {L : List (Nat × Value)} {r : List Value} {σ : jM} {zZ : jZ}
theorem jy_boolL {x : Int32} (d0 : decode mt.2.1 pc = .ok (.ifCond .eq 7, 3)) (d3 : decode mt.2.1 (pc + 3) = .ok (.lconst 1, 1)) (d4 : decode mt.2.1 (pc + 4) = .ok (.goto 4, 3)) (d7 : decode mt.2.1 (pc + 7) = .ok (.lconst 0, 1))
    (k : jY g zZ mt n (pc + 8) L (.long (if x = 0 then 0 else 1) :: r) σ) : jY g zZ mt n pc L (.int x :: r) σ := by
  refine jy_if (tg := pc + 7) d0 (by omega) ⟨fun h => ?_, fun h => ?_⟩
  · rw [if_pos h] at k
    exact jy_lconst (v := 0) rfl d7 k
  · rw [if_neg h] at k
    exact jy_lconst (v := 1) rfl d3 (jy_goto (tg := pc + 8) d4 (by omega) k)
theorem jy_ofL {x y : Int64} (e : x = y) (k : jY g zZ mt n pc L (.long y :: r) σ) : jY g zZ mt n pc L (.long x :: r) σ := e ▸ k
theorem jy_ofI {x y : Int32} (e : x = y) (k : jY g zZ mt n pc L (.int y :: r) σ) : jY g zZ mt n pc L (.int x :: r) σ := e ▸ k
theorem lg_cmp_self (x : Int64) : lg_cmp x x = 0 := by
  unfold lg_cmp
  simp
theorem LL67 (i : Nat) (v w : Int32) : ∀ q ∈ LL i, q ∈ jins 7 (.int w) (jins 6 (.int v) (LL i)) := by
  intro q hq
  simp only [LL, List.mem_cons, List.not_mem_nil, or_false] at hq
  rcases hq with rfl | rfl | rfl | rfl | rfl | rfl <;> simp [jins, jsrt, LL, Value.category, jble]
end LW3
/-! 12: stateOf -/
def tC_12 : jTb := [(580, .aload_n 1, 581, 0, 0), (581, .aload_n 0, 582, 0, 0), (582, .iload 5, 584, 0, 0), (584, .iconst 1, 585, 0, 1), (585, .iadd, 586, 0, 0), (586, .iaload, 587, 0, 0), (587, .aload_n 3, 588, 0, 0), (588, .invokestatic 136, 591, 0, 0), (591, .istore 6, 593, 0, 0), (593, .aload_n 2, 594, 0, 0), (594, .aload_n 0, 595, 0, 0), (595, .iload 5, 597, 0, 0), (597, .iconst 1, 598, 0, 1), (598, .iadd, 599, 0, 0), (599, .iaload, 600, 0, 0), (600, .invokevirtual 141, 603, 0, 0), (603, .istore 7, 605, 0, 0), (605, .aload_n 2, 606, 0, 0), (606, .invokevirtual 142, 609, 0, 0), (609, .iload 6, 611, 0, 0), (611, .if_icmp .eq 5, 614, 616, 0), (614, .iconst 0, 615, 0, 0), (615, .ireturn, 616, 0, 0), (616, .iload 6, 618, 0, 0), (618, .ifCond .ne 15, 621, 633, 0), (621, .aload_n 3, 622, 0, 0), (622, .iconst 0, 623, 0, 0), (623, .laload, 624, 0, 0), (624, .iload 7, 626, 0, 0), (626, .i2l, 627, 0, 0), (627, .lcmp, 628, 0, 0), (628, .ifCond .eq 5, 631, 633, 0), (631, .iconst 0, 632, 0, 0), (632, .ireturn, 633, 0, 0), (633, .goto 1984, 636, 2617, 0)]
theorem TC_12 : jT mLw [] [] tC_12 := jT.of (cs := []) (fun _ h => absurd h List.not_mem_nil) (fun _ h => absurd h List.not_mem_nil) (fun _ h => absurd h List.not_mem_nil) (by decide +kernel) (by decide +kernel)
theorem kL_136 : Cond.methodLink RL 136 yL_stateOf ∈ jGw := jGw_of 1208 (by decide +kernel) (by decide +kernel)
theorem LA_12 {g : jG} {N : Nat} {xs : Nat → Int32} (hX : jScr g N xs) {T : lwT} {c0 s0 : Nat} (hc0 : c0 + 1 ≤ 601024) (hs0 : s0 + 6 ≤ 7293034) {i : Nat} (hi : i + 6 ≤ N) {σ : jM} (k : ∀ υ, xR υ → jY g (zL T (c0 + 1) (s0 + 6)) mLw 1000 2617 (LL i) [] υ) (p1 : (oX11_stateOf [.ref 0, .int (xs (i + 1))] σ).1) (q1 : ∀ v τ, (oX11_stateOf [.ref 0, .int (xs (i + 1))] σ).2 v τ → ∀ y : Int64, (oX12_stateOf [.ref 322, .int (xs (i + 1))] (jupL τ 352 0 y)).1 ∧ ∀ w υ, (oX12_stateOf [.ref 322, .int (xs (i + 1))] (jupL τ 352 0 y)).2 w υ → w = v ∧ υ.1 322 11 = 0 ∧ υ.2.1 352 0 = y ∧ xR υ) (hv1 : ∀ σ' v τ, (oX11_stateOf [.ref 0, .int (xs (i + 1))] σ').2 v τ → ∃ a : Int32, v = some (.int a)) : jY g (zL T c0 s0) mLw 1000 580 (LL i) [] σ := by
  refine jy_aloadn (j := 1) rfl (TC_12.row (show jtb tC_12 580 = _ from rfl)).1 ?_
  refine jy_S hX 1 rfl rfl hi (by decide) (TC_12.row (show jtb tC_12 581 = _ from rfl)).1 (TC_12.row (show jtb tC_12 582 = _ from rfl)).1 (TC_12.row (show jtb tC_12 584 = _ from rfl)).1 (TC_12.row (show jtb tC_12 585 = _ from rfl)).1 (TC_12.row (show jtb tC_12 586 = _ from rfl)).1 ?_
  refine jy_aloadn (j := 3) rfl (TC_12.row (show jtb tC_12 587 = _ from rfl)).1 ?_
  refine jy_callSW (n' := 0 + 2 + 1) (mt' := mL_stateOf) (hh := hL_stateOf) (as := [.ref 0, .int (xs (i + 1)), .ref 352]) (r := []) (by decide) hc0 hs0 TC_12 (show jtb tC_12 588 = _ from rfl) kL_136 WL_stateOf rfl (by decide) rfl (by simp) (NL_stateOf 0 2 (hv1 _) (CX11_stateOf g 0 _ σ p1)) (fun v τ hv => ?_)
  obtain ⟨rfl, a, τ', hq, rfl⟩ := hv
  obtain ⟨p2, q2⟩ := q1 _ τ' hq a.toInt64
  refine jy_istore (j := 6) (by decide) (TC_12.row (show jtb tC_12 591 = _ from rfl)).1 ?_
  refine jy_aloadn (j := 2) rfl (TC_12.row (show jtb tC_12 593 = _ from rfl)).1 ?_
  refine jy_S hX 1 rfl rfl hi (by decide) (TC_12.row (show jtb tC_12 594 = _ from rfl)).1 (TC_12.row (show jtb tC_12 595 = _ from rfl)).1 (TC_12.row (show jtb tC_12 597 = _ from rfl)).1 (TC_12.row (show jtb tC_12 598 = _ from rfl)).1 (TC_12.row (show jtb tC_12 599 = _ from rfl)).1 ?_
  refine jy_callV (n' := 0 + 2) (mt' := mX12_stateOf) (as := [.int (xs (i + 1))]) (r := []) (ci := 12) (a := 322) (zL_ok (by decide) hc0 hs0) TC_12 (show jtb tC_12 600 = _ from rfl) kL_141 WX12_stateOf rfl (by decide +kernel) rfl (by decide) rfl (by simp) (CX12_stateOf g 0 _ _ p2) (fun w υ hw => ?_)
  obtain ⟨rfl, e1, e2, hR'⟩ := q2 w υ hw
  refine jy_istore (j := 7) (by decide) (TC_12.row (show jtb tC_12 603 = _ from rfl)).1 ?_
  refine jy_aloadn (j := 2) rfl (TC_12.row (show jtb tC_12 605 = _ from rfl)).1 ?_
  refine jy_callV (n' := 0 + 0) (mt' := mX12_thrown) (as := []) (r := []) (ci := 12) (a := 322) (zL_ok (by decide) hc0 hs0) TC_12 (show jtb tC_12 606 = _ from rfl) kL_142 WX12_thrown rfl (by decide +kernel) rfl (by decide) rfl (by simp) (CX12_thrown g 0 [.ref 322] υ rfl) (fun w υ' hw => ?_)
  obtain ⟨rfl, rfl⟩ := hw
  rw [e1]
  refine jy_iload (x := 0) rfl (TC_12.row (show jtb tC_12 609 = _ from rfl)).1 ?_
  refine jy_icmp (tg := 616) (TC_12.row (show jtb tC_12 611 = _ from rfl)).1 rfl ⟨fun _ => ?_, fun h => absurd rfl h⟩
  refine jy_iload (x := 0) rfl (TC_12.row (show jtb tC_12 616 = _ from rfl)).1 ?_
  refine jy_if (tg := 633) (TC_12.row (show jtb tC_12 618 = _ from rfl)).1 rfl ⟨fun h => absurd rfl h, fun _ => ?_⟩
  refine jy_aloadn (j := 3) rfl (TC_12.row (show jtb tC_12 621 = _ from rfl)).1 ?_
  refine jy_iconst (v := 0) rfl (TC_12.row (show jtb tC_12 622 = _ from rfl)).1 ?_
  refine jy_lald (a := 352) (by decide +kernel) (show jin 0 1 from ⟨by decide, by decide⟩) (TC_12.row (show jtb tC_12 623 = _ from rfl)).1 ?_
  refine jy_ofL e2 ?_
  refine jy_iload (x := a) rfl (TC_12.row (show jtb tC_12 624 = _ from rfl)).1 ?_
  refine jy_i2l (TC_12.row (show jtb tC_12 626 = _ from rfl)).1 ?_
  refine jy_lcmp (TC_12.row (show jtb tC_12 627 = _ from rfl)).1 ?_
  refine jy_ofI (lg_cmp_self _) ?_
  refine jy_if (tg := 633) (TC_12.row (show jtb tC_12 628 = _ from rfl)).1 rfl ⟨fun _ => ?_, fun h => absurd rfl h⟩
  exact jy_goto (tg := 2617) (TC_12.row (show jtb tC_12 633 = _ from rfl)).1 rfl ((k _ hR').mono (LL67 i _ _))
theorem LB_12 {g : jG} (hEx : jEx g) {N : Nat} {xs : Nat → Int32} (hX : jScr g N xs) {T : lwT} {c0 s0 : Nat} (hc0 : c0 + 1 ≤ 601024) (hs0 : s0 + 6 ≤ 7293034) {i : Nat} (hi : i + 6 ≤ N) {σ : jM} (k : ∀ υ, xR υ → jY g (zL T (c0 + 1) (s0 + 6)) mLw 1000 2617 (LL i) [] υ) {th : jM → jM → Prop} (ht : ∀ n, jTh g (n + 20) mX11_stateOf [.ref 0, .int (xs (i + 1))] σ (th σ)) (q1 : ∀ τ, th σ τ → (oX12_stateOf [.ref 322, .int (xs (i + 1))] τ).1 ∧ ∀ w υ, (oX12_stateOf [.ref 322, .int (xs (i + 1))] τ).2 w υ → (∃ x, w = some (.int x)) ∧ υ.1 322 11 = 1 ∧ xR υ) : jY g (zL T c0 s0) mLw 1000 580 (LL i) [] σ := by
  refine jy_aloadn (j := 1) rfl (TC_12.row (show jtb tC_12 580 = _ from rfl)).1 ?_
  refine jy_S hX 1 rfl rfl hi (by decide) (TC_12.row (show jtb tC_12 581 = _ from rfl)).1 (TC_12.row (show jtb tC_12 582 = _ from rfl)).1 (TC_12.row (show jtb tC_12 584 = _ from rfl)).1 (TC_12.row (show jtb tC_12 585 = _ from rfl)).1 (TC_12.row (show jtb tC_12 586 = _ from rfl)).1 ?_
  refine jy_aloadn (j := 3) rfl (TC_12.row (show jtb tC_12 587 = _ from rfl)).1 ?_
  refine jy_callSW (n' := 0 + 20 + 1) (mt' := mL_stateOf) (hh := hL_stateOf) (as := [.ref 0, .int (xs (i + 1)), .ref 352]) (r := []) (by decide) hc0 hs0 TC_12 (show jtb tC_12 588 = _ from rfl) kL_136 WL_stateOf rfl (by decide) rfl (by simp) (PL_stateOf hEx (0 + 20) (ht _)) (fun v τ hv => ?_)
  obtain ⟨rfl, hτ⟩ := hv
  obtain ⟨p2, q2⟩ := q1 τ hτ
  refine jy_istore (j := 6) (by decide) (TC_12.row (show jtb tC_12 591 = _ from rfl)).1 ?_
  refine jy_aloadn (j := 2) rfl (TC_12.row (show jtb tC_12 593 = _ from rfl)).1 ?_
  refine jy_S hX 1 rfl rfl hi (by decide) (TC_12.row (show jtb tC_12 594 = _ from rfl)).1 (TC_12.row (show jtb tC_12 595 = _ from rfl)).1 (TC_12.row (show jtb tC_12 597 = _ from rfl)).1 (TC_12.row (show jtb tC_12 598 = _ from rfl)).1 (TC_12.row (show jtb tC_12 599 = _ from rfl)).1 ?_
  refine jy_callV (n' := 0 + 2) (mt' := mX12_stateOf) (as := [.int (xs (i + 1))]) (r := []) (ci := 12) (a := 322) (zL_ok (by decide) hc0 hs0) TC_12 (show jtb tC_12 600 = _ from rfl) kL_141 WX12_stateOf rfl (by decide +kernel) rfl (by decide) rfl (by simp) (CX12_stateOf g 0 _ _ p2) (fun w υ hw => ?_)
  obtain ⟨⟨a, rfl⟩, e1, hR'⟩ := q2 w υ hw
  refine jy_istore (j := 7) (by decide) (TC_12.row (show jtb tC_12 603 = _ from rfl)).1 ?_
  refine jy_aloadn (j := 2) rfl (TC_12.row (show jtb tC_12 605 = _ from rfl)).1 ?_
  refine jy_callV (n' := 0 + 0) (mt' := mX12_thrown) (as := []) (r := []) (ci := 12) (a := 322) (zL_ok (by decide) hc0 hs0) TC_12 (show jtb tC_12 606 = _ from rfl) kL_142 WX12_thrown rfl (by decide +kernel) rfl (by decide) rfl (by simp) (CX12_thrown g 0 [.ref 322] υ rfl) (fun w υ' hw => ?_)
  obtain ⟨rfl, rfl⟩ := hw
  rw [e1]
  refine jy_iload (x := 1) rfl (TC_12.row (show jtb tC_12 609 = _ from rfl)).1 ?_
  refine jy_icmp (tg := 616) (TC_12.row (show jtb tC_12 611 = _ from rfl)).1 rfl ⟨fun _ => ?_, fun h => absurd rfl h⟩
  refine jy_iload (x := 1) rfl (TC_12.row (show jtb tC_12 616 = _ from rfl)).1 ?_
  refine jy_if (tg := 633) (TC_12.row (show jtb tC_12 618 = _ from rfl)).1 rfl ⟨fun _ => ?_, fun h => absurd h (by decide)⟩
  exact jy_goto (tg := 2617) (TC_12.row (show jtb tC_12 633 = _ from rfl)).1 rfl ((k _ hR').mono (LL67 i _ _))
/-! 13: incomeOf -/
def tC_13 : jTb := [(636, .aload_n 1, 637, 0, 0), (637, .aload_n 0, 638, 0, 0), (638, .iload 5, 640, 0, 0), (640, .iconst 1, 641, 0, 1), (641, .iadd, 642, 0, 0), (642, .iaload, 643, 0, 0), (643, .aload_n 3, 644, 0, 0), (644, .invokestatic 145, 647, 0, 0), (647, .istore 6, 649, 0, 0), (649, .aload_n 2, 650, 0, 0), (650, .aload_n 0, 651, 0, 0), (651, .iload 5, 653, 0, 0), (653, .iconst 1, 654, 0, 1), (654, .iadd, 655, 0, 0), (655, .iaload, 656, 0, 0), (656, .invokevirtual 147, 659, 0, 0), (659, .istore 7, 661, 0, 0), (661, .aload_n 2, 662, 0, 0), (662, .invokevirtual 142, 665, 0, 0), (665, .iload 6, 667, 0, 0), (667, .if_icmp .eq 5, 670, 672, 0), (670, .iconst 0, 671, 0, 0), (671, .ireturn, 672, 0, 0), (672, .iload 6, 674, 0, 0), (674, .ifCond .ne 15, 677, 689, 0), (677, .aload_n 3, 678, 0, 0), (678, .iconst 0, 679, 0, 0), (679, .laload, 680, 0, 0), (680, .iload 7, 682, 0, 0), (682, .i2l, 683, 0, 0), (683, .lcmp, 684, 0, 0), (684, .ifCond .eq 5, 687, 689, 0), (687, .iconst 0, 688, 0, 0), (688, .ireturn, 689, 0, 0), (689, .goto 1928, 692, 2617, 0)]
theorem TC_13 : jT mLw [] [] tC_13 := jT.of (cs := []) (fun _ h => absurd h List.not_mem_nil) (fun _ h => absurd h List.not_mem_nil) (fun _ h => absurd h List.not_mem_nil) (by decide +kernel) (by decide +kernel)
theorem kL_145 : Cond.methodLink RL 145 yL_incomeOf ∈ jGw := jGw_of 1285 (by decide +kernel) (by decide +kernel)
theorem LA_13 {g : jG} {N : Nat} {xs : Nat → Int32} (hX : jScr g N xs) {T : lwT} {c0 s0 : Nat} (hc0 : c0 + 1 ≤ 601024) (hs0 : s0 + 6 ≤ 7293034) {i : Nat} (hi : i + 6 ≤ N) {σ : jM} (k : ∀ υ, xR υ → jY g (zL T (c0 + 1) (s0 + 6)) mLw 1000 2617 (LL i) [] υ) (p1 : (oX11_incomeOf [.ref 0, .int (xs (i + 1))] σ).1) (q1 : ∀ v τ, (oX11_incomeOf [.ref 0, .int (xs (i + 1))] σ).2 v τ → ∀ y : Int64, (oX12_incomeOf [.ref 322, .int (xs (i + 1))] (jupL τ 352 0 y)).1 ∧ ∀ w υ, (oX12_incomeOf [.ref 322, .int (xs (i + 1))] (jupL τ 352 0 y)).2 w υ → w = v ∧ υ.1 322 11 = 0 ∧ υ.2.1 352 0 = y ∧ xR υ) (hv1 : ∀ σ' v τ, (oX11_incomeOf [.ref 0, .int (xs (i + 1))] σ').2 v τ → ∃ a : Int32, v = some (.int a)) : jY g (zL T c0 s0) mLw 1000 636 (LL i) [] σ := by
  refine jy_aloadn (j := 1) rfl (TC_13.row (show jtb tC_13 636 = _ from rfl)).1 ?_
  refine jy_S hX 1 rfl rfl hi (by decide) (TC_13.row (show jtb tC_13 637 = _ from rfl)).1 (TC_13.row (show jtb tC_13 638 = _ from rfl)).1 (TC_13.row (show jtb tC_13 640 = _ from rfl)).1 (TC_13.row (show jtb tC_13 641 = _ from rfl)).1 (TC_13.row (show jtb tC_13 642 = _ from rfl)).1 ?_
  refine jy_aloadn (j := 3) rfl (TC_13.row (show jtb tC_13 643 = _ from rfl)).1 ?_
  refine jy_callSW (n' := 0 + 2 + 1) (mt' := mL_incomeOf) (hh := hL_incomeOf) (as := [.ref 0, .int (xs (i + 1)), .ref 352]) (r := []) (by decide) hc0 hs0 TC_13 (show jtb tC_13 644 = _ from rfl) kL_145 WL_incomeOf rfl (by decide) rfl (by simp) (NL_incomeOf 0 2 (hv1 _) (CX11_incomeOf g 0 _ σ p1)) (fun v τ hv => ?_)
  obtain ⟨rfl, a, τ', hq, rfl⟩ := hv
  obtain ⟨p2, q2⟩ := q1 _ τ' hq a.toInt64
  refine jy_istore (j := 6) (by decide) (TC_13.row (show jtb tC_13 647 = _ from rfl)).1 ?_
  refine jy_aloadn (j := 2) rfl (TC_13.row (show jtb tC_13 649 = _ from rfl)).1 ?_
  refine jy_S hX 1 rfl rfl hi (by decide) (TC_13.row (show jtb tC_13 650 = _ from rfl)).1 (TC_13.row (show jtb tC_13 651 = _ from rfl)).1 (TC_13.row (show jtb tC_13 653 = _ from rfl)).1 (TC_13.row (show jtb tC_13 654 = _ from rfl)).1 (TC_13.row (show jtb tC_13 655 = _ from rfl)).1 ?_
  refine jy_callV (n' := 0 + 2) (mt' := mX12_incomeOf) (as := [.int (xs (i + 1))]) (r := []) (ci := 12) (a := 322) (zL_ok (by decide) hc0 hs0) TC_13 (show jtb tC_13 656 = _ from rfl) kL_147 WX12_incomeOf rfl (by decide +kernel) rfl (by decide) rfl (by simp) (CX12_incomeOf g 0 _ _ p2) (fun w υ hw => ?_)
  obtain ⟨rfl, e1, e2, hR'⟩ := q2 w υ hw
  refine jy_istore (j := 7) (by decide) (TC_13.row (show jtb tC_13 659 = _ from rfl)).1 ?_
  refine jy_aloadn (j := 2) rfl (TC_13.row (show jtb tC_13 661 = _ from rfl)).1 ?_
  refine jy_callV (n' := 0 + 0) (mt' := mX12_thrown) (as := []) (r := []) (ci := 12) (a := 322) (zL_ok (by decide) hc0 hs0) TC_13 (show jtb tC_13 662 = _ from rfl) kL_142 WX12_thrown rfl (by decide +kernel) rfl (by decide) rfl (by simp) (CX12_thrown g 0 [.ref 322] υ rfl) (fun w υ' hw => ?_)
  obtain ⟨rfl, rfl⟩ := hw
  rw [e1]
  refine jy_iload (x := 0) rfl (TC_13.row (show jtb tC_13 665 = _ from rfl)).1 ?_
  refine jy_icmp (tg := 672) (TC_13.row (show jtb tC_13 667 = _ from rfl)).1 rfl ⟨fun _ => ?_, fun h => absurd rfl h⟩
  refine jy_iload (x := 0) rfl (TC_13.row (show jtb tC_13 672 = _ from rfl)).1 ?_
  refine jy_if (tg := 689) (TC_13.row (show jtb tC_13 674 = _ from rfl)).1 rfl ⟨fun h => absurd rfl h, fun _ => ?_⟩
  refine jy_aloadn (j := 3) rfl (TC_13.row (show jtb tC_13 677 = _ from rfl)).1 ?_
  refine jy_iconst (v := 0) rfl (TC_13.row (show jtb tC_13 678 = _ from rfl)).1 ?_
  refine jy_lald (a := 352) (by decide +kernel) (show jin 0 1 from ⟨by decide, by decide⟩) (TC_13.row (show jtb tC_13 679 = _ from rfl)).1 ?_
  refine jy_ofL e2 ?_
  refine jy_iload (x := a) rfl (TC_13.row (show jtb tC_13 680 = _ from rfl)).1 ?_
  refine jy_i2l (TC_13.row (show jtb tC_13 682 = _ from rfl)).1 ?_
  refine jy_lcmp (TC_13.row (show jtb tC_13 683 = _ from rfl)).1 ?_
  refine jy_ofI (lg_cmp_self _) ?_
  refine jy_if (tg := 689) (TC_13.row (show jtb tC_13 684 = _ from rfl)).1 rfl ⟨fun _ => ?_, fun h => absurd rfl h⟩
  exact jy_goto (tg := 2617) (TC_13.row (show jtb tC_13 689 = _ from rfl)).1 rfl ((k _ hR').mono (LL67 i _ _))
theorem LB_13 {g : jG} (hEx : jEx g) {N : Nat} {xs : Nat → Int32} (hX : jScr g N xs) {T : lwT} {c0 s0 : Nat} (hc0 : c0 + 1 ≤ 601024) (hs0 : s0 + 6 ≤ 7293034) {i : Nat} (hi : i + 6 ≤ N) {σ : jM} (k : ∀ υ, xR υ → jY g (zL T (c0 + 1) (s0 + 6)) mLw 1000 2617 (LL i) [] υ) {th : jM → jM → Prop} (ht : ∀ n, jTh g (n + 20) mX11_incomeOf [.ref 0, .int (xs (i + 1))] σ (th σ)) (q1 : ∀ τ, th σ τ → (oX12_incomeOf [.ref 322, .int (xs (i + 1))] τ).1 ∧ ∀ w υ, (oX12_incomeOf [.ref 322, .int (xs (i + 1))] τ).2 w υ → (∃ x, w = some (.int x)) ∧ υ.1 322 11 = 1 ∧ xR υ) : jY g (zL T c0 s0) mLw 1000 636 (LL i) [] σ := by
  refine jy_aloadn (j := 1) rfl (TC_13.row (show jtb tC_13 636 = _ from rfl)).1 ?_
  refine jy_S hX 1 rfl rfl hi (by decide) (TC_13.row (show jtb tC_13 637 = _ from rfl)).1 (TC_13.row (show jtb tC_13 638 = _ from rfl)).1 (TC_13.row (show jtb tC_13 640 = _ from rfl)).1 (TC_13.row (show jtb tC_13 641 = _ from rfl)).1 (TC_13.row (show jtb tC_13 642 = _ from rfl)).1 ?_
  refine jy_aloadn (j := 3) rfl (TC_13.row (show jtb tC_13 643 = _ from rfl)).1 ?_
  refine jy_callSW (n' := 0 + 20 + 1) (mt' := mL_incomeOf) (hh := hL_incomeOf) (as := [.ref 0, .int (xs (i + 1)), .ref 352]) (r := []) (by decide) hc0 hs0 TC_13 (show jtb tC_13 644 = _ from rfl) kL_145 WL_incomeOf rfl (by decide) rfl (by simp) (PL_incomeOf hEx (0 + 20) (ht _)) (fun v τ hv => ?_)
  obtain ⟨rfl, hτ⟩ := hv
  obtain ⟨p2, q2⟩ := q1 τ hτ
  refine jy_istore (j := 6) (by decide) (TC_13.row (show jtb tC_13 647 = _ from rfl)).1 ?_
  refine jy_aloadn (j := 2) rfl (TC_13.row (show jtb tC_13 649 = _ from rfl)).1 ?_
  refine jy_S hX 1 rfl rfl hi (by decide) (TC_13.row (show jtb tC_13 650 = _ from rfl)).1 (TC_13.row (show jtb tC_13 651 = _ from rfl)).1 (TC_13.row (show jtb tC_13 653 = _ from rfl)).1 (TC_13.row (show jtb tC_13 654 = _ from rfl)).1 (TC_13.row (show jtb tC_13 655 = _ from rfl)).1 ?_
  refine jy_callV (n' := 0 + 2) (mt' := mX12_incomeOf) (as := [.int (xs (i + 1))]) (r := []) (ci := 12) (a := 322) (zL_ok (by decide) hc0 hs0) TC_13 (show jtb tC_13 656 = _ from rfl) kL_147 WX12_incomeOf rfl (by decide +kernel) rfl (by decide) rfl (by simp) (CX12_incomeOf g 0 _ _ p2) (fun w υ hw => ?_)
  obtain ⟨⟨a, rfl⟩, e1, hR'⟩ := q2 w υ hw
  refine jy_istore (j := 7) (by decide) (TC_13.row (show jtb tC_13 659 = _ from rfl)).1 ?_
  refine jy_aloadn (j := 2) rfl (TC_13.row (show jtb tC_13 661 = _ from rfl)).1 ?_
  refine jy_callV (n' := 0 + 0) (mt' := mX12_thrown) (as := []) (r := []) (ci := 12) (a := 322) (zL_ok (by decide) hc0 hs0) TC_13 (show jtb tC_13 662 = _ from rfl) kL_142 WX12_thrown rfl (by decide +kernel) rfl (by decide) rfl (by simp) (CX12_thrown g 0 [.ref 322] υ rfl) (fun w υ' hw => ?_)
  obtain ⟨rfl, rfl⟩ := hw
  rw [e1]
  refine jy_iload (x := 1) rfl (TC_13.row (show jtb tC_13 665 = _ from rfl)).1 ?_
  refine jy_icmp (tg := 672) (TC_13.row (show jtb tC_13 667 = _ from rfl)).1 rfl ⟨fun _ => ?_, fun h => absurd rfl h⟩
  refine jy_iload (x := 1) rfl (TC_13.row (show jtb tC_13 672 = _ from rfl)).1 ?_
  refine jy_if (tg := 689) (TC_13.row (show jtb tC_13 674 = _ from rfl)).1 rfl ⟨fun _ => ?_, fun h => absurd h (by decide)⟩
  exact jy_goto (tg := 2617) (TC_13.row (show jtb tC_13 689 = _ from rfl)).1 rfl ((k _ hR').mono (LL67 i _ _))
/-! 14: valueOf -/
def tC_14 : jTb := [(692, .aload_n 1, 693, 0, 0), (693, .aload_n 0, 694, 0, 0), (694, .iload 5, 696, 0, 0), (696, .iconst 1, 697, 0, 1), (697, .iadd, 698, 0, 0), (698, .iaload, 699, 0, 0), (699, .aload_n 0, 700, 0, 0), (700, .iload 5, 702, 0, 0), (702, .iconst 2, 703, 0, 2), (703, .iadd, 704, 0, 0), (704, .iaload, 705, 0, 0), (705, .aload_n 3, 706, 0, 0), (706, .invokestatic 148, 709, 0, 0), (709, .istore 6, 711, 0, 0), (711, .aload_n 2, 712, 0, 0), (712, .aload_n 0, 713, 0, 0), (713, .iload 5, 715, 0, 0), (715, .iconst 1, 716, 0, 1), (716, .iadd, 717, 0, 0), (717, .iaload, 718, 0, 0), (718, .aload_n 0, 719, 0, 0), (719, .iload 5, 721, 0, 0), (721, .iconst 2, 722, 0, 2), (722, .iadd, 723, 0, 0), (723, .iaload, 724, 0, 0), (724, .invokevirtual 151, 727, 0, 0), (727, .istore 7, 729, 0, 0), (729, .aload_n 2, 730, 0, 0), (730, .invokevirtual 142, 733, 0, 0), (733, .iload 6, 735, 0, 0), (735, .if_icmp .eq 5, 738, 740, 0), (738, .iconst 0, 739, 0, 0), (739, .ireturn, 740, 0, 0), (740, .iload 6, 742, 0, 0), (742, .ifCond .ne 15, 745, 757, 0), (745, .aload_n 3, 746, 0, 0), (746, .iconst 0, 747, 0, 0), (747, .laload, 748, 0, 0), (748, .iload 7, 750, 0, 0), (750, .i2l, 751, 0, 0), (751, .lcmp, 752, 0, 0), (752, .ifCond .eq 5, 755, 757, 0), (755, .iconst 0, 756, 0, 0), (756, .ireturn, 757, 0, 0), (757, .goto 1860, 760, 2617, 0)]
theorem TC_14 : jT mLw [] [] tC_14 := jT.of (cs := []) (fun _ h => absurd h List.not_mem_nil) (fun _ h => absurd h List.not_mem_nil) (fun _ h => absurd h List.not_mem_nil) (by decide +kernel) (by decide +kernel)
theorem kL_148 : Cond.methodLink RL 148 yL_valueOf ∈ jGw := jGw_of 1292 (by decide +kernel) (by decide +kernel)
theorem LA_14 {g : jG} {N : Nat} {xs : Nat → Int32} (hX : jScr g N xs) {T : lwT} {c0 s0 : Nat} (hc0 : c0 + 1 ≤ 601024) (hs0 : s0 + 6 ≤ 7293034) {i : Nat} (hi : i + 6 ≤ N) {σ : jM} (k : ∀ υ, xR υ → jY g (zL T (c0 + 1) (s0 + 6)) mLw 1000 2617 (LL i) [] υ) (p1 : (oX11_valueOf [.ref 0, .int (xs (i + 1)), .int (xs (i + 2))] σ).1) (q1 : ∀ v τ, (oX11_valueOf [.ref 0, .int (xs (i + 1)), .int (xs (i + 2))] σ).2 v τ → ∀ y : Int64, (oX12_valueOf [.ref 322, .int (xs (i + 1)), .int (xs (i + 2))] (jupL τ 352 0 y)).1 ∧ ∀ w υ, (oX12_valueOf [.ref 322, .int (xs (i + 1)), .int (xs (i + 2))] (jupL τ 352 0 y)).2 w υ → w = v ∧ υ.1 322 11 = 0 ∧ υ.2.1 352 0 = y ∧ xR υ) (hv1 : ∀ σ' v τ, (oX11_valueOf [.ref 0, .int (xs (i + 1)), .int (xs (i + 2))] σ').2 v τ → ∃ a : Int32, v = some (.int a)) : jY g (zL T c0 s0) mLw 1000 692 (LL i) [] σ := by
  refine jy_aloadn (j := 1) rfl (TC_14.row (show jtb tC_14 692 = _ from rfl)).1 ?_
  refine jy_S hX 1 rfl rfl hi (by decide) (TC_14.row (show jtb tC_14 693 = _ from rfl)).1 (TC_14.row (show jtb tC_14 694 = _ from rfl)).1 (TC_14.row (show jtb tC_14 696 = _ from rfl)).1 (TC_14.row (show jtb tC_14 697 = _ from rfl)).1 (TC_14.row (show jtb tC_14 698 = _ from rfl)).1 ?_
  refine jy_S hX 2 rfl rfl hi (by decide) (TC_14.row (show jtb tC_14 699 = _ from rfl)).1 (TC_14.row (show jtb tC_14 700 = _ from rfl)).1 (TC_14.row (show jtb tC_14 702 = _ from rfl)).1 (TC_14.row (show jtb tC_14 703 = _ from rfl)).1 (TC_14.row (show jtb tC_14 704 = _ from rfl)).1 ?_
  refine jy_aloadn (j := 3) rfl (TC_14.row (show jtb tC_14 705 = _ from rfl)).1 ?_
  refine jy_callSW (n' := 0 + 3 + 1) (mt' := mL_valueOf) (hh := hL_valueOf) (as := [.ref 0, .int (xs (i + 1)), .int (xs (i + 2)), .ref 352]) (r := []) (by decide) hc0 hs0 TC_14 (show jtb tC_14 706 = _ from rfl) kL_148 WL_valueOf rfl (by decide) rfl (by simp) (NL_valueOf 0 3 (hv1 _) (CX11_valueOf g 0 _ σ p1)) (fun v τ hv => ?_)
  obtain ⟨rfl, a, τ', hq, rfl⟩ := hv
  obtain ⟨p2, q2⟩ := q1 _ τ' hq a.toInt64
  refine jy_istore (j := 6) (by decide) (TC_14.row (show jtb tC_14 709 = _ from rfl)).1 ?_
  refine jy_aloadn (j := 2) rfl (TC_14.row (show jtb tC_14 711 = _ from rfl)).1 ?_
  refine jy_S hX 1 rfl rfl hi (by decide) (TC_14.row (show jtb tC_14 712 = _ from rfl)).1 (TC_14.row (show jtb tC_14 713 = _ from rfl)).1 (TC_14.row (show jtb tC_14 715 = _ from rfl)).1 (TC_14.row (show jtb tC_14 716 = _ from rfl)).1 (TC_14.row (show jtb tC_14 717 = _ from rfl)).1 ?_
  refine jy_S hX 2 rfl rfl hi (by decide) (TC_14.row (show jtb tC_14 718 = _ from rfl)).1 (TC_14.row (show jtb tC_14 719 = _ from rfl)).1 (TC_14.row (show jtb tC_14 721 = _ from rfl)).1 (TC_14.row (show jtb tC_14 722 = _ from rfl)).1 (TC_14.row (show jtb tC_14 723 = _ from rfl)).1 ?_
  refine jy_callV (n' := 0 + 3) (mt' := mX12_valueOf) (as := [.int (xs (i + 1)), .int (xs (i + 2))]) (r := []) (ci := 12) (a := 322) (zL_ok (by decide) hc0 hs0) TC_14 (show jtb tC_14 724 = _ from rfl) kL_151 WX12_valueOf rfl (by decide +kernel) rfl (by decide) rfl (by simp) (CX12_valueOf g 0 _ _ p2) (fun w υ hw => ?_)
  obtain ⟨rfl, e1, e2, hR'⟩ := q2 w υ hw
  refine jy_istore (j := 7) (by decide) (TC_14.row (show jtb tC_14 727 = _ from rfl)).1 ?_
  refine jy_aloadn (j := 2) rfl (TC_14.row (show jtb tC_14 729 = _ from rfl)).1 ?_
  refine jy_callV (n' := 0 + 0) (mt' := mX12_thrown) (as := []) (r := []) (ci := 12) (a := 322) (zL_ok (by decide) hc0 hs0) TC_14 (show jtb tC_14 730 = _ from rfl) kL_142 WX12_thrown rfl (by decide +kernel) rfl (by decide) rfl (by simp) (CX12_thrown g 0 [.ref 322] υ rfl) (fun w υ' hw => ?_)
  obtain ⟨rfl, rfl⟩ := hw
  rw [e1]
  refine jy_iload (x := 0) rfl (TC_14.row (show jtb tC_14 733 = _ from rfl)).1 ?_
  refine jy_icmp (tg := 740) (TC_14.row (show jtb tC_14 735 = _ from rfl)).1 rfl ⟨fun _ => ?_, fun h => absurd rfl h⟩
  refine jy_iload (x := 0) rfl (TC_14.row (show jtb tC_14 740 = _ from rfl)).1 ?_
  refine jy_if (tg := 757) (TC_14.row (show jtb tC_14 742 = _ from rfl)).1 rfl ⟨fun h => absurd rfl h, fun _ => ?_⟩
  refine jy_aloadn (j := 3) rfl (TC_14.row (show jtb tC_14 745 = _ from rfl)).1 ?_
  refine jy_iconst (v := 0) rfl (TC_14.row (show jtb tC_14 746 = _ from rfl)).1 ?_
  refine jy_lald (a := 352) (by decide +kernel) (show jin 0 1 from ⟨by decide, by decide⟩) (TC_14.row (show jtb tC_14 747 = _ from rfl)).1 ?_
  refine jy_ofL e2 ?_
  refine jy_iload (x := a) rfl (TC_14.row (show jtb tC_14 748 = _ from rfl)).1 ?_
  refine jy_i2l (TC_14.row (show jtb tC_14 750 = _ from rfl)).1 ?_
  refine jy_lcmp (TC_14.row (show jtb tC_14 751 = _ from rfl)).1 ?_
  refine jy_ofI (lg_cmp_self _) ?_
  refine jy_if (tg := 757) (TC_14.row (show jtb tC_14 752 = _ from rfl)).1 rfl ⟨fun _ => ?_, fun h => absurd rfl h⟩
  exact jy_goto (tg := 2617) (TC_14.row (show jtb tC_14 757 = _ from rfl)).1 rfl ((k _ hR').mono (LL67 i _ _))
theorem LB_14 {g : jG} (hEx : jEx g) {N : Nat} {xs : Nat → Int32} (hX : jScr g N xs) {T : lwT} {c0 s0 : Nat} (hc0 : c0 + 1 ≤ 601024) (hs0 : s0 + 6 ≤ 7293034) {i : Nat} (hi : i + 6 ≤ N) {σ : jM} (k : ∀ υ, xR υ → jY g (zL T (c0 + 1) (s0 + 6)) mLw 1000 2617 (LL i) [] υ) {th : jM → jM → Prop} (ht : ∀ n, jTh g (n + 20) mX11_valueOf [.ref 0, .int (xs (i + 1)), .int (xs (i + 2))] σ (th σ)) (q1 : ∀ τ, th σ τ → (oX12_valueOf [.ref 322, .int (xs (i + 1)), .int (xs (i + 2))] τ).1 ∧ ∀ w υ, (oX12_valueOf [.ref 322, .int (xs (i + 1)), .int (xs (i + 2))] τ).2 w υ → (∃ x, w = some (.int x)) ∧ υ.1 322 11 = 1 ∧ xR υ) : jY g (zL T c0 s0) mLw 1000 692 (LL i) [] σ := by
  refine jy_aloadn (j := 1) rfl (TC_14.row (show jtb tC_14 692 = _ from rfl)).1 ?_
  refine jy_S hX 1 rfl rfl hi (by decide) (TC_14.row (show jtb tC_14 693 = _ from rfl)).1 (TC_14.row (show jtb tC_14 694 = _ from rfl)).1 (TC_14.row (show jtb tC_14 696 = _ from rfl)).1 (TC_14.row (show jtb tC_14 697 = _ from rfl)).1 (TC_14.row (show jtb tC_14 698 = _ from rfl)).1 ?_
  refine jy_S hX 2 rfl rfl hi (by decide) (TC_14.row (show jtb tC_14 699 = _ from rfl)).1 (TC_14.row (show jtb tC_14 700 = _ from rfl)).1 (TC_14.row (show jtb tC_14 702 = _ from rfl)).1 (TC_14.row (show jtb tC_14 703 = _ from rfl)).1 (TC_14.row (show jtb tC_14 704 = _ from rfl)).1 ?_
  refine jy_aloadn (j := 3) rfl (TC_14.row (show jtb tC_14 705 = _ from rfl)).1 ?_
  refine jy_callSW (n' := 0 + 20 + 1) (mt' := mL_valueOf) (hh := hL_valueOf) (as := [.ref 0, .int (xs (i + 1)), .int (xs (i + 2)), .ref 352]) (r := []) (by decide) hc0 hs0 TC_14 (show jtb tC_14 706 = _ from rfl) kL_148 WL_valueOf rfl (by decide) rfl (by simp) (PL_valueOf hEx (0 + 20) (ht _)) (fun v τ hv => ?_)
  obtain ⟨rfl, hτ⟩ := hv
  obtain ⟨p2, q2⟩ := q1 τ hτ
  refine jy_istore (j := 6) (by decide) (TC_14.row (show jtb tC_14 709 = _ from rfl)).1 ?_
  refine jy_aloadn (j := 2) rfl (TC_14.row (show jtb tC_14 711 = _ from rfl)).1 ?_
  refine jy_S hX 1 rfl rfl hi (by decide) (TC_14.row (show jtb tC_14 712 = _ from rfl)).1 (TC_14.row (show jtb tC_14 713 = _ from rfl)).1 (TC_14.row (show jtb tC_14 715 = _ from rfl)).1 (TC_14.row (show jtb tC_14 716 = _ from rfl)).1 (TC_14.row (show jtb tC_14 717 = _ from rfl)).1 ?_
  refine jy_S hX 2 rfl rfl hi (by decide) (TC_14.row (show jtb tC_14 718 = _ from rfl)).1 (TC_14.row (show jtb tC_14 719 = _ from rfl)).1 (TC_14.row (show jtb tC_14 721 = _ from rfl)).1 (TC_14.row (show jtb tC_14 722 = _ from rfl)).1 (TC_14.row (show jtb tC_14 723 = _ from rfl)).1 ?_
  refine jy_callV (n' := 0 + 3) (mt' := mX12_valueOf) (as := [.int (xs (i + 1)), .int (xs (i + 2))]) (r := []) (ci := 12) (a := 322) (zL_ok (by decide) hc0 hs0) TC_14 (show jtb tC_14 724 = _ from rfl) kL_151 WX12_valueOf rfl (by decide +kernel) rfl (by decide) rfl (by simp) (CX12_valueOf g 0 _ _ p2) (fun w υ hw => ?_)
  obtain ⟨⟨a, rfl⟩, e1, hR'⟩ := q2 w υ hw
  refine jy_istore (j := 7) (by decide) (TC_14.row (show jtb tC_14 727 = _ from rfl)).1 ?_
  refine jy_aloadn (j := 2) rfl (TC_14.row (show jtb tC_14 729 = _ from rfl)).1 ?_
  refine jy_callV (n' := 0 + 0) (mt' := mX12_thrown) (as := []) (r := []) (ci := 12) (a := 322) (zL_ok (by decide) hc0 hs0) TC_14 (show jtb tC_14 730 = _ from rfl) kL_142 WX12_thrown rfl (by decide +kernel) rfl (by decide) rfl (by simp) (CX12_thrown g 0 [.ref 322] υ rfl) (fun w υ' hw => ?_)
  obtain ⟨rfl, rfl⟩ := hw
  rw [e1]
  refine jy_iload (x := 1) rfl (TC_14.row (show jtb tC_14 733 = _ from rfl)).1 ?_
  refine jy_icmp (tg := 740) (TC_14.row (show jtb tC_14 735 = _ from rfl)).1 rfl ⟨fun _ => ?_, fun h => absurd rfl h⟩
  refine jy_iload (x := 1) rfl (TC_14.row (show jtb tC_14 740 = _ from rfl)).1 ?_
  refine jy_if (tg := 757) (TC_14.row (show jtb tC_14 742 = _ from rfl)).1 rfl ⟨fun _ => ?_, fun h => absurd h (by decide)⟩
  exact jy_goto (tg := 2617) (TC_14.row (show jtb tC_14 757 = _ from rfl)).1 rfl ((k _ hR').mono (LL67 i _ _))
/-! 15: refuses -/
def tC_15 : jTb := [(760, .aload_n 1, 761, 0, 0), (761, .aload_n 0, 762, 0, 0), (762, .iload 5, 764, 0, 0), (764, .iconst 1, 765, 0, 1), (765, .iadd, 766, 0, 0), (766, .iaload, 767, 0, 0), (767, .aload_n 0, 768, 0, 0), (768, .iload 5, 770, 0, 0), (770, .iconst 2, 771, 0, 2), (771, .iadd, 772, 0, 0), (772, .iaload, 773, 0, 0), (773, .aload_n 3, 774, 0, 0), (774, .invokestatic 152, 777, 0, 0), (777, .istore 6, 779, 0, 0), (779, .aload_n 2, 780, 0, 0), (780, .aload_n 0, 781, 0, 0), (781, .iload 5, 783, 0, 0), (783, .iconst 1, 784, 0, 1), (784, .iadd, 785, 0, 0), (785, .iaload, 786, 0, 0), (786, .aload_n 0, 787, 0, 0), (787, .iload 5, 789, 0, 0), (789, .iconst 2, 790, 0, 2), (790, .iadd, 791, 0, 0), (791, .iaload, 792, 0, 0), (792, .invokevirtual 154, 795, 0, 0), (795, .istore 7, 797, 0, 0), (797, .aload_n 2, 798, 0, 0), (798, .invokevirtual 142, 801, 0, 0), (801, .iload 6, 803, 0, 0), (803, .if_icmp .eq 5, 806, 808, 0), (806, .iconst 0, 807, 0, 0), (807, .ireturn, 808, 0, 0), (808, .iload 6, 810, 0, 0), (810, .ifCond .ne 22, 813, 832, 0), (813, .aload_n 3, 814, 0, 0), (814, .iconst 0, 815, 0, 0), (815, .laload, 816, 0, 0), (816, .iload 7, 818, 0, 0), (818, .ifCond .eq 7, 821, 825, 0), (821, .lconst 1, 822, 0, 0), (822, .goto 4, 825, 826, 0), (825, .lconst 0, 826, 0, 0), (826, .lcmp, 827, 0, 0), (827, .ifCond .eq 5, 830, 832, 0), (830, .iconst 0, 831, 0, 0), (831, .ireturn, 832, 0, 0), (832, .goto 1785, 835, 2617, 0)]
theorem TC_15 : jT mLw [] [] tC_15 := jT.of (cs := []) (fun _ h => absurd h List.not_mem_nil) (fun _ h => absurd h List.not_mem_nil) (fun _ h => absurd h List.not_mem_nil) (by decide +kernel) (by decide +kernel)
theorem kL_152 : Cond.methodLink RL 152 yL_refuses ∈ jGw := jGw_of 1304 (by decide +kernel) (by decide +kernel)
theorem LA_15 {g : jG} {N : Nat} {xs : Nat → Int32} (hX : jScr g N xs) {T : lwT} {c0 s0 : Nat} (hc0 : c0 + 1 ≤ 601024) (hs0 : s0 + 6 ≤ 7293034) {i : Nat} (hi : i + 6 ≤ N) {σ : jM} (k : ∀ υ, xR υ → jY g (zL T (c0 + 1) (s0 + 6)) mLw 1000 2617 (LL i) [] υ) (p1 : (oX11_refuses [.ref 0, .int (xs (i + 1)), .int (xs (i + 2))] σ).1) (q1 : ∀ v τ, (oX11_refuses [.ref 0, .int (xs (i + 1)), .int (xs (i + 2))] σ).2 v τ → ∀ y : Int64, (oX12_refuses [.ref 322, .int (xs (i + 1)), .int (xs (i + 2))] (jupL τ 352 0 y)).1 ∧ ∀ w υ, (oX12_refuses [.ref 322, .int (xs (i + 1)), .int (xs (i + 2))] (jupL τ 352 0 y)).2 w υ → w = v ∧ υ.1 322 11 = 0 ∧ υ.2.1 352 0 = y ∧ xR υ) (hv1 : ∀ σ' v τ, (oX11_refuses [.ref 0, .int (xs (i + 1)), .int (xs (i + 2))] σ').2 v τ → ∃ a : Int32, v = some (.int a)) : jY g (zL T c0 s0) mLw 1000 760 (LL i) [] σ := by
  refine jy_aloadn (j := 1) rfl (TC_15.row (show jtb tC_15 760 = _ from rfl)).1 ?_
  refine jy_S hX 1 rfl rfl hi (by decide) (TC_15.row (show jtb tC_15 761 = _ from rfl)).1 (TC_15.row (show jtb tC_15 762 = _ from rfl)).1 (TC_15.row (show jtb tC_15 764 = _ from rfl)).1 (TC_15.row (show jtb tC_15 765 = _ from rfl)).1 (TC_15.row (show jtb tC_15 766 = _ from rfl)).1 ?_
  refine jy_S hX 2 rfl rfl hi (by decide) (TC_15.row (show jtb tC_15 767 = _ from rfl)).1 (TC_15.row (show jtb tC_15 768 = _ from rfl)).1 (TC_15.row (show jtb tC_15 770 = _ from rfl)).1 (TC_15.row (show jtb tC_15 771 = _ from rfl)).1 (TC_15.row (show jtb tC_15 772 = _ from rfl)).1 ?_
  refine jy_aloadn (j := 3) rfl (TC_15.row (show jtb tC_15 773 = _ from rfl)).1 ?_
  refine jy_callSW (n' := 0 + 2 + 1) (mt' := mL_refuses) (hh := hL_refuses) (as := [.ref 0, .int (xs (i + 1)), .int (xs (i + 2)), .ref 352]) (r := []) (by decide) hc0 hs0 TC_15 (show jtb tC_15 774 = _ from rfl) kL_152 WL_refuses rfl (by decide) rfl (by simp) (NL_refuses 0 2 (hv1 _) (CX11_refuses g 0 _ σ p1)) (fun v τ hv => ?_)
  obtain ⟨rfl, a, τ', hq, rfl⟩ := hv
  obtain ⟨p2, q2⟩ := q1 _ τ' hq (if a = 0 then 0 else 1)
  refine jy_istore (j := 6) (by decide) (TC_15.row (show jtb tC_15 777 = _ from rfl)).1 ?_
  refine jy_aloadn (j := 2) rfl (TC_15.row (show jtb tC_15 779 = _ from rfl)).1 ?_
  refine jy_S hX 1 rfl rfl hi (by decide) (TC_15.row (show jtb tC_15 780 = _ from rfl)).1 (TC_15.row (show jtb tC_15 781 = _ from rfl)).1 (TC_15.row (show jtb tC_15 783 = _ from rfl)).1 (TC_15.row (show jtb tC_15 784 = _ from rfl)).1 (TC_15.row (show jtb tC_15 785 = _ from rfl)).1 ?_
  refine jy_S hX 2 rfl rfl hi (by decide) (TC_15.row (show jtb tC_15 786 = _ from rfl)).1 (TC_15.row (show jtb tC_15 787 = _ from rfl)).1 (TC_15.row (show jtb tC_15 789 = _ from rfl)).1 (TC_15.row (show jtb tC_15 790 = _ from rfl)).1 (TC_15.row (show jtb tC_15 791 = _ from rfl)).1 ?_
  refine jy_callV (n' := 0 + 3) (mt' := mX12_refuses) (as := [.int (xs (i + 1)), .int (xs (i + 2))]) (r := []) (ci := 12) (a := 322) (zL_ok (by decide) hc0 hs0) TC_15 (show jtb tC_15 792 = _ from rfl) kL_154 WX12_refuses rfl (by decide +kernel) rfl (by decide) rfl (by simp) (CX12_refuses g 0 _ _ p2) (fun w υ hw => ?_)
  obtain ⟨rfl, e1, e2, hR'⟩ := q2 w υ hw
  refine jy_istore (j := 7) (by decide) (TC_15.row (show jtb tC_15 795 = _ from rfl)).1 ?_
  refine jy_aloadn (j := 2) rfl (TC_15.row (show jtb tC_15 797 = _ from rfl)).1 ?_
  refine jy_callV (n' := 0 + 0) (mt' := mX12_thrown) (as := []) (r := []) (ci := 12) (a := 322) (zL_ok (by decide) hc0 hs0) TC_15 (show jtb tC_15 798 = _ from rfl) kL_142 WX12_thrown rfl (by decide +kernel) rfl (by decide) rfl (by simp) (CX12_thrown g 0 [.ref 322] υ rfl) (fun w υ' hw => ?_)
  obtain ⟨rfl, rfl⟩ := hw
  rw [e1]
  refine jy_iload (x := 0) rfl (TC_15.row (show jtb tC_15 801 = _ from rfl)).1 ?_
  refine jy_icmp (tg := 808) (TC_15.row (show jtb tC_15 803 = _ from rfl)).1 rfl ⟨fun _ => ?_, fun h => absurd rfl h⟩
  refine jy_iload (x := 0) rfl (TC_15.row (show jtb tC_15 808 = _ from rfl)).1 ?_
  refine jy_if (tg := 832) (TC_15.row (show jtb tC_15 810 = _ from rfl)).1 rfl ⟨fun h => absurd rfl h, fun _ => ?_⟩
  refine jy_aloadn (j := 3) rfl (TC_15.row (show jtb tC_15 813 = _ from rfl)).1 ?_
  refine jy_iconst (v := 0) rfl (TC_15.row (show jtb tC_15 814 = _ from rfl)).1 ?_
  refine jy_lald (a := 352) (by decide +kernel) (show jin 0 1 from ⟨by decide, by decide⟩) (TC_15.row (show jtb tC_15 815 = _ from rfl)).1 ?_
  refine jy_ofL e2 ?_
  refine jy_iload (x := a) rfl (TC_15.row (show jtb tC_15 816 = _ from rfl)).1 ?_
  refine jy_boolL (TC_15.row (show jtb tC_15 818 = _ from rfl)).1 (TC_15.row (show jtb tC_15 821 = _ from rfl)).1 (TC_15.row (show jtb tC_15 822 = _ from rfl)).1 (TC_15.row (show jtb tC_15 825 = _ from rfl)).1 ?_
  refine jy_lcmp (TC_15.row (show jtb tC_15 826 = _ from rfl)).1 ?_
  refine jy_ofI (lg_cmp_self _) ?_
  refine jy_if (tg := 832) (TC_15.row (show jtb tC_15 827 = _ from rfl)).1 rfl ⟨fun _ => ?_, fun h => absurd rfl h⟩
  exact jy_goto (tg := 2617) (TC_15.row (show jtb tC_15 832 = _ from rfl)).1 rfl ((k _ hR').mono (LL67 i _ _))
theorem LB_15 {g : jG} (hEx : jEx g) {N : Nat} {xs : Nat → Int32} (hX : jScr g N xs) {T : lwT} {c0 s0 : Nat} (hc0 : c0 + 1 ≤ 601024) (hs0 : s0 + 6 ≤ 7293034) {i : Nat} (hi : i + 6 ≤ N) {σ : jM} (k : ∀ υ, xR υ → jY g (zL T (c0 + 1) (s0 + 6)) mLw 1000 2617 (LL i) [] υ) {th : jM → jM → Prop} (ht : ∀ n, jTh g (n + 20) mX11_refuses [.ref 0, .int (xs (i + 1)), .int (xs (i + 2))] σ (th σ)) (q1 : ∀ τ, th σ τ → (oX12_refuses [.ref 322, .int (xs (i + 1)), .int (xs (i + 2))] τ).1 ∧ ∀ w υ, (oX12_refuses [.ref 322, .int (xs (i + 1)), .int (xs (i + 2))] τ).2 w υ → (∃ x, w = some (.int x)) ∧ υ.1 322 11 = 1 ∧ xR υ) : jY g (zL T c0 s0) mLw 1000 760 (LL i) [] σ := by
  refine jy_aloadn (j := 1) rfl (TC_15.row (show jtb tC_15 760 = _ from rfl)).1 ?_
  refine jy_S hX 1 rfl rfl hi (by decide) (TC_15.row (show jtb tC_15 761 = _ from rfl)).1 (TC_15.row (show jtb tC_15 762 = _ from rfl)).1 (TC_15.row (show jtb tC_15 764 = _ from rfl)).1 (TC_15.row (show jtb tC_15 765 = _ from rfl)).1 (TC_15.row (show jtb tC_15 766 = _ from rfl)).1 ?_
  refine jy_S hX 2 rfl rfl hi (by decide) (TC_15.row (show jtb tC_15 767 = _ from rfl)).1 (TC_15.row (show jtb tC_15 768 = _ from rfl)).1 (TC_15.row (show jtb tC_15 770 = _ from rfl)).1 (TC_15.row (show jtb tC_15 771 = _ from rfl)).1 (TC_15.row (show jtb tC_15 772 = _ from rfl)).1 ?_
  refine jy_aloadn (j := 3) rfl (TC_15.row (show jtb tC_15 773 = _ from rfl)).1 ?_
  refine jy_callSW (n' := 0 + 20 + 1) (mt' := mL_refuses) (hh := hL_refuses) (as := [.ref 0, .int (xs (i + 1)), .int (xs (i + 2)), .ref 352]) (r := []) (by decide) hc0 hs0 TC_15 (show jtb tC_15 774 = _ from rfl) kL_152 WL_refuses rfl (by decide) rfl (by simp) (PL_refuses hEx (0 + 20) (ht _)) (fun v τ hv => ?_)
  obtain ⟨rfl, hτ⟩ := hv
  obtain ⟨p2, q2⟩ := q1 τ hτ
  refine jy_istore (j := 6) (by decide) (TC_15.row (show jtb tC_15 777 = _ from rfl)).1 ?_
  refine jy_aloadn (j := 2) rfl (TC_15.row (show jtb tC_15 779 = _ from rfl)).1 ?_
  refine jy_S hX 1 rfl rfl hi (by decide) (TC_15.row (show jtb tC_15 780 = _ from rfl)).1 (TC_15.row (show jtb tC_15 781 = _ from rfl)).1 (TC_15.row (show jtb tC_15 783 = _ from rfl)).1 (TC_15.row (show jtb tC_15 784 = _ from rfl)).1 (TC_15.row (show jtb tC_15 785 = _ from rfl)).1 ?_
  refine jy_S hX 2 rfl rfl hi (by decide) (TC_15.row (show jtb tC_15 786 = _ from rfl)).1 (TC_15.row (show jtb tC_15 787 = _ from rfl)).1 (TC_15.row (show jtb tC_15 789 = _ from rfl)).1 (TC_15.row (show jtb tC_15 790 = _ from rfl)).1 (TC_15.row (show jtb tC_15 791 = _ from rfl)).1 ?_
  refine jy_callV (n' := 0 + 3) (mt' := mX12_refuses) (as := [.int (xs (i + 1)), .int (xs (i + 2))]) (r := []) (ci := 12) (a := 322) (zL_ok (by decide) hc0 hs0) TC_15 (show jtb tC_15 792 = _ from rfl) kL_154 WX12_refuses rfl (by decide +kernel) rfl (by decide) rfl (by simp) (CX12_refuses g 0 _ _ p2) (fun w υ hw => ?_)
  obtain ⟨⟨a, rfl⟩, e1, hR'⟩ := q2 w υ hw
  refine jy_istore (j := 7) (by decide) (TC_15.row (show jtb tC_15 795 = _ from rfl)).1 ?_
  refine jy_aloadn (j := 2) rfl (TC_15.row (show jtb tC_15 797 = _ from rfl)).1 ?_
  refine jy_callV (n' := 0 + 0) (mt' := mX12_thrown) (as := []) (r := []) (ci := 12) (a := 322) (zL_ok (by decide) hc0 hs0) TC_15 (show jtb tC_15 798 = _ from rfl) kL_142 WX12_thrown rfl (by decide +kernel) rfl (by decide) rfl (by simp) (CX12_thrown g 0 [.ref 322] υ rfl) (fun w υ' hw => ?_)
  obtain ⟨rfl, rfl⟩ := hw
  rw [e1]
  refine jy_iload (x := 1) rfl (TC_15.row (show jtb tC_15 801 = _ from rfl)).1 ?_
  refine jy_icmp (tg := 808) (TC_15.row (show jtb tC_15 803 = _ from rfl)).1 rfl ⟨fun _ => ?_, fun h => absurd rfl h⟩
  refine jy_iload (x := 1) rfl (TC_15.row (show jtb tC_15 808 = _ from rfl)).1 ?_
  refine jy_if (tg := 832) (TC_15.row (show jtb tC_15 810 = _ from rfl)).1 rfl ⟨fun _ => ?_, fun h => absurd h (by decide)⟩
  exact jy_goto (tg := 2617) (TC_15.row (show jtb tC_15 832 = _ from rfl)).1 rfl ((k _ hR').mono (LL67 i _ _))
/-! 18: plan -/
def tC_18 : jTb := [(861, .aload_n 1, 862, 0, 0), (862, .aload_n 0, 863, 0, 0), (863, .iload 5, 865, 0, 0), (865, .iconst 1, 866, 0, 1), (866, .iadd, 867, 0, 0), (867, .iaload, 868, 0, 0), (868, .aload_n 0, 869, 0, 0), (869, .iload 5, 871, 0, 0), (871, .iconst 2, 872, 0, 2), (872, .iadd, 873, 0, 0), (873, .iaload, 874, 0, 0), (874, .aload_n 3, 875, 0, 0), (875, .invokestatic 163, 878, 0, 0), (878, .istore 6, 880, 0, 0), (880, .aload_n 2, 881, 0, 0), (881, .aload_n 0, 882, 0, 0), (882, .iload 5, 884, 0, 0), (884, .iconst 1, 885, 0, 1), (885, .iadd, 886, 0, 0), (886, .iaload, 887, 0, 0), (887, .aload_n 0, 888, 0, 0), (888, .iload 5, 890, 0, 0), (890, .iconst 2, 891, 0, 2), (891, .iadd, 892, 0, 0), (892, .iaload, 893, 0, 0), (893, .invokevirtual 165, 896, 0, 0), (896, .istore 7, 898, 0, 0), (898, .aload_n 2, 899, 0, 0), (899, .invokevirtual 142, 902, 0, 0), (902, .iload 6, 904, 0, 0), (904, .if_icmp .eq 5, 907, 909, 0), (907, .iconst 0, 908, 0, 0), (908, .ireturn, 909, 0, 0), (909, .iload 6, 911, 0, 0), (911, .ifCond .ne 15, 914, 926, 0), (914, .aload_n 3, 915, 0, 0), (915, .iconst 0, 916, 0, 0), (916, .laload, 917, 0, 0), (917, .iload 7, 919, 0, 0), (919, .i2l, 920, 0, 0), (920, .lcmp, 921, 0, 0), (921, .ifCond .eq 5, 924, 926, 0), (924, .iconst 0, 925, 0, 0), (925, .ireturn, 926, 0, 0), (926, .goto 1691, 929, 2617, 0)]
theorem TC_18 : jT mLw [] [] tC_18 := jT.of (cs := []) (fun _ h => absurd h List.not_mem_nil) (fun _ h => absurd h List.not_mem_nil) (fun _ h => absurd h List.not_mem_nil) (by decide +kernel) (by decide +kernel)
theorem kL_163 : Cond.methodLink RL 163 yL_plan ∈ jGw := jGw_of 1311 (by decide +kernel) (by decide +kernel)
theorem LA_18 {g : jG} {N : Nat} {xs : Nat → Int32} (hX : jScr g N xs) {T : lwT} {c0 s0 : Nat} (hc0 : c0 + 1 ≤ 601024) (hs0 : s0 + 6 ≤ 7293034) {i : Nat} (hi : i + 6 ≤ N) {σ : jM} (k : ∀ υ, xR υ → jY g (zL T (c0 + 1) (s0 + 6)) mLw 1000 2617 (LL i) [] υ) (p1 : (oX11_plan [.ref 0, .int (xs (i + 1)), .int (xs (i + 2))] σ).1) (q1 : ∀ v τ, (oX11_plan [.ref 0, .int (xs (i + 1)), .int (xs (i + 2))] σ).2 v τ → ∀ y : Int64, (oX12_plan [.ref 322, .int (xs (i + 1)), .int (xs (i + 2))] (jupL τ 352 0 y)).1 ∧ ∀ w υ, (oX12_plan [.ref 322, .int (xs (i + 1)), .int (xs (i + 2))] (jupL τ 352 0 y)).2 w υ → w = v ∧ υ.1 322 11 = 0 ∧ υ.2.1 352 0 = y ∧ xR υ) (hv1 : ∀ σ' v τ, (oX11_plan [.ref 0, .int (xs (i + 1)), .int (xs (i + 2))] σ').2 v τ → ∃ a : Int32, v = some (.int a)) : jY g (zL T c0 s0) mLw 1000 861 (LL i) [] σ := by
  refine jy_aloadn (j := 1) rfl (TC_18.row (show jtb tC_18 861 = _ from rfl)).1 ?_
  refine jy_S hX 1 rfl rfl hi (by decide) (TC_18.row (show jtb tC_18 862 = _ from rfl)).1 (TC_18.row (show jtb tC_18 863 = _ from rfl)).1 (TC_18.row (show jtb tC_18 865 = _ from rfl)).1 (TC_18.row (show jtb tC_18 866 = _ from rfl)).1 (TC_18.row (show jtb tC_18 867 = _ from rfl)).1 ?_
  refine jy_S hX 2 rfl rfl hi (by decide) (TC_18.row (show jtb tC_18 868 = _ from rfl)).1 (TC_18.row (show jtb tC_18 869 = _ from rfl)).1 (TC_18.row (show jtb tC_18 871 = _ from rfl)).1 (TC_18.row (show jtb tC_18 872 = _ from rfl)).1 (TC_18.row (show jtb tC_18 873 = _ from rfl)).1 ?_
  refine jy_aloadn (j := 3) rfl (TC_18.row (show jtb tC_18 874 = _ from rfl)).1 ?_
  refine jy_callSW (n' := 0 + 2 + 1) (mt' := mL_plan) (hh := hL_plan) (as := [.ref 0, .int (xs (i + 1)), .int (xs (i + 2)), .ref 352]) (r := []) (by decide) hc0 hs0 TC_18 (show jtb tC_18 875 = _ from rfl) kL_163 WL_plan rfl (by decide) rfl (by simp) (NL_plan 0 2 (hv1 _) (CX11_plan g 0 _ σ p1)) (fun v τ hv => ?_)
  obtain ⟨rfl, a, τ', hq, rfl⟩ := hv
  obtain ⟨p2, q2⟩ := q1 _ τ' hq a.toInt64
  refine jy_istore (j := 6) (by decide) (TC_18.row (show jtb tC_18 878 = _ from rfl)).1 ?_
  refine jy_aloadn (j := 2) rfl (TC_18.row (show jtb tC_18 880 = _ from rfl)).1 ?_
  refine jy_S hX 1 rfl rfl hi (by decide) (TC_18.row (show jtb tC_18 881 = _ from rfl)).1 (TC_18.row (show jtb tC_18 882 = _ from rfl)).1 (TC_18.row (show jtb tC_18 884 = _ from rfl)).1 (TC_18.row (show jtb tC_18 885 = _ from rfl)).1 (TC_18.row (show jtb tC_18 886 = _ from rfl)).1 ?_
  refine jy_S hX 2 rfl rfl hi (by decide) (TC_18.row (show jtb tC_18 887 = _ from rfl)).1 (TC_18.row (show jtb tC_18 888 = _ from rfl)).1 (TC_18.row (show jtb tC_18 890 = _ from rfl)).1 (TC_18.row (show jtb tC_18 891 = _ from rfl)).1 (TC_18.row (show jtb tC_18 892 = _ from rfl)).1 ?_
  refine jy_callV (n' := 0 + 2) (mt' := mX12_plan) (as := [.int (xs (i + 1)), .int (xs (i + 2))]) (r := []) (ci := 12) (a := 322) (zL_ok (by decide) hc0 hs0) TC_18 (show jtb tC_18 893 = _ from rfl) kL_165 WX12_plan rfl (by decide +kernel) rfl (by decide) rfl (by simp) (CX12_plan g 0 _ _ p2) (fun w υ hw => ?_)
  obtain ⟨rfl, e1, e2, hR'⟩ := q2 w υ hw
  refine jy_istore (j := 7) (by decide) (TC_18.row (show jtb tC_18 896 = _ from rfl)).1 ?_
  refine jy_aloadn (j := 2) rfl (TC_18.row (show jtb tC_18 898 = _ from rfl)).1 ?_
  refine jy_callV (n' := 0 + 0) (mt' := mX12_thrown) (as := []) (r := []) (ci := 12) (a := 322) (zL_ok (by decide) hc0 hs0) TC_18 (show jtb tC_18 899 = _ from rfl) kL_142 WX12_thrown rfl (by decide +kernel) rfl (by decide) rfl (by simp) (CX12_thrown g 0 [.ref 322] υ rfl) (fun w υ' hw => ?_)
  obtain ⟨rfl, rfl⟩ := hw
  rw [e1]
  refine jy_iload (x := 0) rfl (TC_18.row (show jtb tC_18 902 = _ from rfl)).1 ?_
  refine jy_icmp (tg := 909) (TC_18.row (show jtb tC_18 904 = _ from rfl)).1 rfl ⟨fun _ => ?_, fun h => absurd rfl h⟩
  refine jy_iload (x := 0) rfl (TC_18.row (show jtb tC_18 909 = _ from rfl)).1 ?_
  refine jy_if (tg := 926) (TC_18.row (show jtb tC_18 911 = _ from rfl)).1 rfl ⟨fun h => absurd rfl h, fun _ => ?_⟩
  refine jy_aloadn (j := 3) rfl (TC_18.row (show jtb tC_18 914 = _ from rfl)).1 ?_
  refine jy_iconst (v := 0) rfl (TC_18.row (show jtb tC_18 915 = _ from rfl)).1 ?_
  refine jy_lald (a := 352) (by decide +kernel) (show jin 0 1 from ⟨by decide, by decide⟩) (TC_18.row (show jtb tC_18 916 = _ from rfl)).1 ?_
  refine jy_ofL e2 ?_
  refine jy_iload (x := a) rfl (TC_18.row (show jtb tC_18 917 = _ from rfl)).1 ?_
  refine jy_i2l (TC_18.row (show jtb tC_18 919 = _ from rfl)).1 ?_
  refine jy_lcmp (TC_18.row (show jtb tC_18 920 = _ from rfl)).1 ?_
  refine jy_ofI (lg_cmp_self _) ?_
  refine jy_if (tg := 926) (TC_18.row (show jtb tC_18 921 = _ from rfl)).1 rfl ⟨fun _ => ?_, fun h => absurd rfl h⟩
  exact jy_goto (tg := 2617) (TC_18.row (show jtb tC_18 926 = _ from rfl)).1 rfl ((k _ hR').mono (LL67 i _ _))
theorem LB_18 {g : jG} (hEx : jEx g) {N : Nat} {xs : Nat → Int32} (hX : jScr g N xs) {T : lwT} {c0 s0 : Nat} (hc0 : c0 + 1 ≤ 601024) (hs0 : s0 + 6 ≤ 7293034) {i : Nat} (hi : i + 6 ≤ N) {σ : jM} (k : ∀ υ, xR υ → jY g (zL T (c0 + 1) (s0 + 6)) mLw 1000 2617 (LL i) [] υ) {th : jM → jM → Prop} (ht : ∀ n, jTh g (n + 20) mX11_plan [.ref 0, .int (xs (i + 1)), .int (xs (i + 2))] σ (th σ)) (q1 : ∀ τ, th σ τ → (oX12_plan [.ref 322, .int (xs (i + 1)), .int (xs (i + 2))] τ).1 ∧ ∀ w υ, (oX12_plan [.ref 322, .int (xs (i + 1)), .int (xs (i + 2))] τ).2 w υ → (∃ x, w = some (.int x)) ∧ υ.1 322 11 = 1 ∧ xR υ) : jY g (zL T c0 s0) mLw 1000 861 (LL i) [] σ := by
  refine jy_aloadn (j := 1) rfl (TC_18.row (show jtb tC_18 861 = _ from rfl)).1 ?_
  refine jy_S hX 1 rfl rfl hi (by decide) (TC_18.row (show jtb tC_18 862 = _ from rfl)).1 (TC_18.row (show jtb tC_18 863 = _ from rfl)).1 (TC_18.row (show jtb tC_18 865 = _ from rfl)).1 (TC_18.row (show jtb tC_18 866 = _ from rfl)).1 (TC_18.row (show jtb tC_18 867 = _ from rfl)).1 ?_
  refine jy_S hX 2 rfl rfl hi (by decide) (TC_18.row (show jtb tC_18 868 = _ from rfl)).1 (TC_18.row (show jtb tC_18 869 = _ from rfl)).1 (TC_18.row (show jtb tC_18 871 = _ from rfl)).1 (TC_18.row (show jtb tC_18 872 = _ from rfl)).1 (TC_18.row (show jtb tC_18 873 = _ from rfl)).1 ?_
  refine jy_aloadn (j := 3) rfl (TC_18.row (show jtb tC_18 874 = _ from rfl)).1 ?_
  refine jy_callSW (n' := 0 + 20 + 1) (mt' := mL_plan) (hh := hL_plan) (as := [.ref 0, .int (xs (i + 1)), .int (xs (i + 2)), .ref 352]) (r := []) (by decide) hc0 hs0 TC_18 (show jtb tC_18 875 = _ from rfl) kL_163 WL_plan rfl (by decide) rfl (by simp) (PL_plan hEx (0 + 20) (ht _)) (fun v τ hv => ?_)
  obtain ⟨rfl, hτ⟩ := hv
  obtain ⟨p2, q2⟩ := q1 τ hτ
  refine jy_istore (j := 6) (by decide) (TC_18.row (show jtb tC_18 878 = _ from rfl)).1 ?_
  refine jy_aloadn (j := 2) rfl (TC_18.row (show jtb tC_18 880 = _ from rfl)).1 ?_
  refine jy_S hX 1 rfl rfl hi (by decide) (TC_18.row (show jtb tC_18 881 = _ from rfl)).1 (TC_18.row (show jtb tC_18 882 = _ from rfl)).1 (TC_18.row (show jtb tC_18 884 = _ from rfl)).1 (TC_18.row (show jtb tC_18 885 = _ from rfl)).1 (TC_18.row (show jtb tC_18 886 = _ from rfl)).1 ?_
  refine jy_S hX 2 rfl rfl hi (by decide) (TC_18.row (show jtb tC_18 887 = _ from rfl)).1 (TC_18.row (show jtb tC_18 888 = _ from rfl)).1 (TC_18.row (show jtb tC_18 890 = _ from rfl)).1 (TC_18.row (show jtb tC_18 891 = _ from rfl)).1 (TC_18.row (show jtb tC_18 892 = _ from rfl)).1 ?_
  refine jy_callV (n' := 0 + 2) (mt' := mX12_plan) (as := [.int (xs (i + 1)), .int (xs (i + 2))]) (r := []) (ci := 12) (a := 322) (zL_ok (by decide) hc0 hs0) TC_18 (show jtb tC_18 893 = _ from rfl) kL_165 WX12_plan rfl (by decide +kernel) rfl (by decide) rfl (by simp) (CX12_plan g 0 _ _ p2) (fun w υ hw => ?_)
  obtain ⟨⟨a, rfl⟩, e1, hR'⟩ := q2 w υ hw
  refine jy_istore (j := 7) (by decide) (TC_18.row (show jtb tC_18 896 = _ from rfl)).1 ?_
  refine jy_aloadn (j := 2) rfl (TC_18.row (show jtb tC_18 898 = _ from rfl)).1 ?_
  refine jy_callV (n' := 0 + 0) (mt' := mX12_thrown) (as := []) (r := []) (ci := 12) (a := 322) (zL_ok (by decide) hc0 hs0) TC_18 (show jtb tC_18 899 = _ from rfl) kL_142 WX12_thrown rfl (by decide +kernel) rfl (by decide) rfl (by simp) (CX12_thrown g 0 [.ref 322] υ rfl) (fun w υ' hw => ?_)
  obtain ⟨rfl, rfl⟩ := hw
  rw [e1]
  refine jy_iload (x := 1) rfl (TC_18.row (show jtb tC_18 902 = _ from rfl)).1 ?_
  refine jy_icmp (tg := 909) (TC_18.row (show jtb tC_18 904 = _ from rfl)).1 rfl ⟨fun _ => ?_, fun h => absurd rfl h⟩
  refine jy_iload (x := 1) rfl (TC_18.row (show jtb tC_18 909 = _ from rfl)).1 ?_
  refine jy_if (tg := 926) (TC_18.row (show jtb tC_18 911 = _ from rfl)).1 rfl ⟨fun _ => ?_, fun h => absurd h (by decide)⟩
  exact jy_goto (tg := 2617) (TC_18.row (show jtb tC_18 926 = _ from rfl)).1 rfl ((k _ hR').mono (LL67 i _ _))
/-! 20: proposedRoom -/
def tC_20 : jTb := [(942, .aload_n 1, 943, 0, 0), (943, .aload_n 0, 944, 0, 0), (944, .iload 5, 946, 0, 0), (946, .iconst 1, 947, 0, 1), (947, .iadd, 948, 0, 0), (948, .iaload, 949, 0, 0), (949, .aload_n 3, 950, 0, 0), (950, .invokestatic 171, 953, 0, 0), (953, .istore 6, 955, 0, 0), (955, .aload_n 2, 956, 0, 0), (956, .aload_n 0, 957, 0, 0), (957, .iload 5, 959, 0, 0), (959, .iconst 1, 960, 0, 1), (960, .iadd, 961, 0, 0), (961, .iaload, 962, 0, 0), (962, .invokevirtual 173, 965, 0, 0), (965, .istore 7, 967, 0, 0), (967, .aload_n 2, 968, 0, 0), (968, .invokevirtual 142, 971, 0, 0), (971, .iload 6, 973, 0, 0), (973, .if_icmp .eq 5, 976, 978, 0), (976, .iconst 0, 977, 0, 0), (977, .ireturn, 978, 0, 0), (978, .iload 6, 980, 0, 0), (980, .ifCond .ne 15, 983, 995, 0), (983, .aload_n 3, 984, 0, 0), (984, .iconst 0, 985, 0, 0), (985, .laload, 986, 0, 0), (986, .iload 7, 988, 0, 0), (988, .i2l, 989, 0, 0), (989, .lcmp, 990, 0, 0), (990, .ifCond .eq 5, 993, 995, 0), (993, .iconst 0, 994, 0, 0), (994, .ireturn, 995, 0, 0), (995, .goto 1622, 998, 2617, 0)]
theorem TC_20 : jT mLw [] [] tC_20 := jT.of (cs := []) (fun _ h => absurd h List.not_mem_nil) (fun _ h => absurd h List.not_mem_nil) (fun _ h => absurd h List.not_mem_nil) (by decide +kernel) (by decide +kernel)
theorem kL_171 : Cond.methodLink RL 171 yL_proposedRoom ∈ jGw := jGw_of 1325 (by decide +kernel) (by decide +kernel)
theorem LA_20 {g : jG} {N : Nat} {xs : Nat → Int32} (hX : jScr g N xs) {T : lwT} {c0 s0 : Nat} (hc0 : c0 + 1 ≤ 601024) (hs0 : s0 + 6 ≤ 7293034) {i : Nat} (hi : i + 6 ≤ N) {σ : jM} (k : ∀ υ, xR υ → jY g (zL T (c0 + 1) (s0 + 6)) mLw 1000 2617 (LL i) [] υ) (p1 : (oX11_proposedRoom [.ref 0, .int (xs (i + 1))] σ).1) (q1 : ∀ v τ, (oX11_proposedRoom [.ref 0, .int (xs (i + 1))] σ).2 v τ → ∀ y : Int64, (oX12_proposedRoom [.ref 322, .int (xs (i + 1))] (jupL τ 352 0 y)).1 ∧ ∀ w υ, (oX12_proposedRoom [.ref 322, .int (xs (i + 1))] (jupL τ 352 0 y)).2 w υ → w = v ∧ υ.1 322 11 = 0 ∧ υ.2.1 352 0 = y ∧ xR υ) (hv1 : ∀ σ' v τ, (oX11_proposedRoom [.ref 0, .int (xs (i + 1))] σ').2 v τ → ∃ a : Int32, v = some (.int a)) : jY g (zL T c0 s0) mLw 1000 942 (LL i) [] σ := by
  refine jy_aloadn (j := 1) rfl (TC_20.row (show jtb tC_20 942 = _ from rfl)).1 ?_
  refine jy_S hX 1 rfl rfl hi (by decide) (TC_20.row (show jtb tC_20 943 = _ from rfl)).1 (TC_20.row (show jtb tC_20 944 = _ from rfl)).1 (TC_20.row (show jtb tC_20 946 = _ from rfl)).1 (TC_20.row (show jtb tC_20 947 = _ from rfl)).1 (TC_20.row (show jtb tC_20 948 = _ from rfl)).1 ?_
  refine jy_aloadn (j := 3) rfl (TC_20.row (show jtb tC_20 949 = _ from rfl)).1 ?_
  refine jy_callSW (n' := 0 + 6 + 1) (mt' := mL_proposedRoom) (hh := hL_proposedRoom) (as := [.ref 0, .int (xs (i + 1)), .ref 352]) (r := []) (by decide) hc0 hs0 TC_20 (show jtb tC_20 950 = _ from rfl) kL_171 WL_proposedRoom rfl (by decide) rfl (by simp) (NL_proposedRoom 0 6 (hv1 _) (CX11_proposedRoom g 0 _ σ p1)) (fun v τ hv => ?_)
  obtain ⟨rfl, a, τ', hq, rfl⟩ := hv
  obtain ⟨p2, q2⟩ := q1 _ τ' hq a.toInt64
  refine jy_istore (j := 6) (by decide) (TC_20.row (show jtb tC_20 953 = _ from rfl)).1 ?_
  refine jy_aloadn (j := 2) rfl (TC_20.row (show jtb tC_20 955 = _ from rfl)).1 ?_
  refine jy_S hX 1 rfl rfl hi (by decide) (TC_20.row (show jtb tC_20 956 = _ from rfl)).1 (TC_20.row (show jtb tC_20 957 = _ from rfl)).1 (TC_20.row (show jtb tC_20 959 = _ from rfl)).1 (TC_20.row (show jtb tC_20 960 = _ from rfl)).1 (TC_20.row (show jtb tC_20 961 = _ from rfl)).1 ?_
  refine jy_callV (n' := 0 + 15) (mt' := mX12_proposedRoom) (as := [.int (xs (i + 1))]) (r := []) (ci := 12) (a := 322) (zL_ok (by decide) hc0 hs0) TC_20 (show jtb tC_20 962 = _ from rfl) kL_173 WX12_proposedRoom rfl (by decide +kernel) rfl (by decide) rfl (by simp) (CX12_proposedRoom g 0 _ _ p2) (fun w υ hw => ?_)
  obtain ⟨rfl, e1, e2, hR'⟩ := q2 w υ hw
  refine jy_istore (j := 7) (by decide) (TC_20.row (show jtb tC_20 965 = _ from rfl)).1 ?_
  refine jy_aloadn (j := 2) rfl (TC_20.row (show jtb tC_20 967 = _ from rfl)).1 ?_
  refine jy_callV (n' := 0 + 0) (mt' := mX12_thrown) (as := []) (r := []) (ci := 12) (a := 322) (zL_ok (by decide) hc0 hs0) TC_20 (show jtb tC_20 968 = _ from rfl) kL_142 WX12_thrown rfl (by decide +kernel) rfl (by decide) rfl (by simp) (CX12_thrown g 0 [.ref 322] υ rfl) (fun w υ' hw => ?_)
  obtain ⟨rfl, rfl⟩ := hw
  rw [e1]
  refine jy_iload (x := 0) rfl (TC_20.row (show jtb tC_20 971 = _ from rfl)).1 ?_
  refine jy_icmp (tg := 978) (TC_20.row (show jtb tC_20 973 = _ from rfl)).1 rfl ⟨fun _ => ?_, fun h => absurd rfl h⟩
  refine jy_iload (x := 0) rfl (TC_20.row (show jtb tC_20 978 = _ from rfl)).1 ?_
  refine jy_if (tg := 995) (TC_20.row (show jtb tC_20 980 = _ from rfl)).1 rfl ⟨fun h => absurd rfl h, fun _ => ?_⟩
  refine jy_aloadn (j := 3) rfl (TC_20.row (show jtb tC_20 983 = _ from rfl)).1 ?_
  refine jy_iconst (v := 0) rfl (TC_20.row (show jtb tC_20 984 = _ from rfl)).1 ?_
  refine jy_lald (a := 352) (by decide +kernel) (show jin 0 1 from ⟨by decide, by decide⟩) (TC_20.row (show jtb tC_20 985 = _ from rfl)).1 ?_
  refine jy_ofL e2 ?_
  refine jy_iload (x := a) rfl (TC_20.row (show jtb tC_20 986 = _ from rfl)).1 ?_
  refine jy_i2l (TC_20.row (show jtb tC_20 988 = _ from rfl)).1 ?_
  refine jy_lcmp (TC_20.row (show jtb tC_20 989 = _ from rfl)).1 ?_
  refine jy_ofI (lg_cmp_self _) ?_
  refine jy_if (tg := 995) (TC_20.row (show jtb tC_20 990 = _ from rfl)).1 rfl ⟨fun _ => ?_, fun h => absurd rfl h⟩
  exact jy_goto (tg := 2617) (TC_20.row (show jtb tC_20 995 = _ from rfl)).1 rfl ((k _ hR').mono (LL67 i _ _))
theorem LB_20 {g : jG} (hEx : jEx g) {N : Nat} {xs : Nat → Int32} (hX : jScr g N xs) {T : lwT} {c0 s0 : Nat} (hc0 : c0 + 1 ≤ 601024) (hs0 : s0 + 6 ≤ 7293034) {i : Nat} (hi : i + 6 ≤ N) {σ : jM} (k : ∀ υ, xR υ → jY g (zL T (c0 + 1) (s0 + 6)) mLw 1000 2617 (LL i) [] υ) {th : jM → jM → Prop} (ht : ∀ n, jTh g (n + 20) mX11_proposedRoom [.ref 0, .int (xs (i + 1))] σ (th σ)) (q1 : ∀ τ, th σ τ → (oX12_proposedRoom [.ref 322, .int (xs (i + 1))] τ).1 ∧ ∀ w υ, (oX12_proposedRoom [.ref 322, .int (xs (i + 1))] τ).2 w υ → (∃ x, w = some (.int x)) ∧ υ.1 322 11 = 1 ∧ xR υ) : jY g (zL T c0 s0) mLw 1000 942 (LL i) [] σ := by
  refine jy_aloadn (j := 1) rfl (TC_20.row (show jtb tC_20 942 = _ from rfl)).1 ?_
  refine jy_S hX 1 rfl rfl hi (by decide) (TC_20.row (show jtb tC_20 943 = _ from rfl)).1 (TC_20.row (show jtb tC_20 944 = _ from rfl)).1 (TC_20.row (show jtb tC_20 946 = _ from rfl)).1 (TC_20.row (show jtb tC_20 947 = _ from rfl)).1 (TC_20.row (show jtb tC_20 948 = _ from rfl)).1 ?_
  refine jy_aloadn (j := 3) rfl (TC_20.row (show jtb tC_20 949 = _ from rfl)).1 ?_
  refine jy_callSW (n' := 0 + 20 + 1) (mt' := mL_proposedRoom) (hh := hL_proposedRoom) (as := [.ref 0, .int (xs (i + 1)), .ref 352]) (r := []) (by decide) hc0 hs0 TC_20 (show jtb tC_20 950 = _ from rfl) kL_171 WL_proposedRoom rfl (by decide) rfl (by simp) (PL_proposedRoom hEx (0 + 20) (ht _)) (fun v τ hv => ?_)
  obtain ⟨rfl, hτ⟩ := hv
  obtain ⟨p2, q2⟩ := q1 τ hτ
  refine jy_istore (j := 6) (by decide) (TC_20.row (show jtb tC_20 953 = _ from rfl)).1 ?_
  refine jy_aloadn (j := 2) rfl (TC_20.row (show jtb tC_20 955 = _ from rfl)).1 ?_
  refine jy_S hX 1 rfl rfl hi (by decide) (TC_20.row (show jtb tC_20 956 = _ from rfl)).1 (TC_20.row (show jtb tC_20 957 = _ from rfl)).1 (TC_20.row (show jtb tC_20 959 = _ from rfl)).1 (TC_20.row (show jtb tC_20 960 = _ from rfl)).1 (TC_20.row (show jtb tC_20 961 = _ from rfl)).1 ?_
  refine jy_callV (n' := 0 + 15) (mt' := mX12_proposedRoom) (as := [.int (xs (i + 1))]) (r := []) (ci := 12) (a := 322) (zL_ok (by decide) hc0 hs0) TC_20 (show jtb tC_20 962 = _ from rfl) kL_173 WX12_proposedRoom rfl (by decide +kernel) rfl (by decide) rfl (by simp) (CX12_proposedRoom g 0 _ _ p2) (fun w υ hw => ?_)
  obtain ⟨⟨a, rfl⟩, e1, hR'⟩ := q2 w υ hw
  refine jy_istore (j := 7) (by decide) (TC_20.row (show jtb tC_20 965 = _ from rfl)).1 ?_
  refine jy_aloadn (j := 2) rfl (TC_20.row (show jtb tC_20 967 = _ from rfl)).1 ?_
  refine jy_callV (n' := 0 + 0) (mt' := mX12_thrown) (as := []) (r := []) (ci := 12) (a := 322) (zL_ok (by decide) hc0 hs0) TC_20 (show jtb tC_20 968 = _ from rfl) kL_142 WX12_thrown rfl (by decide +kernel) rfl (by decide) rfl (by simp) (CX12_thrown g 0 [.ref 322] υ rfl) (fun w υ' hw => ?_)
  obtain ⟨rfl, rfl⟩ := hw
  rw [e1]
  refine jy_iload (x := 1) rfl (TC_20.row (show jtb tC_20 971 = _ from rfl)).1 ?_
  refine jy_icmp (tg := 978) (TC_20.row (show jtb tC_20 973 = _ from rfl)).1 rfl ⟨fun _ => ?_, fun h => absurd rfl h⟩
  refine jy_iload (x := 1) rfl (TC_20.row (show jtb tC_20 978 = _ from rfl)).1 ?_
  refine jy_if (tg := 995) (TC_20.row (show jtb tC_20 980 = _ from rfl)).1 rfl ⟨fun _ => ?_, fun h => absurd h (by decide)⟩
  exact jy_goto (tg := 2617) (TC_20.row (show jtb tC_20 995 = _ from rfl)).1 rfl ((k _ hR').mono (LL67 i _ _))
/-! 23: extreme -/
def tC_23 : jTb := [(1024, .aload_n 1, 1025, 0, 0), (1025, .aload_n 0, 1026, 0, 0), (1026, .iload 5, 1028, 0, 0), (1028, .iconst 1, 1029, 0, 1), (1029, .iadd, 1030, 0, 0), (1030, .iaload, 1031, 0, 0), (1031, .aload_n 0, 1032, 0, 0), (1032, .iload 5, 1034, 0, 0), (1034, .iconst 2, 1035, 0, 2), (1035, .iadd, 1036, 0, 0), (1036, .iaload, 1037, 0, 0), (1037, .ifCond .eq 7, 1040, 1044, 0), (1040, .iconst 1, 1041, 0, 1), (1041, .goto 4, 1044, 1045, 0), (1044, .iconst 0, 1045, 0, 0), (1045, .aload_n 3, 1046, 0, 0), (1046, .invokestatic 182, 1049, 0, 0), (1049, .istore 6, 1051, 0, 0), (1051, .aload_n 2, 1052, 0, 0), (1052, .aload_n 0, 1053, 0, 0), (1053, .iload 5, 1055, 0, 0), (1055, .iconst 1, 1056, 0, 1), (1056, .iadd, 1057, 0, 0), (1057, .iaload, 1058, 0, 0), (1058, .aload_n 0, 1059, 0, 0), (1059, .iload 5, 1061, 0, 0), (1061, .iconst 2, 1062, 0, 2), (1062, .iadd, 1063, 0, 0), (1063, .iaload, 1064, 0, 0), (1064, .ifCond .eq 7, 1067, 1071, 0), (1067, .iconst 1, 1068, 0, 1), (1068, .goto 4, 1071, 1072, 0), (1071, .iconst 0, 1072, 0, 0), (1072, .invokevirtual 185, 1075, 0, 0), (1075, .istore 7, 1077, 0, 0), (1077, .aload_n 2, 1078, 0, 0), (1078, .invokevirtual 142, 1081, 0, 0), (1081, .iload 6, 1083, 0, 0), (1083, .if_icmp .eq 5, 1086, 1088, 0), (1086, .iconst 0, 1087, 0, 0), (1087, .ireturn, 1088, 0, 0), (1088, .iload 6, 1090, 0, 0), (1090, .ifCond .ne 15, 1093, 1105, 0), (1093, .aload_n 3, 1094, 0, 0), (1094, .iconst 0, 1095, 0, 0), (1095, .laload, 1096, 0, 0), (1096, .iload 7, 1098, 0, 0), (1098, .i2l, 1099, 0, 0), (1099, .lcmp, 1100, 0, 0), (1100, .ifCond .eq 5, 1103, 1105, 0), (1103, .iconst 0, 1104, 0, 0), (1104, .ireturn, 1105, 0, 0), (1105, .goto 1512, 1108, 2617, 0)]
theorem TC_23 : jT mLw [] [] tC_23 := jT.of (cs := []) (fun _ h => absurd h List.not_mem_nil) (fun _ h => absurd h List.not_mem_nil) (fun _ h => absurd h List.not_mem_nil) (by decide +kernel) (by decide +kernel)
theorem kL_182 : Cond.methodLink RL 182 yL_extreme ∈ jGw := jGw_of 1332 (by decide +kernel) (by decide +kernel)
theorem LA_23 {g : jG} {N : Nat} {xs : Nat → Int32} (hX : jScr g N xs) {T : lwT} {c0 s0 : Nat} (hc0 : c0 + 1 ≤ 601024) (hs0 : s0 + 6 ≤ 7293034) {i : Nat} (hi : i + 6 ≤ N) {σ : jM} (k : ∀ υ, xR υ → jY g (zL T (c0 + 1) (s0 + 6)) mLw 1000 2617 (LL i) [] υ) (p1 : (oX11_extreme [.ref 0, .int (xs (i + 1)), .int (if xs (i + 2) = 0 then 0 else 1)] σ).1) (q1 : ∀ v τ, (oX11_extreme [.ref 0, .int (xs (i + 1)), .int (if xs (i + 2) = 0 then 0 else 1)] σ).2 v τ → ∀ y : Int64, (oX12_extreme [.ref 322, .int (xs (i + 1)), .int (if xs (i + 2) = 0 then 0 else 1)] (jupL τ 352 0 y)).1 ∧ ∀ w υ, (oX12_extreme [.ref 322, .int (xs (i + 1)), .int (if xs (i + 2) = 0 then 0 else 1)] (jupL τ 352 0 y)).2 w υ → w = v ∧ υ.1 322 11 = 0 ∧ υ.2.1 352 0 = y ∧ xR υ) (hv1 : ∀ σ' v τ, (oX11_extreme [.ref 0, .int (xs (i + 1)), .int (if xs (i + 2) = 0 then 0 else 1)] σ').2 v τ → ∃ a : Int32, v = some (.int a)) : jY g (zL T c0 s0) mLw 1000 1024 (LL i) [] σ := by
  refine jy_aloadn (j := 1) rfl (TC_23.row (show jtb tC_23 1024 = _ from rfl)).1 ?_
  refine jy_S hX 1 rfl rfl hi (by decide) (TC_23.row (show jtb tC_23 1025 = _ from rfl)).1 (TC_23.row (show jtb tC_23 1026 = _ from rfl)).1 (TC_23.row (show jtb tC_23 1028 = _ from rfl)).1 (TC_23.row (show jtb tC_23 1029 = _ from rfl)).1 (TC_23.row (show jtb tC_23 1030 = _ from rfl)).1 ?_
  refine jy_S hX 2 rfl rfl hi (by decide) (TC_23.row (show jtb tC_23 1031 = _ from rfl)).1 (TC_23.row (show jtb tC_23 1032 = _ from rfl)).1 (TC_23.row (show jtb tC_23 1034 = _ from rfl)).1 (TC_23.row (show jtb tC_23 1035 = _ from rfl)).1 (TC_23.row (show jtb tC_23 1036 = _ from rfl)).1 ?_
  refine jy_bool (TC_23.row (show jtb tC_23 1037 = _ from rfl)).1 (TC_23.row (show jtb tC_23 1040 = _ from rfl)).1 (TC_23.row (show jtb tC_23 1041 = _ from rfl)).1 (TC_23.row (show jtb tC_23 1044 = _ from rfl)).1 ?_
  refine jy_aloadn (j := 3) rfl (TC_23.row (show jtb tC_23 1045 = _ from rfl)).1 ?_
  refine jy_callSW (n' := 0 + 6 + 1) (mt' := mL_extreme) (hh := hL_extreme) (as := [.ref 0, .int (xs (i + 1)), .int (if xs (i + 2) = 0 then 0 else 1), .ref 352]) (r := []) (by decide) hc0 hs0 TC_23 (show jtb tC_23 1046 = _ from rfl) kL_182 WL_extreme rfl (by decide) rfl (by simp) (NL_extreme 0 6 (hv1 _) (CX11_extreme g 0 _ σ p1)) (fun v τ hv => ?_)
  obtain ⟨rfl, a, τ', hq, rfl⟩ := hv
  obtain ⟨p2, q2⟩ := q1 _ τ' hq a.toInt64
  refine jy_istore (j := 6) (by decide) (TC_23.row (show jtb tC_23 1049 = _ from rfl)).1 ?_
  refine jy_aloadn (j := 2) rfl (TC_23.row (show jtb tC_23 1051 = _ from rfl)).1 ?_
  refine jy_S hX 1 rfl rfl hi (by decide) (TC_23.row (show jtb tC_23 1052 = _ from rfl)).1 (TC_23.row (show jtb tC_23 1053 = _ from rfl)).1 (TC_23.row (show jtb tC_23 1055 = _ from rfl)).1 (TC_23.row (show jtb tC_23 1056 = _ from rfl)).1 (TC_23.row (show jtb tC_23 1057 = _ from rfl)).1 ?_
  refine jy_S hX 2 rfl rfl hi (by decide) (TC_23.row (show jtb tC_23 1058 = _ from rfl)).1 (TC_23.row (show jtb tC_23 1059 = _ from rfl)).1 (TC_23.row (show jtb tC_23 1061 = _ from rfl)).1 (TC_23.row (show jtb tC_23 1062 = _ from rfl)).1 (TC_23.row (show jtb tC_23 1063 = _ from rfl)).1 ?_
  refine jy_bool (TC_23.row (show jtb tC_23 1064 = _ from rfl)).1 (TC_23.row (show jtb tC_23 1067 = _ from rfl)).1 (TC_23.row (show jtb tC_23 1068 = _ from rfl)).1 (TC_23.row (show jtb tC_23 1071 = _ from rfl)).1 ?_
  refine jy_callV (n' := 0 + 15) (mt' := mX12_extreme) (as := [.int (xs (i + 1)), .int (if xs (i + 2) = 0 then 0 else 1)]) (r := []) (ci := 12) (a := 322) (zL_ok (by decide) hc0 hs0) TC_23 (show jtb tC_23 1072 = _ from rfl) kL_185 WX12_extreme rfl (by decide +kernel) rfl (by decide) rfl (by simp) (CX12_extreme g 0 _ _ p2) (fun w υ hw => ?_)
  obtain ⟨rfl, e1, e2, hR'⟩ := q2 w υ hw
  refine jy_istore (j := 7) (by decide) (TC_23.row (show jtb tC_23 1075 = _ from rfl)).1 ?_
  refine jy_aloadn (j := 2) rfl (TC_23.row (show jtb tC_23 1077 = _ from rfl)).1 ?_
  refine jy_callV (n' := 0 + 0) (mt' := mX12_thrown) (as := []) (r := []) (ci := 12) (a := 322) (zL_ok (by decide) hc0 hs0) TC_23 (show jtb tC_23 1078 = _ from rfl) kL_142 WX12_thrown rfl (by decide +kernel) rfl (by decide) rfl (by simp) (CX12_thrown g 0 [.ref 322] υ rfl) (fun w υ' hw => ?_)
  obtain ⟨rfl, rfl⟩ := hw
  rw [e1]
  refine jy_iload (x := 0) rfl (TC_23.row (show jtb tC_23 1081 = _ from rfl)).1 ?_
  refine jy_icmp (tg := 1088) (TC_23.row (show jtb tC_23 1083 = _ from rfl)).1 rfl ⟨fun _ => ?_, fun h => absurd rfl h⟩
  refine jy_iload (x := 0) rfl (TC_23.row (show jtb tC_23 1088 = _ from rfl)).1 ?_
  refine jy_if (tg := 1105) (TC_23.row (show jtb tC_23 1090 = _ from rfl)).1 rfl ⟨fun h => absurd rfl h, fun _ => ?_⟩
  refine jy_aloadn (j := 3) rfl (TC_23.row (show jtb tC_23 1093 = _ from rfl)).1 ?_
  refine jy_iconst (v := 0) rfl (TC_23.row (show jtb tC_23 1094 = _ from rfl)).1 ?_
  refine jy_lald (a := 352) (by decide +kernel) (show jin 0 1 from ⟨by decide, by decide⟩) (TC_23.row (show jtb tC_23 1095 = _ from rfl)).1 ?_
  refine jy_ofL e2 ?_
  refine jy_iload (x := a) rfl (TC_23.row (show jtb tC_23 1096 = _ from rfl)).1 ?_
  refine jy_i2l (TC_23.row (show jtb tC_23 1098 = _ from rfl)).1 ?_
  refine jy_lcmp (TC_23.row (show jtb tC_23 1099 = _ from rfl)).1 ?_
  refine jy_ofI (lg_cmp_self _) ?_
  refine jy_if (tg := 1105) (TC_23.row (show jtb tC_23 1100 = _ from rfl)).1 rfl ⟨fun _ => ?_, fun h => absurd rfl h⟩
  exact jy_goto (tg := 2617) (TC_23.row (show jtb tC_23 1105 = _ from rfl)).1 rfl ((k _ hR').mono (LL67 i _ _))
theorem LB_23 {g : jG} (hEx : jEx g) {N : Nat} {xs : Nat → Int32} (hX : jScr g N xs) {T : lwT} {c0 s0 : Nat} (hc0 : c0 + 1 ≤ 601024) (hs0 : s0 + 6 ≤ 7293034) {i : Nat} (hi : i + 6 ≤ N) {σ : jM} (k : ∀ υ, xR υ → jY g (zL T (c0 + 1) (s0 + 6)) mLw 1000 2617 (LL i) [] υ) {th : jM → jM → Prop} (ht : ∀ n, jTh g (n + 20) mX11_extreme [.ref 0, .int (xs (i + 1)), .int (if xs (i + 2) = 0 then 0 else 1)] σ (th σ)) (q1 : ∀ τ, th σ τ → (oX12_extreme [.ref 322, .int (xs (i + 1)), .int (if xs (i + 2) = 0 then 0 else 1)] τ).1 ∧ ∀ w υ, (oX12_extreme [.ref 322, .int (xs (i + 1)), .int (if xs (i + 2) = 0 then 0 else 1)] τ).2 w υ → (∃ x, w = some (.int x)) ∧ υ.1 322 11 = 1 ∧ xR υ) : jY g (zL T c0 s0) mLw 1000 1024 (LL i) [] σ := by
  refine jy_aloadn (j := 1) rfl (TC_23.row (show jtb tC_23 1024 = _ from rfl)).1 ?_
  refine jy_S hX 1 rfl rfl hi (by decide) (TC_23.row (show jtb tC_23 1025 = _ from rfl)).1 (TC_23.row (show jtb tC_23 1026 = _ from rfl)).1 (TC_23.row (show jtb tC_23 1028 = _ from rfl)).1 (TC_23.row (show jtb tC_23 1029 = _ from rfl)).1 (TC_23.row (show jtb tC_23 1030 = _ from rfl)).1 ?_
  refine jy_S hX 2 rfl rfl hi (by decide) (TC_23.row (show jtb tC_23 1031 = _ from rfl)).1 (TC_23.row (show jtb tC_23 1032 = _ from rfl)).1 (TC_23.row (show jtb tC_23 1034 = _ from rfl)).1 (TC_23.row (show jtb tC_23 1035 = _ from rfl)).1 (TC_23.row (show jtb tC_23 1036 = _ from rfl)).1 ?_
  refine jy_bool (TC_23.row (show jtb tC_23 1037 = _ from rfl)).1 (TC_23.row (show jtb tC_23 1040 = _ from rfl)).1 (TC_23.row (show jtb tC_23 1041 = _ from rfl)).1 (TC_23.row (show jtb tC_23 1044 = _ from rfl)).1 ?_
  refine jy_aloadn (j := 3) rfl (TC_23.row (show jtb tC_23 1045 = _ from rfl)).1 ?_
  refine jy_callSW (n' := 0 + 20 + 1) (mt' := mL_extreme) (hh := hL_extreme) (as := [.ref 0, .int (xs (i + 1)), .int (if xs (i + 2) = 0 then 0 else 1), .ref 352]) (r := []) (by decide) hc0 hs0 TC_23 (show jtb tC_23 1046 = _ from rfl) kL_182 WL_extreme rfl (by decide) rfl (by simp) (PL_extreme hEx (0 + 20) (ht _)) (fun v τ hv => ?_)
  obtain ⟨rfl, hτ⟩ := hv
  obtain ⟨p2, q2⟩ := q1 τ hτ
  refine jy_istore (j := 6) (by decide) (TC_23.row (show jtb tC_23 1049 = _ from rfl)).1 ?_
  refine jy_aloadn (j := 2) rfl (TC_23.row (show jtb tC_23 1051 = _ from rfl)).1 ?_
  refine jy_S hX 1 rfl rfl hi (by decide) (TC_23.row (show jtb tC_23 1052 = _ from rfl)).1 (TC_23.row (show jtb tC_23 1053 = _ from rfl)).1 (TC_23.row (show jtb tC_23 1055 = _ from rfl)).1 (TC_23.row (show jtb tC_23 1056 = _ from rfl)).1 (TC_23.row (show jtb tC_23 1057 = _ from rfl)).1 ?_
  refine jy_S hX 2 rfl rfl hi (by decide) (TC_23.row (show jtb tC_23 1058 = _ from rfl)).1 (TC_23.row (show jtb tC_23 1059 = _ from rfl)).1 (TC_23.row (show jtb tC_23 1061 = _ from rfl)).1 (TC_23.row (show jtb tC_23 1062 = _ from rfl)).1 (TC_23.row (show jtb tC_23 1063 = _ from rfl)).1 ?_
  refine jy_bool (TC_23.row (show jtb tC_23 1064 = _ from rfl)).1 (TC_23.row (show jtb tC_23 1067 = _ from rfl)).1 (TC_23.row (show jtb tC_23 1068 = _ from rfl)).1 (TC_23.row (show jtb tC_23 1071 = _ from rfl)).1 ?_
  refine jy_callV (n' := 0 + 15) (mt' := mX12_extreme) (as := [.int (xs (i + 1)), .int (if xs (i + 2) = 0 then 0 else 1)]) (r := []) (ci := 12) (a := 322) (zL_ok (by decide) hc0 hs0) TC_23 (show jtb tC_23 1072 = _ from rfl) kL_185 WX12_extreme rfl (by decide +kernel) rfl (by decide) rfl (by simp) (CX12_extreme g 0 _ _ p2) (fun w υ hw => ?_)
  obtain ⟨⟨a, rfl⟩, e1, hR'⟩ := q2 w υ hw
  refine jy_istore (j := 7) (by decide) (TC_23.row (show jtb tC_23 1075 = _ from rfl)).1 ?_
  refine jy_aloadn (j := 2) rfl (TC_23.row (show jtb tC_23 1077 = _ from rfl)).1 ?_
  refine jy_callV (n' := 0 + 0) (mt' := mX12_thrown) (as := []) (r := []) (ci := 12) (a := 322) (zL_ok (by decide) hc0 hs0) TC_23 (show jtb tC_23 1078 = _ from rfl) kL_142 WX12_thrown rfl (by decide +kernel) rfl (by decide) rfl (by simp) (CX12_thrown g 0 [.ref 322] υ rfl) (fun w υ' hw => ?_)
  obtain ⟨rfl, rfl⟩ := hw
  rw [e1]
  refine jy_iload (x := 1) rfl (TC_23.row (show jtb tC_23 1081 = _ from rfl)).1 ?_
  refine jy_icmp (tg := 1088) (TC_23.row (show jtb tC_23 1083 = _ from rfl)).1 rfl ⟨fun _ => ?_, fun h => absurd rfl h⟩
  refine jy_iload (x := 1) rfl (TC_23.row (show jtb tC_23 1088 = _ from rfl)).1 ?_
  refine jy_if (tg := 1105) (TC_23.row (show jtb tC_23 1090 = _ from rfl)).1 rfl ⟨fun _ => ?_, fun h => absurd h (by decide)⟩
  exact jy_goto (tg := 2617) (TC_23.row (show jtb tC_23 1105 = _ from rfl)).1 rfl ((k _ hR').mono (LL67 i _ _))
/-! 24: price -/
def tC_24 : jTb := [(1108, .aload_n 1, 1109, 0, 0), (1109, .aload_n 0, 1110, 0, 0), (1110, .iload 5, 1112, 0, 0), (1112, .iconst 1, 1113, 0, 1), (1113, .iadd, 1114, 0, 0), (1114, .iaload, 1115, 0, 0), (1115, .aload_n 3, 1116, 0, 0), (1116, .invokestatic 186, 1119, 0, 0), (1119, .istore 6, 1121, 0, 0), (1121, .aload_n 2, 1122, 0, 0), (1122, .aload_n 0, 1123, 0, 0), (1123, .iload 5, 1125, 0, 0), (1125, .iconst 1, 1126, 0, 1), (1126, .iadd, 1127, 0, 0), (1127, .iaload, 1128, 0, 0), (1128, .invokevirtual 188, 1131, 0, 0), (1131, .istore 7, 1133, 0, 0), (1133, .aload_n 2, 1134, 0, 0), (1134, .invokevirtual 142, 1137, 0, 0), (1137, .iload 6, 1139, 0, 0), (1139, .if_icmp .eq 5, 1142, 1144, 0), (1142, .iconst 0, 1143, 0, 0), (1143, .ireturn, 1144, 0, 0), (1144, .iload 6, 1146, 0, 0), (1146, .ifCond .ne 15, 1149, 1161, 0), (1149, .aload_n 3, 1150, 0, 0), (1150, .iconst 0, 1151, 0, 0), (1151, .laload, 1152, 0, 0), (1152, .iload 7, 1154, 0, 0), (1154, .i2l, 1155, 0, 0), (1155, .lcmp, 1156, 0, 0), (1156, .ifCond .eq 5, 1159, 1161, 0), (1159, .iconst 0, 1160, 0, 0), (1160, .ireturn, 1161, 0, 0), (1161, .goto 1456, 1164, 2617, 0)]
theorem TC_24 : jT mLw [] [] tC_24 := jT.of (cs := []) (fun _ h => absurd h List.not_mem_nil) (fun _ h => absurd h List.not_mem_nil) (fun _ h => absurd h List.not_mem_nil) (by decide +kernel) (by decide +kernel)
theorem kL_186 : Cond.methodLink RL 186 yL_price ∈ jGw := jGw_of 1348 (by decide +kernel) (by decide +kernel)
theorem LA_24 {g : jG} {N : Nat} {xs : Nat → Int32} (hX : jScr g N xs) {T : lwT} {c0 s0 : Nat} (hc0 : c0 + 1 ≤ 601024) (hs0 : s0 + 6 ≤ 7293034) {i : Nat} (hi : i + 6 ≤ N) {σ : jM} (k : ∀ υ, xR υ → jY g (zL T (c0 + 1) (s0 + 6)) mLw 1000 2617 (LL i) [] υ) (p1 : (oX11_price [.ref 0, .int (xs (i + 1))] σ).1) (q1 : ∀ v τ, (oX11_price [.ref 0, .int (xs (i + 1))] σ).2 v τ → ∀ y : Int64, (oX12_price [.ref 322, .int (xs (i + 1))] (jupL τ 352 0 y)).1 ∧ ∀ w υ, (oX12_price [.ref 322, .int (xs (i + 1))] (jupL τ 352 0 y)).2 w υ → w = v ∧ υ.1 322 11 = 0 ∧ υ.2.1 352 0 = y ∧ xR υ) (hv1 : ∀ σ' v τ, (oX11_price [.ref 0, .int (xs (i + 1))] σ').2 v τ → ∃ a : Int32, v = some (.int a)) : jY g (zL T c0 s0) mLw 1000 1108 (LL i) [] σ := by
  refine jy_aloadn (j := 1) rfl (TC_24.row (show jtb tC_24 1108 = _ from rfl)).1 ?_
  refine jy_S hX 1 rfl rfl hi (by decide) (TC_24.row (show jtb tC_24 1109 = _ from rfl)).1 (TC_24.row (show jtb tC_24 1110 = _ from rfl)).1 (TC_24.row (show jtb tC_24 1112 = _ from rfl)).1 (TC_24.row (show jtb tC_24 1113 = _ from rfl)).1 (TC_24.row (show jtb tC_24 1114 = _ from rfl)).1 ?_
  refine jy_aloadn (j := 3) rfl (TC_24.row (show jtb tC_24 1115 = _ from rfl)).1 ?_
  refine jy_callSW (n' := 0 + 6 + 1) (mt' := mL_price) (hh := hL_price) (as := [.ref 0, .int (xs (i + 1)), .ref 352]) (r := []) (by decide) hc0 hs0 TC_24 (show jtb tC_24 1116 = _ from rfl) kL_186 WL_price rfl (by decide) rfl (by simp) (NL_price 0 6 (hv1 _) (CX11_price g 0 _ σ p1)) (fun v τ hv => ?_)
  obtain ⟨rfl, a, τ', hq, rfl⟩ := hv
  obtain ⟨p2, q2⟩ := q1 _ τ' hq a.toInt64
  refine jy_istore (j := 6) (by decide) (TC_24.row (show jtb tC_24 1119 = _ from rfl)).1 ?_
  refine jy_aloadn (j := 2) rfl (TC_24.row (show jtb tC_24 1121 = _ from rfl)).1 ?_
  refine jy_S hX 1 rfl rfl hi (by decide) (TC_24.row (show jtb tC_24 1122 = _ from rfl)).1 (TC_24.row (show jtb tC_24 1123 = _ from rfl)).1 (TC_24.row (show jtb tC_24 1125 = _ from rfl)).1 (TC_24.row (show jtb tC_24 1126 = _ from rfl)).1 (TC_24.row (show jtb tC_24 1127 = _ from rfl)).1 ?_
  refine jy_callV (n' := 0 + 16) (mt' := mX12_price) (as := [.int (xs (i + 1))]) (r := []) (ci := 12) (a := 322) (zL_ok (by decide) hc0 hs0) TC_24 (show jtb tC_24 1128 = _ from rfl) kL_188 WX12_price rfl (by decide +kernel) rfl (by decide) rfl (by simp) (CX12_price g 0 _ _ p2) (fun w υ hw => ?_)
  obtain ⟨rfl, e1, e2, hR'⟩ := q2 w υ hw
  refine jy_istore (j := 7) (by decide) (TC_24.row (show jtb tC_24 1131 = _ from rfl)).1 ?_
  refine jy_aloadn (j := 2) rfl (TC_24.row (show jtb tC_24 1133 = _ from rfl)).1 ?_
  refine jy_callV (n' := 0 + 0) (mt' := mX12_thrown) (as := []) (r := []) (ci := 12) (a := 322) (zL_ok (by decide) hc0 hs0) TC_24 (show jtb tC_24 1134 = _ from rfl) kL_142 WX12_thrown rfl (by decide +kernel) rfl (by decide) rfl (by simp) (CX12_thrown g 0 [.ref 322] υ rfl) (fun w υ' hw => ?_)
  obtain ⟨rfl, rfl⟩ := hw
  rw [e1]
  refine jy_iload (x := 0) rfl (TC_24.row (show jtb tC_24 1137 = _ from rfl)).1 ?_
  refine jy_icmp (tg := 1144) (TC_24.row (show jtb tC_24 1139 = _ from rfl)).1 rfl ⟨fun _ => ?_, fun h => absurd rfl h⟩
  refine jy_iload (x := 0) rfl (TC_24.row (show jtb tC_24 1144 = _ from rfl)).1 ?_
  refine jy_if (tg := 1161) (TC_24.row (show jtb tC_24 1146 = _ from rfl)).1 rfl ⟨fun h => absurd rfl h, fun _ => ?_⟩
  refine jy_aloadn (j := 3) rfl (TC_24.row (show jtb tC_24 1149 = _ from rfl)).1 ?_
  refine jy_iconst (v := 0) rfl (TC_24.row (show jtb tC_24 1150 = _ from rfl)).1 ?_
  refine jy_lald (a := 352) (by decide +kernel) (show jin 0 1 from ⟨by decide, by decide⟩) (TC_24.row (show jtb tC_24 1151 = _ from rfl)).1 ?_
  refine jy_ofL e2 ?_
  refine jy_iload (x := a) rfl (TC_24.row (show jtb tC_24 1152 = _ from rfl)).1 ?_
  refine jy_i2l (TC_24.row (show jtb tC_24 1154 = _ from rfl)).1 ?_
  refine jy_lcmp (TC_24.row (show jtb tC_24 1155 = _ from rfl)).1 ?_
  refine jy_ofI (lg_cmp_self _) ?_
  refine jy_if (tg := 1161) (TC_24.row (show jtb tC_24 1156 = _ from rfl)).1 rfl ⟨fun _ => ?_, fun h => absurd rfl h⟩
  exact jy_goto (tg := 2617) (TC_24.row (show jtb tC_24 1161 = _ from rfl)).1 rfl ((k _ hR').mono (LL67 i _ _))
theorem LB_24 {g : jG} (hEx : jEx g) {N : Nat} {xs : Nat → Int32} (hX : jScr g N xs) {T : lwT} {c0 s0 : Nat} (hc0 : c0 + 1 ≤ 601024) (hs0 : s0 + 6 ≤ 7293034) {i : Nat} (hi : i + 6 ≤ N) {σ : jM} (k : ∀ υ, xR υ → jY g (zL T (c0 + 1) (s0 + 6)) mLw 1000 2617 (LL i) [] υ) {th : jM → jM → Prop} (ht : ∀ n, jTh g (n + 20) mX11_price [.ref 0, .int (xs (i + 1))] σ (th σ)) (q1 : ∀ τ, th σ τ → (oX12_price [.ref 322, .int (xs (i + 1))] τ).1 ∧ ∀ w υ, (oX12_price [.ref 322, .int (xs (i + 1))] τ).2 w υ → (∃ x, w = some (.int x)) ∧ υ.1 322 11 = 1 ∧ xR υ) : jY g (zL T c0 s0) mLw 1000 1108 (LL i) [] σ := by
  refine jy_aloadn (j := 1) rfl (TC_24.row (show jtb tC_24 1108 = _ from rfl)).1 ?_
  refine jy_S hX 1 rfl rfl hi (by decide) (TC_24.row (show jtb tC_24 1109 = _ from rfl)).1 (TC_24.row (show jtb tC_24 1110 = _ from rfl)).1 (TC_24.row (show jtb tC_24 1112 = _ from rfl)).1 (TC_24.row (show jtb tC_24 1113 = _ from rfl)).1 (TC_24.row (show jtb tC_24 1114 = _ from rfl)).1 ?_
  refine jy_aloadn (j := 3) rfl (TC_24.row (show jtb tC_24 1115 = _ from rfl)).1 ?_
  refine jy_callSW (n' := 0 + 20 + 1) (mt' := mL_price) (hh := hL_price) (as := [.ref 0, .int (xs (i + 1)), .ref 352]) (r := []) (by decide) hc0 hs0 TC_24 (show jtb tC_24 1116 = _ from rfl) kL_186 WL_price rfl (by decide) rfl (by simp) (PL_price hEx (0 + 20) (ht _)) (fun v τ hv => ?_)
  obtain ⟨rfl, hτ⟩ := hv
  obtain ⟨p2, q2⟩ := q1 τ hτ
  refine jy_istore (j := 6) (by decide) (TC_24.row (show jtb tC_24 1119 = _ from rfl)).1 ?_
  refine jy_aloadn (j := 2) rfl (TC_24.row (show jtb tC_24 1121 = _ from rfl)).1 ?_
  refine jy_S hX 1 rfl rfl hi (by decide) (TC_24.row (show jtb tC_24 1122 = _ from rfl)).1 (TC_24.row (show jtb tC_24 1123 = _ from rfl)).1 (TC_24.row (show jtb tC_24 1125 = _ from rfl)).1 (TC_24.row (show jtb tC_24 1126 = _ from rfl)).1 (TC_24.row (show jtb tC_24 1127 = _ from rfl)).1 ?_
  refine jy_callV (n' := 0 + 16) (mt' := mX12_price) (as := [.int (xs (i + 1))]) (r := []) (ci := 12) (a := 322) (zL_ok (by decide) hc0 hs0) TC_24 (show jtb tC_24 1128 = _ from rfl) kL_188 WX12_price rfl (by decide +kernel) rfl (by decide) rfl (by simp) (CX12_price g 0 _ _ p2) (fun w υ hw => ?_)
  obtain ⟨⟨a, rfl⟩, e1, hR'⟩ := q2 w υ hw
  refine jy_istore (j := 7) (by decide) (TC_24.row (show jtb tC_24 1131 = _ from rfl)).1 ?_
  refine jy_aloadn (j := 2) rfl (TC_24.row (show jtb tC_24 1133 = _ from rfl)).1 ?_
  refine jy_callV (n' := 0 + 0) (mt' := mX12_thrown) (as := []) (r := []) (ci := 12) (a := 322) (zL_ok (by decide) hc0 hs0) TC_24 (show jtb tC_24 1134 = _ from rfl) kL_142 WX12_thrown rfl (by decide +kernel) rfl (by decide) rfl (by simp) (CX12_thrown g 0 [.ref 322] υ rfl) (fun w υ' hw => ?_)
  obtain ⟨rfl, rfl⟩ := hw
  rw [e1]
  refine jy_iload (x := 1) rfl (TC_24.row (show jtb tC_24 1137 = _ from rfl)).1 ?_
  refine jy_icmp (tg := 1144) (TC_24.row (show jtb tC_24 1139 = _ from rfl)).1 rfl ⟨fun _ => ?_, fun h => absurd rfl h⟩
  refine jy_iload (x := 1) rfl (TC_24.row (show jtb tC_24 1144 = _ from rfl)).1 ?_
  refine jy_if (tg := 1161) (TC_24.row (show jtb tC_24 1146 = _ from rfl)).1 rfl ⟨fun _ => ?_, fun h => absurd h (by decide)⟩
  exact jy_goto (tg := 2617) (TC_24.row (show jtb tC_24 1161 = _ from rfl)).1 rfl ((k _ hR').mono (LL67 i _ _))
/-! 26: incomeShare -/
def tC_26 : jTb := [(1177, .aload_n 1, 1178, 0, 0), (1178, .aload_n 0, 1179, 0, 0), (1179, .iload 5, 1181, 0, 0), (1181, .iconst 1, 1182, 0, 1), (1182, .iadd, 1183, 0, 0), (1183, .iaload, 1184, 0, 0), (1184, .aload_n 3, 1185, 0, 0), (1185, .invokestatic 193, 1188, 0, 0), (1188, .istore 6, 1190, 0, 0), (1190, .aload_n 2, 1191, 0, 0), (1191, .aload_n 0, 1192, 0, 0), (1192, .iload 5, 1194, 0, 0), (1194, .iconst 1, 1195, 0, 1), (1195, .iadd, 1196, 0, 0), (1196, .iaload, 1197, 0, 0), (1197, .invokevirtual 195, 1200, 0, 0), (1200, .istore 7, 1202, 0, 0), (1202, .aload_n 2, 1203, 0, 0), (1203, .invokevirtual 142, 1206, 0, 0), (1206, .iload 6, 1208, 0, 0), (1208, .if_icmp .eq 5, 1211, 1213, 0), (1211, .iconst 0, 1212, 0, 0), (1212, .ireturn, 1213, 0, 0), (1213, .iload 6, 1215, 0, 0), (1215, .ifCond .ne 15, 1218, 1230, 0), (1218, .aload_n 3, 1219, 0, 0), (1219, .iconst 0, 1220, 0, 0), (1220, .laload, 1221, 0, 0), (1221, .iload 7, 1223, 0, 0), (1223, .i2l, 1224, 0, 0), (1224, .lcmp, 1225, 0, 0), (1225, .ifCond .eq 5, 1228, 1230, 0), (1228, .iconst 0, 1229, 0, 0), (1229, .ireturn, 1230, 0, 0), (1230, .goto 1387, 1233, 2617, 0)]
theorem TC_26 : jT mLw [] [] tC_26 := jT.of (cs := []) (fun _ h => absurd h List.not_mem_nil) (fun _ h => absurd h List.not_mem_nil) (fun _ h => absurd h List.not_mem_nil) (by decide +kernel) (by decide +kernel)
theorem kL_193 : Cond.methodLink RL 193 yL_incomeShare ∈ jGw := jGw_of 1355 (by decide +kernel) (by decide +kernel)
theorem LA_26 {g : jG} {N : Nat} {xs : Nat → Int32} (hX : jScr g N xs) {T : lwT} {c0 s0 : Nat} (hc0 : c0 + 1 ≤ 601024) (hs0 : s0 + 6 ≤ 7293034) {i : Nat} (hi : i + 6 ≤ N) {σ : jM} (k : ∀ υ, xR υ → jY g (zL T (c0 + 1) (s0 + 6)) mLw 1000 2617 (LL i) [] υ) (p1 : (oX11_incomeShare [.ref 0, .int (xs (i + 1))] σ).1) (q1 : ∀ v τ, (oX11_incomeShare [.ref 0, .int (xs (i + 1))] σ).2 v τ → ∀ y : Int64, (oX12_incomeShare [.ref 322, .int (xs (i + 1))] (jupL τ 352 0 y)).1 ∧ ∀ w υ, (oX12_incomeShare [.ref 322, .int (xs (i + 1))] (jupL τ 352 0 y)).2 w υ → w = v ∧ υ.1 322 11 = 0 ∧ υ.2.1 352 0 = y ∧ xR υ) (hv1 : ∀ σ' v τ, (oX11_incomeShare [.ref 0, .int (xs (i + 1))] σ').2 v τ → ∃ a : Int32, v = some (.int a)) : jY g (zL T c0 s0) mLw 1000 1177 (LL i) [] σ := by
  refine jy_aloadn (j := 1) rfl (TC_26.row (show jtb tC_26 1177 = _ from rfl)).1 ?_
  refine jy_S hX 1 rfl rfl hi (by decide) (TC_26.row (show jtb tC_26 1178 = _ from rfl)).1 (TC_26.row (show jtb tC_26 1179 = _ from rfl)).1 (TC_26.row (show jtb tC_26 1181 = _ from rfl)).1 (TC_26.row (show jtb tC_26 1182 = _ from rfl)).1 (TC_26.row (show jtb tC_26 1183 = _ from rfl)).1 ?_
  refine jy_aloadn (j := 3) rfl (TC_26.row (show jtb tC_26 1184 = _ from rfl)).1 ?_
  refine jy_callSW (n' := 0 + 6 + 1) (mt' := mL_incomeShare) (hh := hL_incomeShare) (as := [.ref 0, .int (xs (i + 1)), .ref 352]) (r := []) (by decide) hc0 hs0 TC_26 (show jtb tC_26 1185 = _ from rfl) kL_193 WL_incomeShare rfl (by decide) rfl (by simp) (NL_incomeShare 0 6 (hv1 _) (CX11_incomeShare g 0 _ σ p1)) (fun v τ hv => ?_)
  obtain ⟨rfl, a, τ', hq, rfl⟩ := hv
  obtain ⟨p2, q2⟩ := q1 _ τ' hq a.toInt64
  refine jy_istore (j := 6) (by decide) (TC_26.row (show jtb tC_26 1188 = _ from rfl)).1 ?_
  refine jy_aloadn (j := 2) rfl (TC_26.row (show jtb tC_26 1190 = _ from rfl)).1 ?_
  refine jy_S hX 1 rfl rfl hi (by decide) (TC_26.row (show jtb tC_26 1191 = _ from rfl)).1 (TC_26.row (show jtb tC_26 1192 = _ from rfl)).1 (TC_26.row (show jtb tC_26 1194 = _ from rfl)).1 (TC_26.row (show jtb tC_26 1195 = _ from rfl)).1 (TC_26.row (show jtb tC_26 1196 = _ from rfl)).1 ?_
  refine jy_callV (n' := 0 + 16) (mt' := mX12_incomeShare) (as := [.int (xs (i + 1))]) (r := []) (ci := 12) (a := 322) (zL_ok (by decide) hc0 hs0) TC_26 (show jtb tC_26 1197 = _ from rfl) kL_195 WX12_incomeShare rfl (by decide +kernel) rfl (by decide) rfl (by simp) (CX12_incomeShare g 0 _ _ p2) (fun w υ hw => ?_)
  obtain ⟨rfl, e1, e2, hR'⟩ := q2 w υ hw
  refine jy_istore (j := 7) (by decide) (TC_26.row (show jtb tC_26 1200 = _ from rfl)).1 ?_
  refine jy_aloadn (j := 2) rfl (TC_26.row (show jtb tC_26 1202 = _ from rfl)).1 ?_
  refine jy_callV (n' := 0 + 0) (mt' := mX12_thrown) (as := []) (r := []) (ci := 12) (a := 322) (zL_ok (by decide) hc0 hs0) TC_26 (show jtb tC_26 1203 = _ from rfl) kL_142 WX12_thrown rfl (by decide +kernel) rfl (by decide) rfl (by simp) (CX12_thrown g 0 [.ref 322] υ rfl) (fun w υ' hw => ?_)
  obtain ⟨rfl, rfl⟩ := hw
  rw [e1]
  refine jy_iload (x := 0) rfl (TC_26.row (show jtb tC_26 1206 = _ from rfl)).1 ?_
  refine jy_icmp (tg := 1213) (TC_26.row (show jtb tC_26 1208 = _ from rfl)).1 rfl ⟨fun _ => ?_, fun h => absurd rfl h⟩
  refine jy_iload (x := 0) rfl (TC_26.row (show jtb tC_26 1213 = _ from rfl)).1 ?_
  refine jy_if (tg := 1230) (TC_26.row (show jtb tC_26 1215 = _ from rfl)).1 rfl ⟨fun h => absurd rfl h, fun _ => ?_⟩
  refine jy_aloadn (j := 3) rfl (TC_26.row (show jtb tC_26 1218 = _ from rfl)).1 ?_
  refine jy_iconst (v := 0) rfl (TC_26.row (show jtb tC_26 1219 = _ from rfl)).1 ?_
  refine jy_lald (a := 352) (by decide +kernel) (show jin 0 1 from ⟨by decide, by decide⟩) (TC_26.row (show jtb tC_26 1220 = _ from rfl)).1 ?_
  refine jy_ofL e2 ?_
  refine jy_iload (x := a) rfl (TC_26.row (show jtb tC_26 1221 = _ from rfl)).1 ?_
  refine jy_i2l (TC_26.row (show jtb tC_26 1223 = _ from rfl)).1 ?_
  refine jy_lcmp (TC_26.row (show jtb tC_26 1224 = _ from rfl)).1 ?_
  refine jy_ofI (lg_cmp_self _) ?_
  refine jy_if (tg := 1230) (TC_26.row (show jtb tC_26 1225 = _ from rfl)).1 rfl ⟨fun _ => ?_, fun h => absurd rfl h⟩
  exact jy_goto (tg := 2617) (TC_26.row (show jtb tC_26 1230 = _ from rfl)).1 rfl ((k _ hR').mono (LL67 i _ _))
theorem LB_26 {g : jG} (hEx : jEx g) {N : Nat} {xs : Nat → Int32} (hX : jScr g N xs) {T : lwT} {c0 s0 : Nat} (hc0 : c0 + 1 ≤ 601024) (hs0 : s0 + 6 ≤ 7293034) {i : Nat} (hi : i + 6 ≤ N) {σ : jM} (k : ∀ υ, xR υ → jY g (zL T (c0 + 1) (s0 + 6)) mLw 1000 2617 (LL i) [] υ) {th : jM → jM → Prop} (ht : ∀ n, jTh g (n + 20) mX11_incomeShare [.ref 0, .int (xs (i + 1))] σ (th σ)) (q1 : ∀ τ, th σ τ → (oX12_incomeShare [.ref 322, .int (xs (i + 1))] τ).1 ∧ ∀ w υ, (oX12_incomeShare [.ref 322, .int (xs (i + 1))] τ).2 w υ → (∃ x, w = some (.int x)) ∧ υ.1 322 11 = 1 ∧ xR υ) : jY g (zL T c0 s0) mLw 1000 1177 (LL i) [] σ := by
  refine jy_aloadn (j := 1) rfl (TC_26.row (show jtb tC_26 1177 = _ from rfl)).1 ?_
  refine jy_S hX 1 rfl rfl hi (by decide) (TC_26.row (show jtb tC_26 1178 = _ from rfl)).1 (TC_26.row (show jtb tC_26 1179 = _ from rfl)).1 (TC_26.row (show jtb tC_26 1181 = _ from rfl)).1 (TC_26.row (show jtb tC_26 1182 = _ from rfl)).1 (TC_26.row (show jtb tC_26 1183 = _ from rfl)).1 ?_
  refine jy_aloadn (j := 3) rfl (TC_26.row (show jtb tC_26 1184 = _ from rfl)).1 ?_
  refine jy_callSW (n' := 0 + 20 + 1) (mt' := mL_incomeShare) (hh := hL_incomeShare) (as := [.ref 0, .int (xs (i + 1)), .ref 352]) (r := []) (by decide) hc0 hs0 TC_26 (show jtb tC_26 1185 = _ from rfl) kL_193 WL_incomeShare rfl (by decide) rfl (by simp) (PL_incomeShare hEx (0 + 20) (ht _)) (fun v τ hv => ?_)
  obtain ⟨rfl, hτ⟩ := hv
  obtain ⟨p2, q2⟩ := q1 τ hτ
  refine jy_istore (j := 6) (by decide) (TC_26.row (show jtb tC_26 1188 = _ from rfl)).1 ?_
  refine jy_aloadn (j := 2) rfl (TC_26.row (show jtb tC_26 1190 = _ from rfl)).1 ?_
  refine jy_S hX 1 rfl rfl hi (by decide) (TC_26.row (show jtb tC_26 1191 = _ from rfl)).1 (TC_26.row (show jtb tC_26 1192 = _ from rfl)).1 (TC_26.row (show jtb tC_26 1194 = _ from rfl)).1 (TC_26.row (show jtb tC_26 1195 = _ from rfl)).1 (TC_26.row (show jtb tC_26 1196 = _ from rfl)).1 ?_
  refine jy_callV (n' := 0 + 16) (mt' := mX12_incomeShare) (as := [.int (xs (i + 1))]) (r := []) (ci := 12) (a := 322) (zL_ok (by decide) hc0 hs0) TC_26 (show jtb tC_26 1197 = _ from rfl) kL_195 WX12_incomeShare rfl (by decide +kernel) rfl (by decide) rfl (by simp) (CX12_incomeShare g 0 _ _ p2) (fun w υ hw => ?_)
  obtain ⟨⟨a, rfl⟩, e1, hR'⟩ := q2 w υ hw
  refine jy_istore (j := 7) (by decide) (TC_26.row (show jtb tC_26 1200 = _ from rfl)).1 ?_
  refine jy_aloadn (j := 2) rfl (TC_26.row (show jtb tC_26 1202 = _ from rfl)).1 ?_
  refine jy_callV (n' := 0 + 0) (mt' := mX12_thrown) (as := []) (r := []) (ci := 12) (a := 322) (zL_ok (by decide) hc0 hs0) TC_26 (show jtb tC_26 1203 = _ from rfl) kL_142 WX12_thrown rfl (by decide +kernel) rfl (by decide) rfl (by simp) (CX12_thrown g 0 [.ref 322] υ rfl) (fun w υ' hw => ?_)
  obtain ⟨rfl, rfl⟩ := hw
  rw [e1]
  refine jy_iload (x := 1) rfl (TC_26.row (show jtb tC_26 1206 = _ from rfl)).1 ?_
  refine jy_icmp (tg := 1213) (TC_26.row (show jtb tC_26 1208 = _ from rfl)).1 rfl ⟨fun _ => ?_, fun h => absurd rfl h⟩
  refine jy_iload (x := 1) rfl (TC_26.row (show jtb tC_26 1213 = _ from rfl)).1 ?_
  refine jy_if (tg := 1230) (TC_26.row (show jtb tC_26 1215 = _ from rfl)).1 rfl ⟨fun _ => ?_, fun h => absurd h (by decide)⟩
  exact jy_goto (tg := 2617) (TC_26.row (show jtb tC_26 1230 = _ from rfl)).1 rfl ((k _ hR').mono (LL67 i _ _))
/-! 27: proposedPayment -/
def tC_27 : jTb := [(1233, .aload_n 1, 1234, 0, 0), (1234, .aload_n 0, 1235, 0, 0), (1235, .iload 5, 1237, 0, 0), (1237, .iconst 1, 1238, 0, 1), (1238, .iadd, 1239, 0, 0), (1239, .iaload, 1240, 0, 0), (1240, .aload_n 3, 1241, 0, 0), (1241, .invokestatic 196, 1244, 0, 0), (1244, .istore 6, 1246, 0, 0), (1246, .aload_n 2, 1247, 0, 0), (1247, .aload_n 0, 1248, 0, 0), (1248, .iload 5, 1250, 0, 0), (1250, .iconst 1, 1251, 0, 1), (1251, .iadd, 1252, 0, 0), (1252, .iaload, 1253, 0, 0), (1253, .invokevirtual 198, 1256, 0, 0), (1256, .istore 7, 1258, 0, 0), (1258, .aload_n 2, 1259, 0, 0), (1259, .invokevirtual 142, 1262, 0, 0), (1262, .iload 6, 1264, 0, 0), (1264, .if_icmp .eq 5, 1267, 1269, 0), (1267, .iconst 0, 1268, 0, 0), (1268, .ireturn, 1269, 0, 0), (1269, .iload 6, 1271, 0, 0), (1271, .ifCond .ne 15, 1274, 1286, 0), (1274, .aload_n 3, 1275, 0, 0), (1275, .iconst 0, 1276, 0, 0), (1276, .laload, 1277, 0, 0), (1277, .iload 7, 1279, 0, 0), (1279, .i2l, 1280, 0, 0), (1280, .lcmp, 1281, 0, 0), (1281, .ifCond .eq 5, 1284, 1286, 0), (1284, .iconst 0, 1285, 0, 0), (1285, .ireturn, 1286, 0, 0), (1286, .goto 1331, 1289, 2617, 0)]
theorem TC_27 : jT mLw [] [] tC_27 := jT.of (cs := []) (fun _ h => absurd h List.not_mem_nil) (fun _ h => absurd h List.not_mem_nil) (fun _ h => absurd h List.not_mem_nil) (by decide +kernel) (by decide +kernel)
theorem kL_196 : Cond.methodLink RL 196 yL_proposedPayment ∈ jGw := jGw_of 1363 (by decide +kernel) (by decide +kernel)
theorem LA_27 {g : jG} {N : Nat} {xs : Nat → Int32} (hX : jScr g N xs) {T : lwT} {c0 s0 : Nat} (hc0 : c0 + 1 ≤ 601024) (hs0 : s0 + 6 ≤ 7293034) {i : Nat} (hi : i + 6 ≤ N) {σ : jM} (k : ∀ υ, xR υ → jY g (zL T (c0 + 1) (s0 + 6)) mLw 1000 2617 (LL i) [] υ) (p1 : (oX11_proposedPayment [.ref 0, .int (xs (i + 1))] σ).1) (q1 : ∀ v τ, (oX11_proposedPayment [.ref 0, .int (xs (i + 1))] σ).2 v τ → ∀ y : Int64, (oX12_proposedPayment [.ref 322, .int (xs (i + 1))] (jupL τ 352 0 y)).1 ∧ ∀ w υ, (oX12_proposedPayment [.ref 322, .int (xs (i + 1))] (jupL τ 352 0 y)).2 w υ → w = v ∧ υ.1 322 11 = 0 ∧ υ.2.1 352 0 = y ∧ xR υ) (hv1 : ∀ σ' v τ, (oX11_proposedPayment [.ref 0, .int (xs (i + 1))] σ').2 v τ → ∃ a : Int32, v = some (.int a)) : jY g (zL T c0 s0) mLw 1000 1233 (LL i) [] σ := by
  refine jy_aloadn (j := 1) rfl (TC_27.row (show jtb tC_27 1233 = _ from rfl)).1 ?_
  refine jy_S hX 1 rfl rfl hi (by decide) (TC_27.row (show jtb tC_27 1234 = _ from rfl)).1 (TC_27.row (show jtb tC_27 1235 = _ from rfl)).1 (TC_27.row (show jtb tC_27 1237 = _ from rfl)).1 (TC_27.row (show jtb tC_27 1238 = _ from rfl)).1 (TC_27.row (show jtb tC_27 1239 = _ from rfl)).1 ?_
  refine jy_aloadn (j := 3) rfl (TC_27.row (show jtb tC_27 1240 = _ from rfl)).1 ?_
  refine jy_callSW (n' := 0 + 6 + 1) (mt' := mL_proposedPayment) (hh := hL_proposedPayment) (as := [.ref 0, .int (xs (i + 1)), .ref 352]) (r := []) (by decide) hc0 hs0 TC_27 (show jtb tC_27 1241 = _ from rfl) kL_196 WL_proposedPayment rfl (by decide) rfl (by simp) (NL_proposedPayment 0 6 (hv1 _) (CX11_proposedPayment g 0 _ σ p1)) (fun v τ hv => ?_)
  obtain ⟨rfl, a, τ', hq, rfl⟩ := hv
  obtain ⟨p2, q2⟩ := q1 _ τ' hq a.toInt64
  refine jy_istore (j := 6) (by decide) (TC_27.row (show jtb tC_27 1244 = _ from rfl)).1 ?_
  refine jy_aloadn (j := 2) rfl (TC_27.row (show jtb tC_27 1246 = _ from rfl)).1 ?_
  refine jy_S hX 1 rfl rfl hi (by decide) (TC_27.row (show jtb tC_27 1247 = _ from rfl)).1 (TC_27.row (show jtb tC_27 1248 = _ from rfl)).1 (TC_27.row (show jtb tC_27 1250 = _ from rfl)).1 (TC_27.row (show jtb tC_27 1251 = _ from rfl)).1 (TC_27.row (show jtb tC_27 1252 = _ from rfl)).1 ?_
  refine jy_callV (n' := 0 + 16) (mt' := mX12_proposedPayment) (as := [.int (xs (i + 1))]) (r := []) (ci := 12) (a := 322) (zL_ok (by decide) hc0 hs0) TC_27 (show jtb tC_27 1253 = _ from rfl) kL_198 WX12_proposedPayment rfl (by decide +kernel) rfl (by decide) rfl (by simp) (CX12_proposedPayment g 0 _ _ p2) (fun w υ hw => ?_)
  obtain ⟨rfl, e1, e2, hR'⟩ := q2 w υ hw
  refine jy_istore (j := 7) (by decide) (TC_27.row (show jtb tC_27 1256 = _ from rfl)).1 ?_
  refine jy_aloadn (j := 2) rfl (TC_27.row (show jtb tC_27 1258 = _ from rfl)).1 ?_
  refine jy_callV (n' := 0 + 0) (mt' := mX12_thrown) (as := []) (r := []) (ci := 12) (a := 322) (zL_ok (by decide) hc0 hs0) TC_27 (show jtb tC_27 1259 = _ from rfl) kL_142 WX12_thrown rfl (by decide +kernel) rfl (by decide) rfl (by simp) (CX12_thrown g 0 [.ref 322] υ rfl) (fun w υ' hw => ?_)
  obtain ⟨rfl, rfl⟩ := hw
  rw [e1]
  refine jy_iload (x := 0) rfl (TC_27.row (show jtb tC_27 1262 = _ from rfl)).1 ?_
  refine jy_icmp (tg := 1269) (TC_27.row (show jtb tC_27 1264 = _ from rfl)).1 rfl ⟨fun _ => ?_, fun h => absurd rfl h⟩
  refine jy_iload (x := 0) rfl (TC_27.row (show jtb tC_27 1269 = _ from rfl)).1 ?_
  refine jy_if (tg := 1286) (TC_27.row (show jtb tC_27 1271 = _ from rfl)).1 rfl ⟨fun h => absurd rfl h, fun _ => ?_⟩
  refine jy_aloadn (j := 3) rfl (TC_27.row (show jtb tC_27 1274 = _ from rfl)).1 ?_
  refine jy_iconst (v := 0) rfl (TC_27.row (show jtb tC_27 1275 = _ from rfl)).1 ?_
  refine jy_lald (a := 352) (by decide +kernel) (show jin 0 1 from ⟨by decide, by decide⟩) (TC_27.row (show jtb tC_27 1276 = _ from rfl)).1 ?_
  refine jy_ofL e2 ?_
  refine jy_iload (x := a) rfl (TC_27.row (show jtb tC_27 1277 = _ from rfl)).1 ?_
  refine jy_i2l (TC_27.row (show jtb tC_27 1279 = _ from rfl)).1 ?_
  refine jy_lcmp (TC_27.row (show jtb tC_27 1280 = _ from rfl)).1 ?_
  refine jy_ofI (lg_cmp_self _) ?_
  refine jy_if (tg := 1286) (TC_27.row (show jtb tC_27 1281 = _ from rfl)).1 rfl ⟨fun _ => ?_, fun h => absurd rfl h⟩
  exact jy_goto (tg := 2617) (TC_27.row (show jtb tC_27 1286 = _ from rfl)).1 rfl ((k _ hR').mono (LL67 i _ _))
theorem LB_27 {g : jG} (hEx : jEx g) {N : Nat} {xs : Nat → Int32} (hX : jScr g N xs) {T : lwT} {c0 s0 : Nat} (hc0 : c0 + 1 ≤ 601024) (hs0 : s0 + 6 ≤ 7293034) {i : Nat} (hi : i + 6 ≤ N) {σ : jM} (k : ∀ υ, xR υ → jY g (zL T (c0 + 1) (s0 + 6)) mLw 1000 2617 (LL i) [] υ) {th : jM → jM → Prop} (ht : ∀ n, jTh g (n + 20) mX11_proposedPayment [.ref 0, .int (xs (i + 1))] σ (th σ)) (q1 : ∀ τ, th σ τ → (oX12_proposedPayment [.ref 322, .int (xs (i + 1))] τ).1 ∧ ∀ w υ, (oX12_proposedPayment [.ref 322, .int (xs (i + 1))] τ).2 w υ → (∃ x, w = some (.int x)) ∧ υ.1 322 11 = 1 ∧ xR υ) : jY g (zL T c0 s0) mLw 1000 1233 (LL i) [] σ := by
  refine jy_aloadn (j := 1) rfl (TC_27.row (show jtb tC_27 1233 = _ from rfl)).1 ?_
  refine jy_S hX 1 rfl rfl hi (by decide) (TC_27.row (show jtb tC_27 1234 = _ from rfl)).1 (TC_27.row (show jtb tC_27 1235 = _ from rfl)).1 (TC_27.row (show jtb tC_27 1237 = _ from rfl)).1 (TC_27.row (show jtb tC_27 1238 = _ from rfl)).1 (TC_27.row (show jtb tC_27 1239 = _ from rfl)).1 ?_
  refine jy_aloadn (j := 3) rfl (TC_27.row (show jtb tC_27 1240 = _ from rfl)).1 ?_
  refine jy_callSW (n' := 0 + 20 + 1) (mt' := mL_proposedPayment) (hh := hL_proposedPayment) (as := [.ref 0, .int (xs (i + 1)), .ref 352]) (r := []) (by decide) hc0 hs0 TC_27 (show jtb tC_27 1241 = _ from rfl) kL_196 WL_proposedPayment rfl (by decide) rfl (by simp) (PL_proposedPayment hEx (0 + 20) (ht _)) (fun v τ hv => ?_)
  obtain ⟨rfl, hτ⟩ := hv
  obtain ⟨p2, q2⟩ := q1 τ hτ
  refine jy_istore (j := 6) (by decide) (TC_27.row (show jtb tC_27 1244 = _ from rfl)).1 ?_
  refine jy_aloadn (j := 2) rfl (TC_27.row (show jtb tC_27 1246 = _ from rfl)).1 ?_
  refine jy_S hX 1 rfl rfl hi (by decide) (TC_27.row (show jtb tC_27 1247 = _ from rfl)).1 (TC_27.row (show jtb tC_27 1248 = _ from rfl)).1 (TC_27.row (show jtb tC_27 1250 = _ from rfl)).1 (TC_27.row (show jtb tC_27 1251 = _ from rfl)).1 (TC_27.row (show jtb tC_27 1252 = _ from rfl)).1 ?_
  refine jy_callV (n' := 0 + 16) (mt' := mX12_proposedPayment) (as := [.int (xs (i + 1))]) (r := []) (ci := 12) (a := 322) (zL_ok (by decide) hc0 hs0) TC_27 (show jtb tC_27 1253 = _ from rfl) kL_198 WX12_proposedPayment rfl (by decide +kernel) rfl (by decide) rfl (by simp) (CX12_proposedPayment g 0 _ _ p2) (fun w υ hw => ?_)
  obtain ⟨⟨a, rfl⟩, e1, hR'⟩ := q2 w υ hw
  refine jy_istore (j := 7) (by decide) (TC_27.row (show jtb tC_27 1256 = _ from rfl)).1 ?_
  refine jy_aloadn (j := 2) rfl (TC_27.row (show jtb tC_27 1258 = _ from rfl)).1 ?_
  refine jy_callV (n' := 0 + 0) (mt' := mX12_thrown) (as := []) (r := []) (ci := 12) (a := 322) (zL_ok (by decide) hc0 hs0) TC_27 (show jtb tC_27 1259 = _ from rfl) kL_142 WX12_thrown rfl (by decide +kernel) rfl (by decide) rfl (by simp) (CX12_thrown g 0 [.ref 322] υ rfl) (fun w υ' hw => ?_)
  obtain ⟨rfl, rfl⟩ := hw
  rw [e1]
  refine jy_iload (x := 1) rfl (TC_27.row (show jtb tC_27 1262 = _ from rfl)).1 ?_
  refine jy_icmp (tg := 1269) (TC_27.row (show jtb tC_27 1264 = _ from rfl)).1 rfl ⟨fun _ => ?_, fun h => absurd rfl h⟩
  refine jy_iload (x := 1) rfl (TC_27.row (show jtb tC_27 1269 = _ from rfl)).1 ?_
  refine jy_if (tg := 1286) (TC_27.row (show jtb tC_27 1271 = _ from rfl)).1 rfl ⟨fun _ => ?_, fun h => absurd h (by decide)⟩
  exact jy_goto (tg := 2617) (TC_27.row (show jtb tC_27 1286 = _ from rfl)).1 rfl ((k _ hR').mono (LL67 i _ _))
/-! 28: surplus -/
def tC_28 : jTb := [(1289, .aload_n 1, 1290, 0, 0), (1290, .aload_n 0, 1291, 0, 0), (1291, .iload 5, 1293, 0, 0), (1293, .iconst 1, 1294, 0, 1), (1294, .iadd, 1295, 0, 0), (1295, .iaload, 1296, 0, 0), (1296, .aload_n 3, 1297, 0, 0), (1297, .invokestatic 199, 1300, 0, 0), (1300, .istore 6, 1302, 0, 0), (1302, .aload_n 2, 1303, 0, 0), (1303, .aload_n 0, 1304, 0, 0), (1304, .iload 5, 1306, 0, 0), (1306, .iconst 1, 1307, 0, 1), (1307, .iadd, 1308, 0, 0), (1308, .iaload, 1309, 0, 0), (1309, .invokevirtual 201, 1312, 0, 0), (1312, .istore 7, 1314, 0, 0), (1314, .aload_n 2, 1315, 0, 0), (1315, .invokevirtual 142, 1318, 0, 0), (1318, .iload 6, 1320, 0, 0), (1320, .if_icmp .eq 5, 1323, 1325, 0), (1323, .iconst 0, 1324, 0, 0), (1324, .ireturn, 1325, 0, 0), (1325, .iload 6, 1327, 0, 0), (1327, .ifCond .ne 15, 1330, 1342, 0), (1330, .aload_n 3, 1331, 0, 0), (1331, .iconst 0, 1332, 0, 0), (1332, .laload, 1333, 0, 0), (1333, .iload 7, 1335, 0, 0), (1335, .i2l, 1336, 0, 0), (1336, .lcmp, 1337, 0, 0), (1337, .ifCond .eq 5, 1340, 1342, 0), (1340, .iconst 0, 1341, 0, 0), (1341, .ireturn, 1342, 0, 0), (1342, .goto 1275, 1345, 2617, 0)]
theorem TC_28 : jT mLw [] [] tC_28 := jT.of (cs := []) (fun _ h => absurd h List.not_mem_nil) (fun _ h => absurd h List.not_mem_nil) (fun _ h => absurd h List.not_mem_nil) (by decide +kernel) (by decide +kernel)
theorem kL_199 : Cond.methodLink RL 199 yL_surplus ∈ jGw := jGw_of 1370 (by decide +kernel) (by decide +kernel)
theorem LA_28 {g : jG} {N : Nat} {xs : Nat → Int32} (hX : jScr g N xs) {T : lwT} {c0 s0 : Nat} (hc0 : c0 + 1 ≤ 601024) (hs0 : s0 + 6 ≤ 7293034) {i : Nat} (hi : i + 6 ≤ N) {σ : jM} (k : ∀ υ, xR υ → jY g (zL T (c0 + 1) (s0 + 6)) mLw 1000 2617 (LL i) [] υ) (p1 : (oX11_surplus [.ref 0, .int (xs (i + 1))] σ).1) (q1 : ∀ v τ, (oX11_surplus [.ref 0, .int (xs (i + 1))] σ).2 v τ → ∀ y : Int64, (oX12_surplus [.ref 322, .int (xs (i + 1))] (jupL τ 352 0 y)).1 ∧ ∀ w υ, (oX12_surplus [.ref 322, .int (xs (i + 1))] (jupL τ 352 0 y)).2 w υ → w = v ∧ υ.1 322 11 = 0 ∧ υ.2.1 352 0 = y ∧ xR υ) (hv1 : ∀ σ' v τ, (oX11_surplus [.ref 0, .int (xs (i + 1))] σ').2 v τ → ∃ a : Int32, v = some (.int a)) : jY g (zL T c0 s0) mLw 1000 1289 (LL i) [] σ := by
  refine jy_aloadn (j := 1) rfl (TC_28.row (show jtb tC_28 1289 = _ from rfl)).1 ?_
  refine jy_S hX 1 rfl rfl hi (by decide) (TC_28.row (show jtb tC_28 1290 = _ from rfl)).1 (TC_28.row (show jtb tC_28 1291 = _ from rfl)).1 (TC_28.row (show jtb tC_28 1293 = _ from rfl)).1 (TC_28.row (show jtb tC_28 1294 = _ from rfl)).1 (TC_28.row (show jtb tC_28 1295 = _ from rfl)).1 ?_
  refine jy_aloadn (j := 3) rfl (TC_28.row (show jtb tC_28 1296 = _ from rfl)).1 ?_
  refine jy_callSW (n' := 0 + 6 + 1) (mt' := mL_surplus) (hh := hL_surplus) (as := [.ref 0, .int (xs (i + 1)), .ref 352]) (r := []) (by decide) hc0 hs0 TC_28 (show jtb tC_28 1297 = _ from rfl) kL_199 WL_surplus rfl (by decide) rfl (by simp) (NL_surplus 0 6 (hv1 _) (CX11_surplus g 0 _ σ p1)) (fun v τ hv => ?_)
  obtain ⟨rfl, a, τ', hq, rfl⟩ := hv
  obtain ⟨p2, q2⟩ := q1 _ τ' hq a.toInt64
  refine jy_istore (j := 6) (by decide) (TC_28.row (show jtb tC_28 1300 = _ from rfl)).1 ?_
  refine jy_aloadn (j := 2) rfl (TC_28.row (show jtb tC_28 1302 = _ from rfl)).1 ?_
  refine jy_S hX 1 rfl rfl hi (by decide) (TC_28.row (show jtb tC_28 1303 = _ from rfl)).1 (TC_28.row (show jtb tC_28 1304 = _ from rfl)).1 (TC_28.row (show jtb tC_28 1306 = _ from rfl)).1 (TC_28.row (show jtb tC_28 1307 = _ from rfl)).1 (TC_28.row (show jtb tC_28 1308 = _ from rfl)).1 ?_
  refine jy_callV (n' := 0 + 16) (mt' := mX12_surplus) (as := [.int (xs (i + 1))]) (r := []) (ci := 12) (a := 322) (zL_ok (by decide) hc0 hs0) TC_28 (show jtb tC_28 1309 = _ from rfl) kL_201 WX12_surplus rfl (by decide +kernel) rfl (by decide) rfl (by simp) (CX12_surplus g 0 _ _ p2) (fun w υ hw => ?_)
  obtain ⟨rfl, e1, e2, hR'⟩ := q2 w υ hw
  refine jy_istore (j := 7) (by decide) (TC_28.row (show jtb tC_28 1312 = _ from rfl)).1 ?_
  refine jy_aloadn (j := 2) rfl (TC_28.row (show jtb tC_28 1314 = _ from rfl)).1 ?_
  refine jy_callV (n' := 0 + 0) (mt' := mX12_thrown) (as := []) (r := []) (ci := 12) (a := 322) (zL_ok (by decide) hc0 hs0) TC_28 (show jtb tC_28 1315 = _ from rfl) kL_142 WX12_thrown rfl (by decide +kernel) rfl (by decide) rfl (by simp) (CX12_thrown g 0 [.ref 322] υ rfl) (fun w υ' hw => ?_)
  obtain ⟨rfl, rfl⟩ := hw
  rw [e1]
  refine jy_iload (x := 0) rfl (TC_28.row (show jtb tC_28 1318 = _ from rfl)).1 ?_
  refine jy_icmp (tg := 1325) (TC_28.row (show jtb tC_28 1320 = _ from rfl)).1 rfl ⟨fun _ => ?_, fun h => absurd rfl h⟩
  refine jy_iload (x := 0) rfl (TC_28.row (show jtb tC_28 1325 = _ from rfl)).1 ?_
  refine jy_if (tg := 1342) (TC_28.row (show jtb tC_28 1327 = _ from rfl)).1 rfl ⟨fun h => absurd rfl h, fun _ => ?_⟩
  refine jy_aloadn (j := 3) rfl (TC_28.row (show jtb tC_28 1330 = _ from rfl)).1 ?_
  refine jy_iconst (v := 0) rfl (TC_28.row (show jtb tC_28 1331 = _ from rfl)).1 ?_
  refine jy_lald (a := 352) (by decide +kernel) (show jin 0 1 from ⟨by decide, by decide⟩) (TC_28.row (show jtb tC_28 1332 = _ from rfl)).1 ?_
  refine jy_ofL e2 ?_
  refine jy_iload (x := a) rfl (TC_28.row (show jtb tC_28 1333 = _ from rfl)).1 ?_
  refine jy_i2l (TC_28.row (show jtb tC_28 1335 = _ from rfl)).1 ?_
  refine jy_lcmp (TC_28.row (show jtb tC_28 1336 = _ from rfl)).1 ?_
  refine jy_ofI (lg_cmp_self _) ?_
  refine jy_if (tg := 1342) (TC_28.row (show jtb tC_28 1337 = _ from rfl)).1 rfl ⟨fun _ => ?_, fun h => absurd rfl h⟩
  exact jy_goto (tg := 2617) (TC_28.row (show jtb tC_28 1342 = _ from rfl)).1 rfl ((k _ hR').mono (LL67 i _ _))
theorem LB_28 {g : jG} (hEx : jEx g) {N : Nat} {xs : Nat → Int32} (hX : jScr g N xs) {T : lwT} {c0 s0 : Nat} (hc0 : c0 + 1 ≤ 601024) (hs0 : s0 + 6 ≤ 7293034) {i : Nat} (hi : i + 6 ≤ N) {σ : jM} (k : ∀ υ, xR υ → jY g (zL T (c0 + 1) (s0 + 6)) mLw 1000 2617 (LL i) [] υ) {th : jM → jM → Prop} (ht : ∀ n, jTh g (n + 20) mX11_surplus [.ref 0, .int (xs (i + 1))] σ (th σ)) (q1 : ∀ τ, th σ τ → (oX12_surplus [.ref 322, .int (xs (i + 1))] τ).1 ∧ ∀ w υ, (oX12_surplus [.ref 322, .int (xs (i + 1))] τ).2 w υ → (∃ x, w = some (.int x)) ∧ υ.1 322 11 = 1 ∧ xR υ) : jY g (zL T c0 s0) mLw 1000 1289 (LL i) [] σ := by
  refine jy_aloadn (j := 1) rfl (TC_28.row (show jtb tC_28 1289 = _ from rfl)).1 ?_
  refine jy_S hX 1 rfl rfl hi (by decide) (TC_28.row (show jtb tC_28 1290 = _ from rfl)).1 (TC_28.row (show jtb tC_28 1291 = _ from rfl)).1 (TC_28.row (show jtb tC_28 1293 = _ from rfl)).1 (TC_28.row (show jtb tC_28 1294 = _ from rfl)).1 (TC_28.row (show jtb tC_28 1295 = _ from rfl)).1 ?_
  refine jy_aloadn (j := 3) rfl (TC_28.row (show jtb tC_28 1296 = _ from rfl)).1 ?_
  refine jy_callSW (n' := 0 + 20 + 1) (mt' := mL_surplus) (hh := hL_surplus) (as := [.ref 0, .int (xs (i + 1)), .ref 352]) (r := []) (by decide) hc0 hs0 TC_28 (show jtb tC_28 1297 = _ from rfl) kL_199 WL_surplus rfl (by decide) rfl (by simp) (PL_surplus hEx (0 + 20) (ht _)) (fun v τ hv => ?_)
  obtain ⟨rfl, hτ⟩ := hv
  obtain ⟨p2, q2⟩ := q1 τ hτ
  refine jy_istore (j := 6) (by decide) (TC_28.row (show jtb tC_28 1300 = _ from rfl)).1 ?_
  refine jy_aloadn (j := 2) rfl (TC_28.row (show jtb tC_28 1302 = _ from rfl)).1 ?_
  refine jy_S hX 1 rfl rfl hi (by decide) (TC_28.row (show jtb tC_28 1303 = _ from rfl)).1 (TC_28.row (show jtb tC_28 1304 = _ from rfl)).1 (TC_28.row (show jtb tC_28 1306 = _ from rfl)).1 (TC_28.row (show jtb tC_28 1307 = _ from rfl)).1 (TC_28.row (show jtb tC_28 1308 = _ from rfl)).1 ?_
  refine jy_callV (n' := 0 + 16) (mt' := mX12_surplus) (as := [.int (xs (i + 1))]) (r := []) (ci := 12) (a := 322) (zL_ok (by decide) hc0 hs0) TC_28 (show jtb tC_28 1309 = _ from rfl) kL_201 WX12_surplus rfl (by decide +kernel) rfl (by decide) rfl (by simp) (CX12_surplus g 0 _ _ p2) (fun w υ hw => ?_)
  obtain ⟨⟨a, rfl⟩, e1, hR'⟩ := q2 w υ hw
  refine jy_istore (j := 7) (by decide) (TC_28.row (show jtb tC_28 1312 = _ from rfl)).1 ?_
  refine jy_aloadn (j := 2) rfl (TC_28.row (show jtb tC_28 1314 = _ from rfl)).1 ?_
  refine jy_callV (n' := 0 + 0) (mt' := mX12_thrown) (as := []) (r := []) (ci := 12) (a := 322) (zL_ok (by decide) hc0 hs0) TC_28 (show jtb tC_28 1315 = _ from rfl) kL_142 WX12_thrown rfl (by decide +kernel) rfl (by decide) rfl (by simp) (CX12_thrown g 0 [.ref 322] υ rfl) (fun w υ' hw => ?_)
  obtain ⟨rfl, rfl⟩ := hw
  rw [e1]
  refine jy_iload (x := 1) rfl (TC_28.row (show jtb tC_28 1318 = _ from rfl)).1 ?_
  refine jy_icmp (tg := 1325) (TC_28.row (show jtb tC_28 1320 = _ from rfl)).1 rfl ⟨fun _ => ?_, fun h => absurd rfl h⟩
  refine jy_iload (x := 1) rfl (TC_28.row (show jtb tC_28 1325 = _ from rfl)).1 ?_
  refine jy_if (tg := 1342) (TC_28.row (show jtb tC_28 1327 = _ from rfl)).1 rfl ⟨fun _ => ?_, fun h => absurd h (by decide)⟩
  exact jy_goto (tg := 2617) (TC_28.row (show jtb tC_28 1342 = _ from rfl)).1 rfl ((k _ hR').mono (LL67 i _ _))
/-! 32: leastValue -/
def tC_32 : jTb := [(1408, .aload_n 1, 1409, 0, 0), (1409, .aload_n 0, 1410, 0, 0), (1410, .iload 5, 1412, 0, 0), (1412, .iconst 1, 1413, 0, 1), (1413, .iadd, 1414, 0, 0), (1414, .iaload, 1415, 0, 0), (1415, .aload_n 0, 1416, 0, 0), (1416, .iload 5, 1418, 0, 0), (1418, .iconst 2, 1419, 0, 2), (1419, .iadd, 1420, 0, 0), (1420, .iaload, 1421, 0, 0), (1421, .aload_n 3, 1422, 0, 0), (1422, .invokestatic 214, 1425, 0, 0), (1425, .istore 6, 1427, 0, 0), (1427, .aload_n 2, 1428, 0, 0), (1428, .aload_n 0, 1429, 0, 0), (1429, .iload 5, 1431, 0, 0), (1431, .iconst 1, 1432, 0, 1), (1432, .iadd, 1433, 0, 0), (1433, .iaload, 1434, 0, 0), (1434, .aload_n 0, 1435, 0, 0), (1435, .iload 5, 1437, 0, 0), (1437, .iconst 2, 1438, 0, 2), (1438, .iadd, 1439, 0, 0), (1439, .iaload, 1440, 0, 0), (1440, .invokevirtual 216, 1443, 0, 0), (1443, .istore 7, 1445, 0, 0), (1445, .aload_n 2, 1446, 0, 0), (1446, .invokevirtual 142, 1449, 0, 0), (1449, .iload 6, 1451, 0, 0), (1451, .if_icmp .eq 5, 1454, 1456, 0), (1454, .iconst 0, 1455, 0, 0), (1455, .ireturn, 1456, 0, 0), (1456, .iload 6, 1458, 0, 0), (1458, .ifCond .ne 15, 1461, 1473, 0), (1461, .aload_n 3, 1462, 0, 0), (1462, .iconst 0, 1463, 0, 0), (1463, .laload, 1464, 0, 0), (1464, .iload 7, 1466, 0, 0), (1466, .i2l, 1467, 0, 0), (1467, .lcmp, 1468, 0, 0), (1468, .ifCond .eq 5, 1471, 1473, 0), (1471, .iconst 0, 1472, 0, 0), (1472, .ireturn, 1473, 0, 0), (1473, .goto 1144, 1476, 2617, 0)]
theorem TC_32 : jT mLw [] [] tC_32 := jT.of (cs := []) (fun _ h => absurd h List.not_mem_nil) (fun _ h => absurd h List.not_mem_nil) (fun _ h => absurd h List.not_mem_nil) (by decide +kernel) (by decide +kernel)
theorem kL_214 : Cond.methodLink RL 214 yL_leastValue ∈ jGw := jGw_of 1378 (by decide +kernel) (by decide +kernel)
theorem LA_32 {g : jG} {N : Nat} {xs : Nat → Int32} (hX : jScr g N xs) {T : lwT} {c0 s0 : Nat} (hc0 : c0 + 1 ≤ 601024) (hs0 : s0 + 6 ≤ 7293034) {i : Nat} (hi : i + 6 ≤ N) {σ : jM} (k : ∀ υ, xR υ → jY g (zL T (c0 + 1) (s0 + 6)) mLw 1000 2617 (LL i) [] υ) (p1 : (oX11_leastValue [.ref 0, .int (xs (i + 1)), .int (xs (i + 2))] σ).1) (q1 : ∀ v τ, (oX11_leastValue [.ref 0, .int (xs (i + 1)), .int (xs (i + 2))] σ).2 v τ → ∀ y : Int64, (oX12_leastValue [.ref 322, .int (xs (i + 1)), .int (xs (i + 2))] (jupL τ 352 0 y)).1 ∧ ∀ w υ, (oX12_leastValue [.ref 322, .int (xs (i + 1)), .int (xs (i + 2))] (jupL τ 352 0 y)).2 w υ → w = v ∧ υ.1 322 11 = 0 ∧ υ.2.1 352 0 = y ∧ xR υ) (hv1 : ∀ σ' v τ, (oX11_leastValue [.ref 0, .int (xs (i + 1)), .int (xs (i + 2))] σ').2 v τ → ∃ a : Int32, v = some (.int a)) : jY g (zL T c0 s0) mLw 1000 1408 (LL i) [] σ := by
  refine jy_aloadn (j := 1) rfl (TC_32.row (show jtb tC_32 1408 = _ from rfl)).1 ?_
  refine jy_S hX 1 rfl rfl hi (by decide) (TC_32.row (show jtb tC_32 1409 = _ from rfl)).1 (TC_32.row (show jtb tC_32 1410 = _ from rfl)).1 (TC_32.row (show jtb tC_32 1412 = _ from rfl)).1 (TC_32.row (show jtb tC_32 1413 = _ from rfl)).1 (TC_32.row (show jtb tC_32 1414 = _ from rfl)).1 ?_
  refine jy_S hX 2 rfl rfl hi (by decide) (TC_32.row (show jtb tC_32 1415 = _ from rfl)).1 (TC_32.row (show jtb tC_32 1416 = _ from rfl)).1 (TC_32.row (show jtb tC_32 1418 = _ from rfl)).1 (TC_32.row (show jtb tC_32 1419 = _ from rfl)).1 (TC_32.row (show jtb tC_32 1420 = _ from rfl)).1 ?_
  refine jy_aloadn (j := 3) rfl (TC_32.row (show jtb tC_32 1421 = _ from rfl)).1 ?_
  refine jy_callSW (n' := 0 + 5 + 1) (mt' := mL_leastValue) (hh := hL_leastValue) (as := [.ref 0, .int (xs (i + 1)), .int (xs (i + 2)), .ref 352]) (r := []) (by decide) hc0 hs0 TC_32 (show jtb tC_32 1422 = _ from rfl) kL_214 WL_leastValue rfl (by decide) rfl (by simp) (NL_leastValue 0 5 (hv1 _) (CX11_leastValue g 0 _ σ p1)) (fun v τ hv => ?_)
  obtain ⟨rfl, a, τ', hq, rfl⟩ := hv
  obtain ⟨p2, q2⟩ := q1 _ τ' hq a.toInt64
  refine jy_istore (j := 6) (by decide) (TC_32.row (show jtb tC_32 1425 = _ from rfl)).1 ?_
  refine jy_aloadn (j := 2) rfl (TC_32.row (show jtb tC_32 1427 = _ from rfl)).1 ?_
  refine jy_S hX 1 rfl rfl hi (by decide) (TC_32.row (show jtb tC_32 1428 = _ from rfl)).1 (TC_32.row (show jtb tC_32 1429 = _ from rfl)).1 (TC_32.row (show jtb tC_32 1431 = _ from rfl)).1 (TC_32.row (show jtb tC_32 1432 = _ from rfl)).1 (TC_32.row (show jtb tC_32 1433 = _ from rfl)).1 ?_
  refine jy_S hX 2 rfl rfl hi (by decide) (TC_32.row (show jtb tC_32 1434 = _ from rfl)).1 (TC_32.row (show jtb tC_32 1435 = _ from rfl)).1 (TC_32.row (show jtb tC_32 1437 = _ from rfl)).1 (TC_32.row (show jtb tC_32 1438 = _ from rfl)).1 (TC_32.row (show jtb tC_32 1439 = _ from rfl)).1 ?_
  refine jy_callV (n' := 0 + 16) (mt' := mX12_leastValue) (as := [.int (xs (i + 1)), .int (xs (i + 2))]) (r := []) (ci := 12) (a := 322) (zL_ok (by decide) hc0 hs0) TC_32 (show jtb tC_32 1440 = _ from rfl) kL_216 WX12_leastValue rfl (by decide +kernel) rfl (by decide) rfl (by simp) (CX12_leastValue g 0 _ _ p2) (fun w υ hw => ?_)
  obtain ⟨rfl, e1, e2, hR'⟩ := q2 w υ hw
  refine jy_istore (j := 7) (by decide) (TC_32.row (show jtb tC_32 1443 = _ from rfl)).1 ?_
  refine jy_aloadn (j := 2) rfl (TC_32.row (show jtb tC_32 1445 = _ from rfl)).1 ?_
  refine jy_callV (n' := 0 + 0) (mt' := mX12_thrown) (as := []) (r := []) (ci := 12) (a := 322) (zL_ok (by decide) hc0 hs0) TC_32 (show jtb tC_32 1446 = _ from rfl) kL_142 WX12_thrown rfl (by decide +kernel) rfl (by decide) rfl (by simp) (CX12_thrown g 0 [.ref 322] υ rfl) (fun w υ' hw => ?_)
  obtain ⟨rfl, rfl⟩ := hw
  rw [e1]
  refine jy_iload (x := 0) rfl (TC_32.row (show jtb tC_32 1449 = _ from rfl)).1 ?_
  refine jy_icmp (tg := 1456) (TC_32.row (show jtb tC_32 1451 = _ from rfl)).1 rfl ⟨fun _ => ?_, fun h => absurd rfl h⟩
  refine jy_iload (x := 0) rfl (TC_32.row (show jtb tC_32 1456 = _ from rfl)).1 ?_
  refine jy_if (tg := 1473) (TC_32.row (show jtb tC_32 1458 = _ from rfl)).1 rfl ⟨fun h => absurd rfl h, fun _ => ?_⟩
  refine jy_aloadn (j := 3) rfl (TC_32.row (show jtb tC_32 1461 = _ from rfl)).1 ?_
  refine jy_iconst (v := 0) rfl (TC_32.row (show jtb tC_32 1462 = _ from rfl)).1 ?_
  refine jy_lald (a := 352) (by decide +kernel) (show jin 0 1 from ⟨by decide, by decide⟩) (TC_32.row (show jtb tC_32 1463 = _ from rfl)).1 ?_
  refine jy_ofL e2 ?_
  refine jy_iload (x := a) rfl (TC_32.row (show jtb tC_32 1464 = _ from rfl)).1 ?_
  refine jy_i2l (TC_32.row (show jtb tC_32 1466 = _ from rfl)).1 ?_
  refine jy_lcmp (TC_32.row (show jtb tC_32 1467 = _ from rfl)).1 ?_
  refine jy_ofI (lg_cmp_self _) ?_
  refine jy_if (tg := 1473) (TC_32.row (show jtb tC_32 1468 = _ from rfl)).1 rfl ⟨fun _ => ?_, fun h => absurd rfl h⟩
  exact jy_goto (tg := 2617) (TC_32.row (show jtb tC_32 1473 = _ from rfl)).1 rfl ((k _ hR').mono (LL67 i _ _))
theorem LB_32 {g : jG} (hEx : jEx g) {N : Nat} {xs : Nat → Int32} (hX : jScr g N xs) {T : lwT} {c0 s0 : Nat} (hc0 : c0 + 1 ≤ 601024) (hs0 : s0 + 6 ≤ 7293034) {i : Nat} (hi : i + 6 ≤ N) {σ : jM} (k : ∀ υ, xR υ → jY g (zL T (c0 + 1) (s0 + 6)) mLw 1000 2617 (LL i) [] υ) {th : jM → jM → Prop} (ht : ∀ n, jTh g (n + 20) mX11_leastValue [.ref 0, .int (xs (i + 1)), .int (xs (i + 2))] σ (th σ)) (q1 : ∀ τ, th σ τ → (oX12_leastValue [.ref 322, .int (xs (i + 1)), .int (xs (i + 2))] τ).1 ∧ ∀ w υ, (oX12_leastValue [.ref 322, .int (xs (i + 1)), .int (xs (i + 2))] τ).2 w υ → (∃ x, w = some (.int x)) ∧ υ.1 322 11 = 1 ∧ xR υ) : jY g (zL T c0 s0) mLw 1000 1408 (LL i) [] σ := by
  refine jy_aloadn (j := 1) rfl (TC_32.row (show jtb tC_32 1408 = _ from rfl)).1 ?_
  refine jy_S hX 1 rfl rfl hi (by decide) (TC_32.row (show jtb tC_32 1409 = _ from rfl)).1 (TC_32.row (show jtb tC_32 1410 = _ from rfl)).1 (TC_32.row (show jtb tC_32 1412 = _ from rfl)).1 (TC_32.row (show jtb tC_32 1413 = _ from rfl)).1 (TC_32.row (show jtb tC_32 1414 = _ from rfl)).1 ?_
  refine jy_S hX 2 rfl rfl hi (by decide) (TC_32.row (show jtb tC_32 1415 = _ from rfl)).1 (TC_32.row (show jtb tC_32 1416 = _ from rfl)).1 (TC_32.row (show jtb tC_32 1418 = _ from rfl)).1 (TC_32.row (show jtb tC_32 1419 = _ from rfl)).1 (TC_32.row (show jtb tC_32 1420 = _ from rfl)).1 ?_
  refine jy_aloadn (j := 3) rfl (TC_32.row (show jtb tC_32 1421 = _ from rfl)).1 ?_
  refine jy_callSW (n' := 0 + 20 + 1) (mt' := mL_leastValue) (hh := hL_leastValue) (as := [.ref 0, .int (xs (i + 1)), .int (xs (i + 2)), .ref 352]) (r := []) (by decide) hc0 hs0 TC_32 (show jtb tC_32 1422 = _ from rfl) kL_214 WL_leastValue rfl (by decide) rfl (by simp) (PL_leastValue hEx (0 + 20) (ht _)) (fun v τ hv => ?_)
  obtain ⟨rfl, hτ⟩ := hv
  obtain ⟨p2, q2⟩ := q1 τ hτ
  refine jy_istore (j := 6) (by decide) (TC_32.row (show jtb tC_32 1425 = _ from rfl)).1 ?_
  refine jy_aloadn (j := 2) rfl (TC_32.row (show jtb tC_32 1427 = _ from rfl)).1 ?_
  refine jy_S hX 1 rfl rfl hi (by decide) (TC_32.row (show jtb tC_32 1428 = _ from rfl)).1 (TC_32.row (show jtb tC_32 1429 = _ from rfl)).1 (TC_32.row (show jtb tC_32 1431 = _ from rfl)).1 (TC_32.row (show jtb tC_32 1432 = _ from rfl)).1 (TC_32.row (show jtb tC_32 1433 = _ from rfl)).1 ?_
  refine jy_S hX 2 rfl rfl hi (by decide) (TC_32.row (show jtb tC_32 1434 = _ from rfl)).1 (TC_32.row (show jtb tC_32 1435 = _ from rfl)).1 (TC_32.row (show jtb tC_32 1437 = _ from rfl)).1 (TC_32.row (show jtb tC_32 1438 = _ from rfl)).1 (TC_32.row (show jtb tC_32 1439 = _ from rfl)).1 ?_
  refine jy_callV (n' := 0 + 16) (mt' := mX12_leastValue) (as := [.int (xs (i + 1)), .int (xs (i + 2))]) (r := []) (ci := 12) (a := 322) (zL_ok (by decide) hc0 hs0) TC_32 (show jtb tC_32 1440 = _ from rfl) kL_216 WX12_leastValue rfl (by decide +kernel) rfl (by decide) rfl (by simp) (CX12_leastValue g 0 _ _ p2) (fun w υ hw => ?_)
  obtain ⟨⟨a, rfl⟩, e1, hR'⟩ := q2 w υ hw
  refine jy_istore (j := 7) (by decide) (TC_32.row (show jtb tC_32 1443 = _ from rfl)).1 ?_
  refine jy_aloadn (j := 2) rfl (TC_32.row (show jtb tC_32 1445 = _ from rfl)).1 ?_
  refine jy_callV (n' := 0 + 0) (mt' := mX12_thrown) (as := []) (r := []) (ci := 12) (a := 322) (zL_ok (by decide) hc0 hs0) TC_32 (show jtb tC_32 1446 = _ from rfl) kL_142 WX12_thrown rfl (by decide +kernel) rfl (by decide) rfl (by simp) (CX12_thrown g 0 [.ref 322] υ rfl) (fun w υ' hw => ?_)
  obtain ⟨rfl, rfl⟩ := hw
  rw [e1]
  refine jy_iload (x := 1) rfl (TC_32.row (show jtb tC_32 1449 = _ from rfl)).1 ?_
  refine jy_icmp (tg := 1456) (TC_32.row (show jtb tC_32 1451 = _ from rfl)).1 rfl ⟨fun _ => ?_, fun h => absurd rfl h⟩
  refine jy_iload (x := 1) rfl (TC_32.row (show jtb tC_32 1456 = _ from rfl)).1 ?_
  refine jy_if (tg := 1473) (TC_32.row (show jtb tC_32 1458 = _ from rfl)).1 rfl ⟨fun _ => ?_, fun h => absurd h (by decide)⟩
  exact jy_goto (tg := 2617) (TC_32.row (show jtb tC_32 1473 = _ from rfl)).1 rfl ((k _ hR').mono (LL67 i _ _))
/-! 33: roomOf -/
def tC_33 : jTb := [(1476, .aload_n 1, 1477, 0, 0), (1477, .aload_n 0, 1478, 0, 0), (1478, .iload 5, 1480, 0, 0), (1480, .iconst 1, 1481, 0, 1), (1481, .iadd, 1482, 0, 0), (1482, .iaload, 1483, 0, 0), (1483, .aload_n 3, 1484, 0, 0), (1484, .invokestatic 217, 1487, 0, 0), (1487, .istore 6, 1489, 0, 0), (1489, .aload_n 2, 1490, 0, 0), (1490, .aload_n 0, 1491, 0, 0), (1491, .iload 5, 1493, 0, 0), (1493, .iconst 1, 1494, 0, 1), (1494, .iadd, 1495, 0, 0), (1495, .iaload, 1496, 0, 0), (1496, .invokevirtual 219, 1499, 0, 0), (1499, .istore 7, 1501, 0, 0), (1501, .aload_n 2, 1502, 0, 0), (1502, .invokevirtual 142, 1505, 0, 0), (1505, .iload 6, 1507, 0, 0), (1507, .if_icmp .eq 5, 1510, 1512, 0), (1510, .iconst 0, 1511, 0, 0), (1511, .ireturn, 1512, 0, 0), (1512, .iload 6, 1514, 0, 0), (1514, .ifCond .ne 15, 1517, 1529, 0), (1517, .aload_n 3, 1518, 0, 0), (1518, .iconst 0, 1519, 0, 0), (1519, .laload, 1520, 0, 0), (1520, .iload 7, 1522, 0, 0), (1522, .i2l, 1523, 0, 0), (1523, .lcmp, 1524, 0, 0), (1524, .ifCond .eq 5, 1527, 1529, 0), (1527, .iconst 0, 1528, 0, 0), (1528, .ireturn, 1529, 0, 0), (1529, .goto 1088, 1532, 2617, 0)]
theorem TC_33 : jT mLw [] [] tC_33 := jT.of (cs := []) (fun _ h => absurd h List.not_mem_nil) (fun _ h => absurd h List.not_mem_nil) (fun _ h => absurd h List.not_mem_nil) (by decide +kernel) (by decide +kernel)
theorem kL_217 : Cond.methodLink RL 217 yL_roomOf ∈ jGw := jGw_of 1397 (by decide +kernel) (by decide +kernel)
theorem LA_33 {g : jG} {N : Nat} {xs : Nat → Int32} (hX : jScr g N xs) {T : lwT} {c0 s0 : Nat} (hc0 : c0 + 1 ≤ 601024) (hs0 : s0 + 6 ≤ 7293034) {i : Nat} (hi : i + 6 ≤ N) {σ : jM} (k : ∀ υ, xR υ → jY g (zL T (c0 + 1) (s0 + 6)) mLw 1000 2617 (LL i) [] υ) (p1 : (oX11_roomOf [.ref 0, .int (xs (i + 1))] σ).1) (q1 : ∀ v τ, (oX11_roomOf [.ref 0, .int (xs (i + 1))] σ).2 v τ → ∀ y : Int64, (oX12_roomOf [.ref 322, .int (xs (i + 1))] (jupL τ 352 0 y)).1 ∧ ∀ w υ, (oX12_roomOf [.ref 322, .int (xs (i + 1))] (jupL τ 352 0 y)).2 w υ → w = v ∧ υ.1 322 11 = 0 ∧ υ.2.1 352 0 = y ∧ xR υ) (hv1 : ∀ σ' v τ, (oX11_roomOf [.ref 0, .int (xs (i + 1))] σ').2 v τ → ∃ a : Int32, v = some (.int a)) : jY g (zL T c0 s0) mLw 1000 1476 (LL i) [] σ := by
  refine jy_aloadn (j := 1) rfl (TC_33.row (show jtb tC_33 1476 = _ from rfl)).1 ?_
  refine jy_S hX 1 rfl rfl hi (by decide) (TC_33.row (show jtb tC_33 1477 = _ from rfl)).1 (TC_33.row (show jtb tC_33 1478 = _ from rfl)).1 (TC_33.row (show jtb tC_33 1480 = _ from rfl)).1 (TC_33.row (show jtb tC_33 1481 = _ from rfl)).1 (TC_33.row (show jtb tC_33 1482 = _ from rfl)).1 ?_
  refine jy_aloadn (j := 3) rfl (TC_33.row (show jtb tC_33 1483 = _ from rfl)).1 ?_
  refine jy_callSW (n' := 0 + 2 + 1) (mt' := mL_roomOf) (hh := hL_roomOf) (as := [.ref 0, .int (xs (i + 1)), .ref 352]) (r := []) (by decide) hc0 hs0 TC_33 (show jtb tC_33 1484 = _ from rfl) kL_217 WL_roomOf rfl (by decide) rfl (by simp) (NL_roomOf 0 2 (hv1 _) (CX11_roomOf g 0 _ σ p1)) (fun v τ hv => ?_)
  obtain ⟨rfl, a, τ', hq, rfl⟩ := hv
  obtain ⟨p2, q2⟩ := q1 _ τ' hq a.toInt64
  refine jy_istore (j := 6) (by decide) (TC_33.row (show jtb tC_33 1487 = _ from rfl)).1 ?_
  refine jy_aloadn (j := 2) rfl (TC_33.row (show jtb tC_33 1489 = _ from rfl)).1 ?_
  refine jy_S hX 1 rfl rfl hi (by decide) (TC_33.row (show jtb tC_33 1490 = _ from rfl)).1 (TC_33.row (show jtb tC_33 1491 = _ from rfl)).1 (TC_33.row (show jtb tC_33 1493 = _ from rfl)).1 (TC_33.row (show jtb tC_33 1494 = _ from rfl)).1 (TC_33.row (show jtb tC_33 1495 = _ from rfl)).1 ?_
  refine jy_callV (n' := 0 + 2) (mt' := mX12_roomOf) (as := [.int (xs (i + 1))]) (r := []) (ci := 12) (a := 322) (zL_ok (by decide) hc0 hs0) TC_33 (show jtb tC_33 1496 = _ from rfl) kL_219 WX12_roomOf rfl (by decide +kernel) rfl (by decide) rfl (by simp) (CX12_roomOf g 0 _ _ p2) (fun w υ hw => ?_)
  obtain ⟨rfl, e1, e2, hR'⟩ := q2 w υ hw
  refine jy_istore (j := 7) (by decide) (TC_33.row (show jtb tC_33 1499 = _ from rfl)).1 ?_
  refine jy_aloadn (j := 2) rfl (TC_33.row (show jtb tC_33 1501 = _ from rfl)).1 ?_
  refine jy_callV (n' := 0 + 0) (mt' := mX12_thrown) (as := []) (r := []) (ci := 12) (a := 322) (zL_ok (by decide) hc0 hs0) TC_33 (show jtb tC_33 1502 = _ from rfl) kL_142 WX12_thrown rfl (by decide +kernel) rfl (by decide) rfl (by simp) (CX12_thrown g 0 [.ref 322] υ rfl) (fun w υ' hw => ?_)
  obtain ⟨rfl, rfl⟩ := hw
  rw [e1]
  refine jy_iload (x := 0) rfl (TC_33.row (show jtb tC_33 1505 = _ from rfl)).1 ?_
  refine jy_icmp (tg := 1512) (TC_33.row (show jtb tC_33 1507 = _ from rfl)).1 rfl ⟨fun _ => ?_, fun h => absurd rfl h⟩
  refine jy_iload (x := 0) rfl (TC_33.row (show jtb tC_33 1512 = _ from rfl)).1 ?_
  refine jy_if (tg := 1529) (TC_33.row (show jtb tC_33 1514 = _ from rfl)).1 rfl ⟨fun h => absurd rfl h, fun _ => ?_⟩
  refine jy_aloadn (j := 3) rfl (TC_33.row (show jtb tC_33 1517 = _ from rfl)).1 ?_
  refine jy_iconst (v := 0) rfl (TC_33.row (show jtb tC_33 1518 = _ from rfl)).1 ?_
  refine jy_lald (a := 352) (by decide +kernel) (show jin 0 1 from ⟨by decide, by decide⟩) (TC_33.row (show jtb tC_33 1519 = _ from rfl)).1 ?_
  refine jy_ofL e2 ?_
  refine jy_iload (x := a) rfl (TC_33.row (show jtb tC_33 1520 = _ from rfl)).1 ?_
  refine jy_i2l (TC_33.row (show jtb tC_33 1522 = _ from rfl)).1 ?_
  refine jy_lcmp (TC_33.row (show jtb tC_33 1523 = _ from rfl)).1 ?_
  refine jy_ofI (lg_cmp_self _) ?_
  refine jy_if (tg := 1529) (TC_33.row (show jtb tC_33 1524 = _ from rfl)).1 rfl ⟨fun _ => ?_, fun h => absurd rfl h⟩
  exact jy_goto (tg := 2617) (TC_33.row (show jtb tC_33 1529 = _ from rfl)).1 rfl ((k _ hR').mono (LL67 i _ _))
theorem LB_33 {g : jG} (hEx : jEx g) {N : Nat} {xs : Nat → Int32} (hX : jScr g N xs) {T : lwT} {c0 s0 : Nat} (hc0 : c0 + 1 ≤ 601024) (hs0 : s0 + 6 ≤ 7293034) {i : Nat} (hi : i + 6 ≤ N) {σ : jM} (k : ∀ υ, xR υ → jY g (zL T (c0 + 1) (s0 + 6)) mLw 1000 2617 (LL i) [] υ) {th : jM → jM → Prop} (ht : ∀ n, jTh g (n + 20) mX11_roomOf [.ref 0, .int (xs (i + 1))] σ (th σ)) (q1 : ∀ τ, th σ τ → (oX12_roomOf [.ref 322, .int (xs (i + 1))] τ).1 ∧ ∀ w υ, (oX12_roomOf [.ref 322, .int (xs (i + 1))] τ).2 w υ → (∃ x, w = some (.int x)) ∧ υ.1 322 11 = 1 ∧ xR υ) : jY g (zL T c0 s0) mLw 1000 1476 (LL i) [] σ := by
  refine jy_aloadn (j := 1) rfl (TC_33.row (show jtb tC_33 1476 = _ from rfl)).1 ?_
  refine jy_S hX 1 rfl rfl hi (by decide) (TC_33.row (show jtb tC_33 1477 = _ from rfl)).1 (TC_33.row (show jtb tC_33 1478 = _ from rfl)).1 (TC_33.row (show jtb tC_33 1480 = _ from rfl)).1 (TC_33.row (show jtb tC_33 1481 = _ from rfl)).1 (TC_33.row (show jtb tC_33 1482 = _ from rfl)).1 ?_
  refine jy_aloadn (j := 3) rfl (TC_33.row (show jtb tC_33 1483 = _ from rfl)).1 ?_
  refine jy_callSW (n' := 0 + 20 + 1) (mt' := mL_roomOf) (hh := hL_roomOf) (as := [.ref 0, .int (xs (i + 1)), .ref 352]) (r := []) (by decide) hc0 hs0 TC_33 (show jtb tC_33 1484 = _ from rfl) kL_217 WL_roomOf rfl (by decide) rfl (by simp) (PL_roomOf hEx (0 + 20) (ht _)) (fun v τ hv => ?_)
  obtain ⟨rfl, hτ⟩ := hv
  obtain ⟨p2, q2⟩ := q1 τ hτ
  refine jy_istore (j := 6) (by decide) (TC_33.row (show jtb tC_33 1487 = _ from rfl)).1 ?_
  refine jy_aloadn (j := 2) rfl (TC_33.row (show jtb tC_33 1489 = _ from rfl)).1 ?_
  refine jy_S hX 1 rfl rfl hi (by decide) (TC_33.row (show jtb tC_33 1490 = _ from rfl)).1 (TC_33.row (show jtb tC_33 1491 = _ from rfl)).1 (TC_33.row (show jtb tC_33 1493 = _ from rfl)).1 (TC_33.row (show jtb tC_33 1494 = _ from rfl)).1 (TC_33.row (show jtb tC_33 1495 = _ from rfl)).1 ?_
  refine jy_callV (n' := 0 + 2) (mt' := mX12_roomOf) (as := [.int (xs (i + 1))]) (r := []) (ci := 12) (a := 322) (zL_ok (by decide) hc0 hs0) TC_33 (show jtb tC_33 1496 = _ from rfl) kL_219 WX12_roomOf rfl (by decide +kernel) rfl (by decide) rfl (by simp) (CX12_roomOf g 0 _ _ p2) (fun w υ hw => ?_)
  obtain ⟨⟨a, rfl⟩, e1, hR'⟩ := q2 w υ hw
  refine jy_istore (j := 7) (by decide) (TC_33.row (show jtb tC_33 1499 = _ from rfl)).1 ?_
  refine jy_aloadn (j := 2) rfl (TC_33.row (show jtb tC_33 1501 = _ from rfl)).1 ?_
  refine jy_callV (n' := 0 + 0) (mt' := mX12_thrown) (as := []) (r := []) (ci := 12) (a := 322) (zL_ok (by decide) hc0 hs0) TC_33 (show jtb tC_33 1502 = _ from rfl) kL_142 WX12_thrown rfl (by decide +kernel) rfl (by decide) rfl (by simp) (CX12_thrown g 0 [.ref 322] υ rfl) (fun w υ' hw => ?_)
  obtain ⟨rfl, rfl⟩ := hw
  rw [e1]
  refine jy_iload (x := 1) rfl (TC_33.row (show jtb tC_33 1505 = _ from rfl)).1 ?_
  refine jy_icmp (tg := 1512) (TC_33.row (show jtb tC_33 1507 = _ from rfl)).1 rfl ⟨fun _ => ?_, fun h => absurd rfl h⟩
  refine jy_iload (x := 1) rfl (TC_33.row (show jtb tC_33 1512 = _ from rfl)).1 ?_
  refine jy_if (tg := 1529) (TC_33.row (show jtb tC_33 1514 = _ from rfl)).1 rfl ⟨fun _ => ?_, fun h => absurd h (by decide)⟩
  exact jy_goto (tg := 2617) (TC_33.row (show jtb tC_33 1529 = _ from rfl)).1 rfl ((k _ hR').mono (LL67 i _ _))
/-! 34: personIn -/
def tC_34 : jTb := [(1532, .aload_n 1, 1533, 0, 0), (1533, .aload_n 0, 1534, 0, 0), (1534, .iload 5, 1536, 0, 0), (1536, .iconst 1, 1537, 0, 1), (1537, .iadd, 1538, 0, 0), (1538, .iaload, 1539, 0, 0), (1539, .aload_n 3, 1540, 0, 0), (1540, .invokestatic 220, 1543, 0, 0), (1543, .istore 6, 1545, 0, 0), (1545, .aload_n 2, 1546, 0, 0), (1546, .aload_n 0, 1547, 0, 0), (1547, .iload 5, 1549, 0, 0), (1549, .iconst 1, 1550, 0, 1), (1550, .iadd, 1551, 0, 0), (1551, .iaload, 1552, 0, 0), (1552, .invokevirtual 222, 1555, 0, 0), (1555, .istore 7, 1557, 0, 0), (1557, .aload_n 2, 1558, 0, 0), (1558, .invokevirtual 142, 1561, 0, 0), (1561, .iload 6, 1563, 0, 0), (1563, .if_icmp .eq 5, 1566, 1568, 0), (1566, .iconst 0, 1567, 0, 0), (1567, .ireturn, 1568, 0, 0), (1568, .iload 6, 1570, 0, 0), (1570, .ifCond .ne 15, 1573, 1585, 0), (1573, .aload_n 3, 1574, 0, 0), (1574, .iconst 0, 1575, 0, 0), (1575, .laload, 1576, 0, 0), (1576, .iload 7, 1578, 0, 0), (1578, .i2l, 1579, 0, 0), (1579, .lcmp, 1580, 0, 0), (1580, .ifCond .eq 5, 1583, 1585, 0), (1583, .iconst 0, 1584, 0, 0), (1584, .ireturn, 1585, 0, 0), (1585, .goto 1032, 1588, 2617, 0)]
theorem TC_34 : jT mLw [] [] tC_34 := jT.of (cs := []) (fun _ h => absurd h List.not_mem_nil) (fun _ h => absurd h List.not_mem_nil) (fun _ h => absurd h List.not_mem_nil) (by decide +kernel) (by decide +kernel)
theorem kL_220 : Cond.methodLink RL 220 yL_personIn ∈ jGw := jGw_of 1404 (by decide +kernel) (by decide +kernel)
theorem LA_34 {g : jG} {N : Nat} {xs : Nat → Int32} (hX : jScr g N xs) {T : lwT} {c0 s0 : Nat} (hc0 : c0 + 1 ≤ 601024) (hs0 : s0 + 6 ≤ 7293034) {i : Nat} (hi : i + 6 ≤ N) {σ : jM} (k : ∀ υ, xR υ → jY g (zL T (c0 + 1) (s0 + 6)) mLw 1000 2617 (LL i) [] υ) (p1 : (oX11_personIn [.ref 0, .int (xs (i + 1))] σ).1) (q1 : ∀ v τ, (oX11_personIn [.ref 0, .int (xs (i + 1))] σ).2 v τ → ∀ y : Int64, (oX12_personIn [.ref 322, .int (xs (i + 1))] (jupL τ 352 0 y)).1 ∧ ∀ w υ, (oX12_personIn [.ref 322, .int (xs (i + 1))] (jupL τ 352 0 y)).2 w υ → w = v ∧ υ.1 322 11 = 0 ∧ υ.2.1 352 0 = y ∧ xR υ) (hv1 : ∀ σ' v τ, (oX11_personIn [.ref 0, .int (xs (i + 1))] σ').2 v τ → ∃ a : Int32, v = some (.int a)) : jY g (zL T c0 s0) mLw 1000 1532 (LL i) [] σ := by
  refine jy_aloadn (j := 1) rfl (TC_34.row (show jtb tC_34 1532 = _ from rfl)).1 ?_
  refine jy_S hX 1 rfl rfl hi (by decide) (TC_34.row (show jtb tC_34 1533 = _ from rfl)).1 (TC_34.row (show jtb tC_34 1534 = _ from rfl)).1 (TC_34.row (show jtb tC_34 1536 = _ from rfl)).1 (TC_34.row (show jtb tC_34 1537 = _ from rfl)).1 (TC_34.row (show jtb tC_34 1538 = _ from rfl)).1 ?_
  refine jy_aloadn (j := 3) rfl (TC_34.row (show jtb tC_34 1539 = _ from rfl)).1 ?_
  refine jy_callSW (n' := 0 + 2 + 1) (mt' := mL_personIn) (hh := hL_personIn) (as := [.ref 0, .int (xs (i + 1)), .ref 352]) (r := []) (by decide) hc0 hs0 TC_34 (show jtb tC_34 1540 = _ from rfl) kL_220 WL_personIn rfl (by decide) rfl (by simp) (NL_personIn 0 2 (hv1 _) (CX11_personIn g 0 _ σ p1)) (fun v τ hv => ?_)
  obtain ⟨rfl, a, τ', hq, rfl⟩ := hv
  obtain ⟨p2, q2⟩ := q1 _ τ' hq a.toInt64
  refine jy_istore (j := 6) (by decide) (TC_34.row (show jtb tC_34 1543 = _ from rfl)).1 ?_
  refine jy_aloadn (j := 2) rfl (TC_34.row (show jtb tC_34 1545 = _ from rfl)).1 ?_
  refine jy_S hX 1 rfl rfl hi (by decide) (TC_34.row (show jtb tC_34 1546 = _ from rfl)).1 (TC_34.row (show jtb tC_34 1547 = _ from rfl)).1 (TC_34.row (show jtb tC_34 1549 = _ from rfl)).1 (TC_34.row (show jtb tC_34 1550 = _ from rfl)).1 (TC_34.row (show jtb tC_34 1551 = _ from rfl)).1 ?_
  refine jy_callV (n' := 0 + 2) (mt' := mX12_personIn) (as := [.int (xs (i + 1))]) (r := []) (ci := 12) (a := 322) (zL_ok (by decide) hc0 hs0) TC_34 (show jtb tC_34 1552 = _ from rfl) kL_222 WX12_personIn rfl (by decide +kernel) rfl (by decide) rfl (by simp) (CX12_personIn g 0 _ _ p2) (fun w υ hw => ?_)
  obtain ⟨rfl, e1, e2, hR'⟩ := q2 w υ hw
  refine jy_istore (j := 7) (by decide) (TC_34.row (show jtb tC_34 1555 = _ from rfl)).1 ?_
  refine jy_aloadn (j := 2) rfl (TC_34.row (show jtb tC_34 1557 = _ from rfl)).1 ?_
  refine jy_callV (n' := 0 + 0) (mt' := mX12_thrown) (as := []) (r := []) (ci := 12) (a := 322) (zL_ok (by decide) hc0 hs0) TC_34 (show jtb tC_34 1558 = _ from rfl) kL_142 WX12_thrown rfl (by decide +kernel) rfl (by decide) rfl (by simp) (CX12_thrown g 0 [.ref 322] υ rfl) (fun w υ' hw => ?_)
  obtain ⟨rfl, rfl⟩ := hw
  rw [e1]
  refine jy_iload (x := 0) rfl (TC_34.row (show jtb tC_34 1561 = _ from rfl)).1 ?_
  refine jy_icmp (tg := 1568) (TC_34.row (show jtb tC_34 1563 = _ from rfl)).1 rfl ⟨fun _ => ?_, fun h => absurd rfl h⟩
  refine jy_iload (x := 0) rfl (TC_34.row (show jtb tC_34 1568 = _ from rfl)).1 ?_
  refine jy_if (tg := 1585) (TC_34.row (show jtb tC_34 1570 = _ from rfl)).1 rfl ⟨fun h => absurd rfl h, fun _ => ?_⟩
  refine jy_aloadn (j := 3) rfl (TC_34.row (show jtb tC_34 1573 = _ from rfl)).1 ?_
  refine jy_iconst (v := 0) rfl (TC_34.row (show jtb tC_34 1574 = _ from rfl)).1 ?_
  refine jy_lald (a := 352) (by decide +kernel) (show jin 0 1 from ⟨by decide, by decide⟩) (TC_34.row (show jtb tC_34 1575 = _ from rfl)).1 ?_
  refine jy_ofL e2 ?_
  refine jy_iload (x := a) rfl (TC_34.row (show jtb tC_34 1576 = _ from rfl)).1 ?_
  refine jy_i2l (TC_34.row (show jtb tC_34 1578 = _ from rfl)).1 ?_
  refine jy_lcmp (TC_34.row (show jtb tC_34 1579 = _ from rfl)).1 ?_
  refine jy_ofI (lg_cmp_self _) ?_
  refine jy_if (tg := 1585) (TC_34.row (show jtb tC_34 1580 = _ from rfl)).1 rfl ⟨fun _ => ?_, fun h => absurd rfl h⟩
  exact jy_goto (tg := 2617) (TC_34.row (show jtb tC_34 1585 = _ from rfl)).1 rfl ((k _ hR').mono (LL67 i _ _))
theorem LB_34 {g : jG} (hEx : jEx g) {N : Nat} {xs : Nat → Int32} (hX : jScr g N xs) {T : lwT} {c0 s0 : Nat} (hc0 : c0 + 1 ≤ 601024) (hs0 : s0 + 6 ≤ 7293034) {i : Nat} (hi : i + 6 ≤ N) {σ : jM} (k : ∀ υ, xR υ → jY g (zL T (c0 + 1) (s0 + 6)) mLw 1000 2617 (LL i) [] υ) {th : jM → jM → Prop} (ht : ∀ n, jTh g (n + 20) mX11_personIn [.ref 0, .int (xs (i + 1))] σ (th σ)) (q1 : ∀ τ, th σ τ → (oX12_personIn [.ref 322, .int (xs (i + 1))] τ).1 ∧ ∀ w υ, (oX12_personIn [.ref 322, .int (xs (i + 1))] τ).2 w υ → (∃ x, w = some (.int x)) ∧ υ.1 322 11 = 1 ∧ xR υ) : jY g (zL T c0 s0) mLw 1000 1532 (LL i) [] σ := by
  refine jy_aloadn (j := 1) rfl (TC_34.row (show jtb tC_34 1532 = _ from rfl)).1 ?_
  refine jy_S hX 1 rfl rfl hi (by decide) (TC_34.row (show jtb tC_34 1533 = _ from rfl)).1 (TC_34.row (show jtb tC_34 1534 = _ from rfl)).1 (TC_34.row (show jtb tC_34 1536 = _ from rfl)).1 (TC_34.row (show jtb tC_34 1537 = _ from rfl)).1 (TC_34.row (show jtb tC_34 1538 = _ from rfl)).1 ?_
  refine jy_aloadn (j := 3) rfl (TC_34.row (show jtb tC_34 1539 = _ from rfl)).1 ?_
  refine jy_callSW (n' := 0 + 20 + 1) (mt' := mL_personIn) (hh := hL_personIn) (as := [.ref 0, .int (xs (i + 1)), .ref 352]) (r := []) (by decide) hc0 hs0 TC_34 (show jtb tC_34 1540 = _ from rfl) kL_220 WL_personIn rfl (by decide) rfl (by simp) (PL_personIn hEx (0 + 20) (ht _)) (fun v τ hv => ?_)
  obtain ⟨rfl, hτ⟩ := hv
  obtain ⟨p2, q2⟩ := q1 τ hτ
  refine jy_istore (j := 6) (by decide) (TC_34.row (show jtb tC_34 1543 = _ from rfl)).1 ?_
  refine jy_aloadn (j := 2) rfl (TC_34.row (show jtb tC_34 1545 = _ from rfl)).1 ?_
  refine jy_S hX 1 rfl rfl hi (by decide) (TC_34.row (show jtb tC_34 1546 = _ from rfl)).1 (TC_34.row (show jtb tC_34 1547 = _ from rfl)).1 (TC_34.row (show jtb tC_34 1549 = _ from rfl)).1 (TC_34.row (show jtb tC_34 1550 = _ from rfl)).1 (TC_34.row (show jtb tC_34 1551 = _ from rfl)).1 ?_
  refine jy_callV (n' := 0 + 2) (mt' := mX12_personIn) (as := [.int (xs (i + 1))]) (r := []) (ci := 12) (a := 322) (zL_ok (by decide) hc0 hs0) TC_34 (show jtb tC_34 1552 = _ from rfl) kL_222 WX12_personIn rfl (by decide +kernel) rfl (by decide) rfl (by simp) (CX12_personIn g 0 _ _ p2) (fun w υ hw => ?_)
  obtain ⟨⟨a, rfl⟩, e1, hR'⟩ := q2 w υ hw
  refine jy_istore (j := 7) (by decide) (TC_34.row (show jtb tC_34 1555 = _ from rfl)).1 ?_
  refine jy_aloadn (j := 2) rfl (TC_34.row (show jtb tC_34 1557 = _ from rfl)).1 ?_
  refine jy_callV (n' := 0 + 0) (mt' := mX12_thrown) (as := []) (r := []) (ci := 12) (a := 322) (zL_ok (by decide) hc0 hs0) TC_34 (show jtb tC_34 1558 = _ from rfl) kL_142 WX12_thrown rfl (by decide +kernel) rfl (by decide) rfl (by simp) (CX12_thrown g 0 [.ref 322] υ rfl) (fun w υ' hw => ?_)
  obtain ⟨rfl, rfl⟩ := hw
  rw [e1]
  refine jy_iload (x := 1) rfl (TC_34.row (show jtb tC_34 1561 = _ from rfl)).1 ?_
  refine jy_icmp (tg := 1568) (TC_34.row (show jtb tC_34 1563 = _ from rfl)).1 rfl ⟨fun _ => ?_, fun h => absurd rfl h⟩
  refine jy_iload (x := 1) rfl (TC_34.row (show jtb tC_34 1568 = _ from rfl)).1 ?_
  refine jy_if (tg := 1585) (TC_34.row (show jtb tC_34 1570 = _ from rfl)).1 rfl ⟨fun _ => ?_, fun h => absurd h (by decide)⟩
  exact jy_goto (tg := 2617) (TC_34.row (show jtb tC_34 1585 = _ from rfl)).1 rfl ((k _ hR').mono (LL67 i _ _))
/-! 35: payment -/
def tC_35 : jTb := [(1588, .aload_n 1, 1589, 0, 0), (1589, .aload_n 0, 1590, 0, 0), (1590, .iload 5, 1592, 0, 0), (1592, .iconst 1, 1593, 0, 1), (1593, .iadd, 1594, 0, 0), (1594, .iaload, 1595, 0, 0), (1595, .aload_n 3, 1596, 0, 0), (1596, .invokestatic 223, 1599, 0, 0), (1599, .istore 6, 1601, 0, 0), (1601, .aload_n 2, 1602, 0, 0), (1602, .aload_n 0, 1603, 0, 0), (1603, .iload 5, 1605, 0, 0), (1605, .iconst 1, 1606, 0, 1), (1606, .iadd, 1607, 0, 0), (1607, .iaload, 1608, 0, 0), (1608, .invokevirtual 225, 1611, 0, 0), (1611, .istore 7, 1613, 0, 0), (1613, .aload_n 2, 1614, 0, 0), (1614, .invokevirtual 142, 1617, 0, 0), (1617, .iload 6, 1619, 0, 0), (1619, .if_icmp .eq 5, 1622, 1624, 0), (1622, .iconst 0, 1623, 0, 0), (1623, .ireturn, 1624, 0, 0), (1624, .iload 6, 1626, 0, 0), (1626, .ifCond .ne 15, 1629, 1641, 0), (1629, .aload_n 3, 1630, 0, 0), (1630, .iconst 0, 1631, 0, 0), (1631, .laload, 1632, 0, 0), (1632, .iload 7, 1634, 0, 0), (1634, .i2l, 1635, 0, 0), (1635, .lcmp, 1636, 0, 0), (1636, .ifCond .eq 5, 1639, 1641, 0), (1639, .iconst 0, 1640, 0, 0), (1640, .ireturn, 1641, 0, 0), (1641, .goto 976, 1644, 2617, 0)]
theorem TC_35 : jT mLw [] [] tC_35 := jT.of (cs := []) (fun _ h => absurd h List.not_mem_nil) (fun _ h => absurd h List.not_mem_nil) (fun _ h => absurd h List.not_mem_nil) (by decide +kernel) (by decide +kernel)
theorem kL_223 : Cond.methodLink RL 223 yL_payment ∈ jGw := jGw_of 1411 (by decide +kernel) (by decide +kernel)
theorem LA_35 {g : jG} {N : Nat} {xs : Nat → Int32} (hX : jScr g N xs) {T : lwT} {c0 s0 : Nat} (hc0 : c0 + 1 ≤ 601024) (hs0 : s0 + 6 ≤ 7293034) {i : Nat} (hi : i + 6 ≤ N) {σ : jM} (k : ∀ υ, xR υ → jY g (zL T (c0 + 1) (s0 + 6)) mLw 1000 2617 (LL i) [] υ) (p1 : (oX11_payment [.ref 0, .int (xs (i + 1))] σ).1) (q1 : ∀ v τ, (oX11_payment [.ref 0, .int (xs (i + 1))] σ).2 v τ → ∀ y : Int64, (oX12_payment [.ref 322, .int (xs (i + 1))] (jupL τ 352 0 y)).1 ∧ ∀ w υ, (oX12_payment [.ref 322, .int (xs (i + 1))] (jupL τ 352 0 y)).2 w υ → w = v ∧ υ.1 322 11 = 0 ∧ υ.2.1 352 0 = y ∧ xR υ) (hv1 : ∀ σ' v τ, (oX11_payment [.ref 0, .int (xs (i + 1))] σ').2 v τ → ∃ a : Int32, v = some (.int a)) : jY g (zL T c0 s0) mLw 1000 1588 (LL i) [] σ := by
  refine jy_aloadn (j := 1) rfl (TC_35.row (show jtb tC_35 1588 = _ from rfl)).1 ?_
  refine jy_S hX 1 rfl rfl hi (by decide) (TC_35.row (show jtb tC_35 1589 = _ from rfl)).1 (TC_35.row (show jtb tC_35 1590 = _ from rfl)).1 (TC_35.row (show jtb tC_35 1592 = _ from rfl)).1 (TC_35.row (show jtb tC_35 1593 = _ from rfl)).1 (TC_35.row (show jtb tC_35 1594 = _ from rfl)).1 ?_
  refine jy_aloadn (j := 3) rfl (TC_35.row (show jtb tC_35 1595 = _ from rfl)).1 ?_
  refine jy_callSW (n' := 0 + 2 + 1) (mt' := mL_payment) (hh := hL_payment) (as := [.ref 0, .int (xs (i + 1)), .ref 352]) (r := []) (by decide) hc0 hs0 TC_35 (show jtb tC_35 1596 = _ from rfl) kL_223 WL_payment rfl (by decide) rfl (by simp) (NL_payment 0 2 (hv1 _) (CX11_payment g 0 _ σ p1)) (fun v τ hv => ?_)
  obtain ⟨rfl, a, τ', hq, rfl⟩ := hv
  obtain ⟨p2, q2⟩ := q1 _ τ' hq a.toInt64
  refine jy_istore (j := 6) (by decide) (TC_35.row (show jtb tC_35 1599 = _ from rfl)).1 ?_
  refine jy_aloadn (j := 2) rfl (TC_35.row (show jtb tC_35 1601 = _ from rfl)).1 ?_
  refine jy_S hX 1 rfl rfl hi (by decide) (TC_35.row (show jtb tC_35 1602 = _ from rfl)).1 (TC_35.row (show jtb tC_35 1603 = _ from rfl)).1 (TC_35.row (show jtb tC_35 1605 = _ from rfl)).1 (TC_35.row (show jtb tC_35 1606 = _ from rfl)).1 (TC_35.row (show jtb tC_35 1607 = _ from rfl)).1 ?_
  refine jy_callV (n' := 0 + 2) (mt' := mX12_payment) (as := [.int (xs (i + 1))]) (r := []) (ci := 12) (a := 322) (zL_ok (by decide) hc0 hs0) TC_35 (show jtb tC_35 1608 = _ from rfl) kL_225 WX12_payment rfl (by decide +kernel) rfl (by decide) rfl (by simp) (CX12_payment g 0 _ _ p2) (fun w υ hw => ?_)
  obtain ⟨rfl, e1, e2, hR'⟩ := q2 w υ hw
  refine jy_istore (j := 7) (by decide) (TC_35.row (show jtb tC_35 1611 = _ from rfl)).1 ?_
  refine jy_aloadn (j := 2) rfl (TC_35.row (show jtb tC_35 1613 = _ from rfl)).1 ?_
  refine jy_callV (n' := 0 + 0) (mt' := mX12_thrown) (as := []) (r := []) (ci := 12) (a := 322) (zL_ok (by decide) hc0 hs0) TC_35 (show jtb tC_35 1614 = _ from rfl) kL_142 WX12_thrown rfl (by decide +kernel) rfl (by decide) rfl (by simp) (CX12_thrown g 0 [.ref 322] υ rfl) (fun w υ' hw => ?_)
  obtain ⟨rfl, rfl⟩ := hw
  rw [e1]
  refine jy_iload (x := 0) rfl (TC_35.row (show jtb tC_35 1617 = _ from rfl)).1 ?_
  refine jy_icmp (tg := 1624) (TC_35.row (show jtb tC_35 1619 = _ from rfl)).1 rfl ⟨fun _ => ?_, fun h => absurd rfl h⟩
  refine jy_iload (x := 0) rfl (TC_35.row (show jtb tC_35 1624 = _ from rfl)).1 ?_
  refine jy_if (tg := 1641) (TC_35.row (show jtb tC_35 1626 = _ from rfl)).1 rfl ⟨fun h => absurd rfl h, fun _ => ?_⟩
  refine jy_aloadn (j := 3) rfl (TC_35.row (show jtb tC_35 1629 = _ from rfl)).1 ?_
  refine jy_iconst (v := 0) rfl (TC_35.row (show jtb tC_35 1630 = _ from rfl)).1 ?_
  refine jy_lald (a := 352) (by decide +kernel) (show jin 0 1 from ⟨by decide, by decide⟩) (TC_35.row (show jtb tC_35 1631 = _ from rfl)).1 ?_
  refine jy_ofL e2 ?_
  refine jy_iload (x := a) rfl (TC_35.row (show jtb tC_35 1632 = _ from rfl)).1 ?_
  refine jy_i2l (TC_35.row (show jtb tC_35 1634 = _ from rfl)).1 ?_
  refine jy_lcmp (TC_35.row (show jtb tC_35 1635 = _ from rfl)).1 ?_
  refine jy_ofI (lg_cmp_self _) ?_
  refine jy_if (tg := 1641) (TC_35.row (show jtb tC_35 1636 = _ from rfl)).1 rfl ⟨fun _ => ?_, fun h => absurd rfl h⟩
  exact jy_goto (tg := 2617) (TC_35.row (show jtb tC_35 1641 = _ from rfl)).1 rfl ((k _ hR').mono (LL67 i _ _))
theorem LB_35 {g : jG} (hEx : jEx g) {N : Nat} {xs : Nat → Int32} (hX : jScr g N xs) {T : lwT} {c0 s0 : Nat} (hc0 : c0 + 1 ≤ 601024) (hs0 : s0 + 6 ≤ 7293034) {i : Nat} (hi : i + 6 ≤ N) {σ : jM} (k : ∀ υ, xR υ → jY g (zL T (c0 + 1) (s0 + 6)) mLw 1000 2617 (LL i) [] υ) {th : jM → jM → Prop} (ht : ∀ n, jTh g (n + 20) mX11_payment [.ref 0, .int (xs (i + 1))] σ (th σ)) (q1 : ∀ τ, th σ τ → (oX12_payment [.ref 322, .int (xs (i + 1))] τ).1 ∧ ∀ w υ, (oX12_payment [.ref 322, .int (xs (i + 1))] τ).2 w υ → (∃ x, w = some (.int x)) ∧ υ.1 322 11 = 1 ∧ xR υ) : jY g (zL T c0 s0) mLw 1000 1588 (LL i) [] σ := by
  refine jy_aloadn (j := 1) rfl (TC_35.row (show jtb tC_35 1588 = _ from rfl)).1 ?_
  refine jy_S hX 1 rfl rfl hi (by decide) (TC_35.row (show jtb tC_35 1589 = _ from rfl)).1 (TC_35.row (show jtb tC_35 1590 = _ from rfl)).1 (TC_35.row (show jtb tC_35 1592 = _ from rfl)).1 (TC_35.row (show jtb tC_35 1593 = _ from rfl)).1 (TC_35.row (show jtb tC_35 1594 = _ from rfl)).1 ?_
  refine jy_aloadn (j := 3) rfl (TC_35.row (show jtb tC_35 1595 = _ from rfl)).1 ?_
  refine jy_callSW (n' := 0 + 20 + 1) (mt' := mL_payment) (hh := hL_payment) (as := [.ref 0, .int (xs (i + 1)), .ref 352]) (r := []) (by decide) hc0 hs0 TC_35 (show jtb tC_35 1596 = _ from rfl) kL_223 WL_payment rfl (by decide) rfl (by simp) (PL_payment hEx (0 + 20) (ht _)) (fun v τ hv => ?_)
  obtain ⟨rfl, hτ⟩ := hv
  obtain ⟨p2, q2⟩ := q1 τ hτ
  refine jy_istore (j := 6) (by decide) (TC_35.row (show jtb tC_35 1599 = _ from rfl)).1 ?_
  refine jy_aloadn (j := 2) rfl (TC_35.row (show jtb tC_35 1601 = _ from rfl)).1 ?_
  refine jy_S hX 1 rfl rfl hi (by decide) (TC_35.row (show jtb tC_35 1602 = _ from rfl)).1 (TC_35.row (show jtb tC_35 1603 = _ from rfl)).1 (TC_35.row (show jtb tC_35 1605 = _ from rfl)).1 (TC_35.row (show jtb tC_35 1606 = _ from rfl)).1 (TC_35.row (show jtb tC_35 1607 = _ from rfl)).1 ?_
  refine jy_callV (n' := 0 + 2) (mt' := mX12_payment) (as := [.int (xs (i + 1))]) (r := []) (ci := 12) (a := 322) (zL_ok (by decide) hc0 hs0) TC_35 (show jtb tC_35 1608 = _ from rfl) kL_225 WX12_payment rfl (by decide +kernel) rfl (by decide) rfl (by simp) (CX12_payment g 0 _ _ p2) (fun w υ hw => ?_)
  obtain ⟨⟨a, rfl⟩, e1, hR'⟩ := q2 w υ hw
  refine jy_istore (j := 7) (by decide) (TC_35.row (show jtb tC_35 1611 = _ from rfl)).1 ?_
  refine jy_aloadn (j := 2) rfl (TC_35.row (show jtb tC_35 1613 = _ from rfl)).1 ?_
  refine jy_callV (n' := 0 + 0) (mt' := mX12_thrown) (as := []) (r := []) (ci := 12) (a := 322) (zL_ok (by decide) hc0 hs0) TC_35 (show jtb tC_35 1614 = _ from rfl) kL_142 WX12_thrown rfl (by decide +kernel) rfl (by decide) rfl (by simp) (CX12_thrown g 0 [.ref 322] υ rfl) (fun w υ' hw => ?_)
  obtain ⟨rfl, rfl⟩ := hw
  rw [e1]
  refine jy_iload (x := 1) rfl (TC_35.row (show jtb tC_35 1617 = _ from rfl)).1 ?_
  refine jy_icmp (tg := 1624) (TC_35.row (show jtb tC_35 1619 = _ from rfl)).1 rfl ⟨fun _ => ?_, fun h => absurd rfl h⟩
  refine jy_iload (x := 1) rfl (TC_35.row (show jtb tC_35 1624 = _ from rfl)).1 ?_
  refine jy_if (tg := 1641) (TC_35.row (show jtb tC_35 1626 = _ from rfl)).1 rfl ⟨fun _ => ?_, fun h => absurd h (by decide)⟩
  exact jy_goto (tg := 2617) (TC_35.row (show jtb tC_35 1641 = _ from rfl)).1 rfl ((k _ hR').mono (LL67 i _ _))
/-! 37: envyOf -/
def tC_37 : jTb := [(1657, .aload_n 1, 1658, 0, 0), (1658, .aload_n 0, 1659, 0, 0), (1659, .iload 5, 1661, 0, 0), (1661, .iconst 1, 1662, 0, 1), (1662, .iadd, 1663, 0, 0), (1663, .iaload, 1664, 0, 0), (1664, .aload_n 0, 1665, 0, 0), (1665, .iload 5, 1667, 0, 0), (1667, .iconst 2, 1668, 0, 2), (1668, .iadd, 1669, 0, 0), (1669, .iaload, 1670, 0, 0), (1670, .aload_n 3, 1671, 0, 0), (1671, .invokestatic 230, 1674, 0, 0), (1674, .istore 6, 1676, 0, 0), (1676, .aload_n 2, 1677, 0, 0), (1677, .aload_n 0, 1678, 0, 0), (1678, .iload 5, 1680, 0, 0), (1680, .iconst 1, 1681, 0, 1), (1681, .iadd, 1682, 0, 0), (1682, .iaload, 1683, 0, 0), (1683, .aload_n 0, 1684, 0, 0), (1684, .iload 5, 1686, 0, 0), (1686, .iconst 2, 1687, 0, 2), (1687, .iadd, 1688, 0, 0), (1688, .iaload, 1689, 0, 0), (1689, .invokevirtual 232, 1692, 0, 0), (1692, .istore 7, 1694, 0, 0), (1694, .aload_n 2, 1695, 0, 0), (1695, .invokevirtual 142, 1698, 0, 0), (1698, .iload 6, 1700, 0, 0), (1700, .if_icmp .eq 5, 1703, 1705, 0), (1703, .iconst 0, 1704, 0, 0), (1704, .ireturn, 1705, 0, 0), (1705, .iload 6, 1707, 0, 0), (1707, .ifCond .ne 15, 1710, 1722, 0), (1710, .aload_n 3, 1711, 0, 0), (1711, .iconst 0, 1712, 0, 0), (1712, .laload, 1713, 0, 0), (1713, .iload 7, 1715, 0, 0), (1715, .i2l, 1716, 0, 0), (1716, .lcmp, 1717, 0, 0), (1717, .ifCond .eq 5, 1720, 1722, 0), (1720, .iconst 0, 1721, 0, 0), (1721, .ireturn, 1722, 0, 0), (1722, .goto 895, 1725, 2617, 0)]
theorem TC_37 : jT mLw [] [] tC_37 := jT.of (cs := []) (fun _ h => absurd h List.not_mem_nil) (fun _ h => absurd h List.not_mem_nil) (fun _ h => absurd h List.not_mem_nil) (by decide +kernel) (by decide +kernel)
theorem kL_230 : Cond.methodLink RL 230 yL_envyOf ∈ jGw := jGw_of 1418 (by decide +kernel) (by decide +kernel)
theorem LA_37 {g : jG} {N : Nat} {xs : Nat → Int32} (hX : jScr g N xs) {T : lwT} {c0 s0 : Nat} (hc0 : c0 + 1 ≤ 601024) (hs0 : s0 + 6 ≤ 7293034) {i : Nat} (hi : i + 6 ≤ N) {σ : jM} (k : ∀ υ, xR υ → jY g (zL T (c0 + 1) (s0 + 6)) mLw 1000 2617 (LL i) [] υ) (p1 : (oX11_envyOf [.ref 0, .int (xs (i + 1)), .int (xs (i + 2))] σ).1) (q1 : ∀ v τ, (oX11_envyOf [.ref 0, .int (xs (i + 1)), .int (xs (i + 2))] σ).2 v τ → ∀ y : Int64, (oX12_envyOf [.ref 322, .int (xs (i + 1)), .int (xs (i + 2))] (jupL τ 352 0 y)).1 ∧ ∀ w υ, (oX12_envyOf [.ref 322, .int (xs (i + 1)), .int (xs (i + 2))] (jupL τ 352 0 y)).2 w υ → w = v ∧ υ.1 322 11 = 0 ∧ υ.2.1 352 0 = y ∧ xR υ) (hv1 : ∀ σ' v τ, (oX11_envyOf [.ref 0, .int (xs (i + 1)), .int (xs (i + 2))] σ').2 v τ → ∃ a : Int32, v = some (.int a)) : jY g (zL T c0 s0) mLw 1000 1657 (LL i) [] σ := by
  refine jy_aloadn (j := 1) rfl (TC_37.row (show jtb tC_37 1657 = _ from rfl)).1 ?_
  refine jy_S hX 1 rfl rfl hi (by decide) (TC_37.row (show jtb tC_37 1658 = _ from rfl)).1 (TC_37.row (show jtb tC_37 1659 = _ from rfl)).1 (TC_37.row (show jtb tC_37 1661 = _ from rfl)).1 (TC_37.row (show jtb tC_37 1662 = _ from rfl)).1 (TC_37.row (show jtb tC_37 1663 = _ from rfl)).1 ?_
  refine jy_S hX 2 rfl rfl hi (by decide) (TC_37.row (show jtb tC_37 1664 = _ from rfl)).1 (TC_37.row (show jtb tC_37 1665 = _ from rfl)).1 (TC_37.row (show jtb tC_37 1667 = _ from rfl)).1 (TC_37.row (show jtb tC_37 1668 = _ from rfl)).1 (TC_37.row (show jtb tC_37 1669 = _ from rfl)).1 ?_
  refine jy_aloadn (j := 3) rfl (TC_37.row (show jtb tC_37 1670 = _ from rfl)).1 ?_
  refine jy_callSW (n' := 0 + 4 + 1) (mt' := mL_envyOf) (hh := hL_envyOf) (as := [.ref 0, .int (xs (i + 1)), .int (xs (i + 2)), .ref 352]) (r := []) (by decide) hc0 hs0 TC_37 (show jtb tC_37 1671 = _ from rfl) kL_230 WL_envyOf rfl (by decide) rfl (by simp) (NL_envyOf 0 4 (hv1 _) (CX11_envyOf g 0 _ σ p1)) (fun v τ hv => ?_)
  obtain ⟨rfl, a, τ', hq, rfl⟩ := hv
  obtain ⟨p2, q2⟩ := q1 _ τ' hq a.toInt64
  refine jy_istore (j := 6) (by decide) (TC_37.row (show jtb tC_37 1674 = _ from rfl)).1 ?_
  refine jy_aloadn (j := 2) rfl (TC_37.row (show jtb tC_37 1676 = _ from rfl)).1 ?_
  refine jy_S hX 1 rfl rfl hi (by decide) (TC_37.row (show jtb tC_37 1677 = _ from rfl)).1 (TC_37.row (show jtb tC_37 1678 = _ from rfl)).1 (TC_37.row (show jtb tC_37 1680 = _ from rfl)).1 (TC_37.row (show jtb tC_37 1681 = _ from rfl)).1 (TC_37.row (show jtb tC_37 1682 = _ from rfl)).1 ?_
  refine jy_S hX 2 rfl rfl hi (by decide) (TC_37.row (show jtb tC_37 1683 = _ from rfl)).1 (TC_37.row (show jtb tC_37 1684 = _ from rfl)).1 (TC_37.row (show jtb tC_37 1686 = _ from rfl)).1 (TC_37.row (show jtb tC_37 1687 = _ from rfl)).1 (TC_37.row (show jtb tC_37 1688 = _ from rfl)).1 ?_
  refine jy_callV (n' := 0 + 5) (mt' := mX12_envyOf) (as := [.int (xs (i + 1)), .int (xs (i + 2))]) (r := []) (ci := 12) (a := 322) (zL_ok (by decide) hc0 hs0) TC_37 (show jtb tC_37 1689 = _ from rfl) kL_232 WX12_envyOf rfl (by decide +kernel) rfl (by decide) rfl (by simp) (CX12_envyOf g 0 _ _ p2) (fun w υ hw => ?_)
  obtain ⟨rfl, e1, e2, hR'⟩ := q2 w υ hw
  refine jy_istore (j := 7) (by decide) (TC_37.row (show jtb tC_37 1692 = _ from rfl)).1 ?_
  refine jy_aloadn (j := 2) rfl (TC_37.row (show jtb tC_37 1694 = _ from rfl)).1 ?_
  refine jy_callV (n' := 0 + 0) (mt' := mX12_thrown) (as := []) (r := []) (ci := 12) (a := 322) (zL_ok (by decide) hc0 hs0) TC_37 (show jtb tC_37 1695 = _ from rfl) kL_142 WX12_thrown rfl (by decide +kernel) rfl (by decide) rfl (by simp) (CX12_thrown g 0 [.ref 322] υ rfl) (fun w υ' hw => ?_)
  obtain ⟨rfl, rfl⟩ := hw
  rw [e1]
  refine jy_iload (x := 0) rfl (TC_37.row (show jtb tC_37 1698 = _ from rfl)).1 ?_
  refine jy_icmp (tg := 1705) (TC_37.row (show jtb tC_37 1700 = _ from rfl)).1 rfl ⟨fun _ => ?_, fun h => absurd rfl h⟩
  refine jy_iload (x := 0) rfl (TC_37.row (show jtb tC_37 1705 = _ from rfl)).1 ?_
  refine jy_if (tg := 1722) (TC_37.row (show jtb tC_37 1707 = _ from rfl)).1 rfl ⟨fun h => absurd rfl h, fun _ => ?_⟩
  refine jy_aloadn (j := 3) rfl (TC_37.row (show jtb tC_37 1710 = _ from rfl)).1 ?_
  refine jy_iconst (v := 0) rfl (TC_37.row (show jtb tC_37 1711 = _ from rfl)).1 ?_
  refine jy_lald (a := 352) (by decide +kernel) (show jin 0 1 from ⟨by decide, by decide⟩) (TC_37.row (show jtb tC_37 1712 = _ from rfl)).1 ?_
  refine jy_ofL e2 ?_
  refine jy_iload (x := a) rfl (TC_37.row (show jtb tC_37 1713 = _ from rfl)).1 ?_
  refine jy_i2l (TC_37.row (show jtb tC_37 1715 = _ from rfl)).1 ?_
  refine jy_lcmp (TC_37.row (show jtb tC_37 1716 = _ from rfl)).1 ?_
  refine jy_ofI (lg_cmp_self _) ?_
  refine jy_if (tg := 1722) (TC_37.row (show jtb tC_37 1717 = _ from rfl)).1 rfl ⟨fun _ => ?_, fun h => absurd rfl h⟩
  exact jy_goto (tg := 2617) (TC_37.row (show jtb tC_37 1722 = _ from rfl)).1 rfl ((k _ hR').mono (LL67 i _ _))
theorem LB_37 {g : jG} (hEx : jEx g) {N : Nat} {xs : Nat → Int32} (hX : jScr g N xs) {T : lwT} {c0 s0 : Nat} (hc0 : c0 + 1 ≤ 601024) (hs0 : s0 + 6 ≤ 7293034) {i : Nat} (hi : i + 6 ≤ N) {σ : jM} (k : ∀ υ, xR υ → jY g (zL T (c0 + 1) (s0 + 6)) mLw 1000 2617 (LL i) [] υ) {th : jM → jM → Prop} (ht : ∀ n, jTh g (n + 20) mX11_envyOf [.ref 0, .int (xs (i + 1)), .int (xs (i + 2))] σ (th σ)) (q1 : ∀ τ, th σ τ → (oX12_envyOf [.ref 322, .int (xs (i + 1)), .int (xs (i + 2))] τ).1 ∧ ∀ w υ, (oX12_envyOf [.ref 322, .int (xs (i + 1)), .int (xs (i + 2))] τ).2 w υ → (∃ x, w = some (.int x)) ∧ υ.1 322 11 = 1 ∧ xR υ) : jY g (zL T c0 s0) mLw 1000 1657 (LL i) [] σ := by
  refine jy_aloadn (j := 1) rfl (TC_37.row (show jtb tC_37 1657 = _ from rfl)).1 ?_
  refine jy_S hX 1 rfl rfl hi (by decide) (TC_37.row (show jtb tC_37 1658 = _ from rfl)).1 (TC_37.row (show jtb tC_37 1659 = _ from rfl)).1 (TC_37.row (show jtb tC_37 1661 = _ from rfl)).1 (TC_37.row (show jtb tC_37 1662 = _ from rfl)).1 (TC_37.row (show jtb tC_37 1663 = _ from rfl)).1 ?_
  refine jy_S hX 2 rfl rfl hi (by decide) (TC_37.row (show jtb tC_37 1664 = _ from rfl)).1 (TC_37.row (show jtb tC_37 1665 = _ from rfl)).1 (TC_37.row (show jtb tC_37 1667 = _ from rfl)).1 (TC_37.row (show jtb tC_37 1668 = _ from rfl)).1 (TC_37.row (show jtb tC_37 1669 = _ from rfl)).1 ?_
  refine jy_aloadn (j := 3) rfl (TC_37.row (show jtb tC_37 1670 = _ from rfl)).1 ?_
  refine jy_callSW (n' := 0 + 20 + 1) (mt' := mL_envyOf) (hh := hL_envyOf) (as := [.ref 0, .int (xs (i + 1)), .int (xs (i + 2)), .ref 352]) (r := []) (by decide) hc0 hs0 TC_37 (show jtb tC_37 1671 = _ from rfl) kL_230 WL_envyOf rfl (by decide) rfl (by simp) (PL_envyOf hEx (0 + 20) (ht _)) (fun v τ hv => ?_)
  obtain ⟨rfl, hτ⟩ := hv
  obtain ⟨p2, q2⟩ := q1 τ hτ
  refine jy_istore (j := 6) (by decide) (TC_37.row (show jtb tC_37 1674 = _ from rfl)).1 ?_
  refine jy_aloadn (j := 2) rfl (TC_37.row (show jtb tC_37 1676 = _ from rfl)).1 ?_
  refine jy_S hX 1 rfl rfl hi (by decide) (TC_37.row (show jtb tC_37 1677 = _ from rfl)).1 (TC_37.row (show jtb tC_37 1678 = _ from rfl)).1 (TC_37.row (show jtb tC_37 1680 = _ from rfl)).1 (TC_37.row (show jtb tC_37 1681 = _ from rfl)).1 (TC_37.row (show jtb tC_37 1682 = _ from rfl)).1 ?_
  refine jy_S hX 2 rfl rfl hi (by decide) (TC_37.row (show jtb tC_37 1683 = _ from rfl)).1 (TC_37.row (show jtb tC_37 1684 = _ from rfl)).1 (TC_37.row (show jtb tC_37 1686 = _ from rfl)).1 (TC_37.row (show jtb tC_37 1687 = _ from rfl)).1 (TC_37.row (show jtb tC_37 1688 = _ from rfl)).1 ?_
  refine jy_callV (n' := 0 + 5) (mt' := mX12_envyOf) (as := [.int (xs (i + 1)), .int (xs (i + 2))]) (r := []) (ci := 12) (a := 322) (zL_ok (by decide) hc0 hs0) TC_37 (show jtb tC_37 1689 = _ from rfl) kL_232 WX12_envyOf rfl (by decide +kernel) rfl (by decide) rfl (by simp) (CX12_envyOf g 0 _ _ p2) (fun w υ hw => ?_)
  obtain ⟨⟨a, rfl⟩, e1, hR'⟩ := q2 w υ hw
  refine jy_istore (j := 7) (by decide) (TC_37.row (show jtb tC_37 1692 = _ from rfl)).1 ?_
  refine jy_aloadn (j := 2) rfl (TC_37.row (show jtb tC_37 1694 = _ from rfl)).1 ?_
  refine jy_callV (n' := 0 + 0) (mt' := mX12_thrown) (as := []) (r := []) (ci := 12) (a := 322) (zL_ok (by decide) hc0 hs0) TC_37 (show jtb tC_37 1695 = _ from rfl) kL_142 WX12_thrown rfl (by decide +kernel) rfl (by decide) rfl (by simp) (CX12_thrown g 0 [.ref 322] υ rfl) (fun w υ' hw => ?_)
  obtain ⟨rfl, rfl⟩ := hw
  rw [e1]
  refine jy_iload (x := 1) rfl (TC_37.row (show jtb tC_37 1698 = _ from rfl)).1 ?_
  refine jy_icmp (tg := 1705) (TC_37.row (show jtb tC_37 1700 = _ from rfl)).1 rfl ⟨fun _ => ?_, fun h => absurd rfl h⟩
  refine jy_iload (x := 1) rfl (TC_37.row (show jtb tC_37 1705 = _ from rfl)).1 ?_
  refine jy_if (tg := 1722) (TC_37.row (show jtb tC_37 1707 = _ from rfl)).1 rfl ⟨fun _ => ?_, fun h => absurd h (by decide)⟩
  exact jy_goto (tg := 2617) (TC_37.row (show jtb tC_37 1722 = _ from rfl)).1 rfl ((k _ hR').mono (LL67 i _ _))
/-! 39: enviers -/
def tC_39 : jTb := [(1738, .aload_n 1, 1739, 0, 0), (1739, .aload_n 0, 1740, 0, 0), (1740, .iload 5, 1742, 0, 0), (1742, .iconst 1, 1743, 0, 1), (1743, .iadd, 1744, 0, 0), (1744, .iaload, 1745, 0, 0), (1745, .aload_n 3, 1746, 0, 0), (1746, .invokestatic 237, 1749, 0, 0), (1749, .istore 6, 1751, 0, 0), (1751, .aload_n 2, 1752, 0, 0), (1752, .aload_n 0, 1753, 0, 0), (1753, .iload 5, 1755, 0, 0), (1755, .iconst 1, 1756, 0, 1), (1756, .iadd, 1757, 0, 0), (1757, .iaload, 1758, 0, 0), (1758, .invokevirtual 239, 1761, 0, 0), (1761, .istore 7, 1763, 0, 0), (1763, .aload_n 2, 1764, 0, 0), (1764, .invokevirtual 142, 1767, 0, 0), (1767, .iload 6, 1769, 0, 0), (1769, .if_icmp .eq 5, 1772, 1774, 0), (1772, .iconst 0, 1773, 0, 0), (1773, .ireturn, 1774, 0, 0), (1774, .iload 6, 1776, 0, 0), (1776, .ifCond .ne 15, 1779, 1791, 0), (1779, .aload_n 3, 1780, 0, 0), (1780, .iconst 0, 1781, 0, 0), (1781, .laload, 1782, 0, 0), (1782, .iload 7, 1784, 0, 0), (1784, .i2l, 1785, 0, 0), (1785, .lcmp, 1786, 0, 0), (1786, .ifCond .eq 5, 1789, 1791, 0), (1789, .iconst 0, 1790, 0, 0), (1790, .ireturn, 1791, 0, 0), (1791, .goto 826, 1794, 2617, 0)]
theorem TC_39 : jT mLw [] [] tC_39 := jT.of (cs := []) (fun _ h => absurd h List.not_mem_nil) (fun _ h => absurd h List.not_mem_nil) (fun _ h => absurd h List.not_mem_nil) (by decide +kernel) (by decide +kernel)
theorem kL_237 : Cond.methodLink RL 237 yL_enviers ∈ jGw := jGw_of 1426 (by decide +kernel) (by decide +kernel)
theorem LA_39 {g : jG} {N : Nat} {xs : Nat → Int32} (hX : jScr g N xs) {T : lwT} {c0 s0 : Nat} (hc0 : c0 + 1 ≤ 601024) (hs0 : s0 + 6 ≤ 7293034) {i : Nat} (hi : i + 6 ≤ N) {σ : jM} (k : ∀ υ, xR υ → jY g (zL T (c0 + 1) (s0 + 6)) mLw 1000 2617 (LL i) [] υ) (p1 : (oX11_enviers [.ref 0, .int (xs (i + 1))] σ).1) (q1 : ∀ v τ, (oX11_enviers [.ref 0, .int (xs (i + 1))] σ).2 v τ → ∀ y : Int64, (oX12_enviers [.ref 322, .int (xs (i + 1))] (jupL τ 352 0 y)).1 ∧ ∀ w υ, (oX12_enviers [.ref 322, .int (xs (i + 1))] (jupL τ 352 0 y)).2 w υ → w = v ∧ υ.1 322 11 = 0 ∧ υ.2.1 352 0 = y ∧ xR υ) (hv1 : ∀ σ' v τ, (oX11_enviers [.ref 0, .int (xs (i + 1))] σ').2 v τ → ∃ a : Int32, v = some (.int a)) : jY g (zL T c0 s0) mLw 1000 1738 (LL i) [] σ := by
  refine jy_aloadn (j := 1) rfl (TC_39.row (show jtb tC_39 1738 = _ from rfl)).1 ?_
  refine jy_S hX 1 rfl rfl hi (by decide) (TC_39.row (show jtb tC_39 1739 = _ from rfl)).1 (TC_39.row (show jtb tC_39 1740 = _ from rfl)).1 (TC_39.row (show jtb tC_39 1742 = _ from rfl)).1 (TC_39.row (show jtb tC_39 1743 = _ from rfl)).1 (TC_39.row (show jtb tC_39 1744 = _ from rfl)).1 ?_
  refine jy_aloadn (j := 3) rfl (TC_39.row (show jtb tC_39 1745 = _ from rfl)).1 ?_
  refine jy_callSW (n' := 0 + 5 + 1) (mt' := mL_enviers) (hh := hL_enviers) (as := [.ref 0, .int (xs (i + 1)), .ref 352]) (r := []) (by decide) hc0 hs0 TC_39 (show jtb tC_39 1746 = _ from rfl) kL_237 WL_enviers rfl (by decide) rfl (by simp) (NL_enviers 0 5 (hv1 _) (CX11_enviers g 0 _ σ p1)) (fun v τ hv => ?_)
  obtain ⟨rfl, a, τ', hq, rfl⟩ := hv
  obtain ⟨p2, q2⟩ := q1 _ τ' hq a.toInt64
  refine jy_istore (j := 6) (by decide) (TC_39.row (show jtb tC_39 1749 = _ from rfl)).1 ?_
  refine jy_aloadn (j := 2) rfl (TC_39.row (show jtb tC_39 1751 = _ from rfl)).1 ?_
  refine jy_S hX 1 rfl rfl hi (by decide) (TC_39.row (show jtb tC_39 1752 = _ from rfl)).1 (TC_39.row (show jtb tC_39 1753 = _ from rfl)).1 (TC_39.row (show jtb tC_39 1755 = _ from rfl)).1 (TC_39.row (show jtb tC_39 1756 = _ from rfl)).1 (TC_39.row (show jtb tC_39 1757 = _ from rfl)).1 ?_
  refine jy_callV (n' := 0 + 5) (mt' := mX12_enviers) (as := [.int (xs (i + 1))]) (r := []) (ci := 12) (a := 322) (zL_ok (by decide) hc0 hs0) TC_39 (show jtb tC_39 1758 = _ from rfl) kL_239 WX12_enviers rfl (by decide +kernel) rfl (by decide) rfl (by simp) (CX12_enviers g 0 _ _ p2) (fun w υ hw => ?_)
  obtain ⟨rfl, e1, e2, hR'⟩ := q2 w υ hw
  refine jy_istore (j := 7) (by decide) (TC_39.row (show jtb tC_39 1761 = _ from rfl)).1 ?_
  refine jy_aloadn (j := 2) rfl (TC_39.row (show jtb tC_39 1763 = _ from rfl)).1 ?_
  refine jy_callV (n' := 0 + 0) (mt' := mX12_thrown) (as := []) (r := []) (ci := 12) (a := 322) (zL_ok (by decide) hc0 hs0) TC_39 (show jtb tC_39 1764 = _ from rfl) kL_142 WX12_thrown rfl (by decide +kernel) rfl (by decide) rfl (by simp) (CX12_thrown g 0 [.ref 322] υ rfl) (fun w υ' hw => ?_)
  obtain ⟨rfl, rfl⟩ := hw
  rw [e1]
  refine jy_iload (x := 0) rfl (TC_39.row (show jtb tC_39 1767 = _ from rfl)).1 ?_
  refine jy_icmp (tg := 1774) (TC_39.row (show jtb tC_39 1769 = _ from rfl)).1 rfl ⟨fun _ => ?_, fun h => absurd rfl h⟩
  refine jy_iload (x := 0) rfl (TC_39.row (show jtb tC_39 1774 = _ from rfl)).1 ?_
  refine jy_if (tg := 1791) (TC_39.row (show jtb tC_39 1776 = _ from rfl)).1 rfl ⟨fun h => absurd rfl h, fun _ => ?_⟩
  refine jy_aloadn (j := 3) rfl (TC_39.row (show jtb tC_39 1779 = _ from rfl)).1 ?_
  refine jy_iconst (v := 0) rfl (TC_39.row (show jtb tC_39 1780 = _ from rfl)).1 ?_
  refine jy_lald (a := 352) (by decide +kernel) (show jin 0 1 from ⟨by decide, by decide⟩) (TC_39.row (show jtb tC_39 1781 = _ from rfl)).1 ?_
  refine jy_ofL e2 ?_
  refine jy_iload (x := a) rfl (TC_39.row (show jtb tC_39 1782 = _ from rfl)).1 ?_
  refine jy_i2l (TC_39.row (show jtb tC_39 1784 = _ from rfl)).1 ?_
  refine jy_lcmp (TC_39.row (show jtb tC_39 1785 = _ from rfl)).1 ?_
  refine jy_ofI (lg_cmp_self _) ?_
  refine jy_if (tg := 1791) (TC_39.row (show jtb tC_39 1786 = _ from rfl)).1 rfl ⟨fun _ => ?_, fun h => absurd rfl h⟩
  exact jy_goto (tg := 2617) (TC_39.row (show jtb tC_39 1791 = _ from rfl)).1 rfl ((k _ hR').mono (LL67 i _ _))
theorem LB_39 {g : jG} (hEx : jEx g) {N : Nat} {xs : Nat → Int32} (hX : jScr g N xs) {T : lwT} {c0 s0 : Nat} (hc0 : c0 + 1 ≤ 601024) (hs0 : s0 + 6 ≤ 7293034) {i : Nat} (hi : i + 6 ≤ N) {σ : jM} (k : ∀ υ, xR υ → jY g (zL T (c0 + 1) (s0 + 6)) mLw 1000 2617 (LL i) [] υ) {th : jM → jM → Prop} (ht : ∀ n, jTh g (n + 20) mX11_enviers [.ref 0, .int (xs (i + 1))] σ (th σ)) (q1 : ∀ τ, th σ τ → (oX12_enviers [.ref 322, .int (xs (i + 1))] τ).1 ∧ ∀ w υ, (oX12_enviers [.ref 322, .int (xs (i + 1))] τ).2 w υ → (∃ x, w = some (.int x)) ∧ υ.1 322 11 = 1 ∧ xR υ) : jY g (zL T c0 s0) mLw 1000 1738 (LL i) [] σ := by
  refine jy_aloadn (j := 1) rfl (TC_39.row (show jtb tC_39 1738 = _ from rfl)).1 ?_
  refine jy_S hX 1 rfl rfl hi (by decide) (TC_39.row (show jtb tC_39 1739 = _ from rfl)).1 (TC_39.row (show jtb tC_39 1740 = _ from rfl)).1 (TC_39.row (show jtb tC_39 1742 = _ from rfl)).1 (TC_39.row (show jtb tC_39 1743 = _ from rfl)).1 (TC_39.row (show jtb tC_39 1744 = _ from rfl)).1 ?_
  refine jy_aloadn (j := 3) rfl (TC_39.row (show jtb tC_39 1745 = _ from rfl)).1 ?_
  refine jy_callSW (n' := 0 + 20 + 1) (mt' := mL_enviers) (hh := hL_enviers) (as := [.ref 0, .int (xs (i + 1)), .ref 352]) (r := []) (by decide) hc0 hs0 TC_39 (show jtb tC_39 1746 = _ from rfl) kL_237 WL_enviers rfl (by decide) rfl (by simp) (PL_enviers hEx (0 + 20) (ht _)) (fun v τ hv => ?_)
  obtain ⟨rfl, hτ⟩ := hv
  obtain ⟨p2, q2⟩ := q1 τ hτ
  refine jy_istore (j := 6) (by decide) (TC_39.row (show jtb tC_39 1749 = _ from rfl)).1 ?_
  refine jy_aloadn (j := 2) rfl (TC_39.row (show jtb tC_39 1751 = _ from rfl)).1 ?_
  refine jy_S hX 1 rfl rfl hi (by decide) (TC_39.row (show jtb tC_39 1752 = _ from rfl)).1 (TC_39.row (show jtb tC_39 1753 = _ from rfl)).1 (TC_39.row (show jtb tC_39 1755 = _ from rfl)).1 (TC_39.row (show jtb tC_39 1756 = _ from rfl)).1 (TC_39.row (show jtb tC_39 1757 = _ from rfl)).1 ?_
  refine jy_callV (n' := 0 + 5) (mt' := mX12_enviers) (as := [.int (xs (i + 1))]) (r := []) (ci := 12) (a := 322) (zL_ok (by decide) hc0 hs0) TC_39 (show jtb tC_39 1758 = _ from rfl) kL_239 WX12_enviers rfl (by decide +kernel) rfl (by decide) rfl (by simp) (CX12_enviers g 0 _ _ p2) (fun w υ hw => ?_)
  obtain ⟨⟨a, rfl⟩, e1, hR'⟩ := q2 w υ hw
  refine jy_istore (j := 7) (by decide) (TC_39.row (show jtb tC_39 1761 = _ from rfl)).1 ?_
  refine jy_aloadn (j := 2) rfl (TC_39.row (show jtb tC_39 1763 = _ from rfl)).1 ?_
  refine jy_callV (n' := 0 + 0) (mt' := mX12_thrown) (as := []) (r := []) (ci := 12) (a := 322) (zL_ok (by decide) hc0 hs0) TC_39 (show jtb tC_39 1764 = _ from rfl) kL_142 WX12_thrown rfl (by decide +kernel) rfl (by decide) rfl (by simp) (CX12_thrown g 0 [.ref 322] υ rfl) (fun w υ' hw => ?_)
  obtain ⟨rfl, rfl⟩ := hw
  rw [e1]
  refine jy_iload (x := 1) rfl (TC_39.row (show jtb tC_39 1767 = _ from rfl)).1 ?_
  refine jy_icmp (tg := 1774) (TC_39.row (show jtb tC_39 1769 = _ from rfl)).1 rfl ⟨fun _ => ?_, fun h => absurd rfl h⟩
  refine jy_iload (x := 1) rfl (TC_39.row (show jtb tC_39 1774 = _ from rfl)).1 ?_
  refine jy_if (tg := 1791) (TC_39.row (show jtb tC_39 1776 = _ from rfl)).1 rfl ⟨fun _ => ?_, fun h => absurd h (by decide)⟩
  exact jy_goto (tg := 2617) (TC_39.row (show jtb tC_39 1791 = _ from rfl)).1 rfl ((k _ hR').mono (LL67 i _ _))
/-! 41: wouldSwap -/
def tC_41 : jTb := [(1807, .aload_n 1, 1808, 0, 0), (1808, .aload_n 0, 1809, 0, 0), (1809, .iload 5, 1811, 0, 0), (1811, .iconst 1, 1812, 0, 1), (1812, .iadd, 1813, 0, 0), (1813, .iaload, 1814, 0, 0), (1814, .aload_n 0, 1815, 0, 0), (1815, .iload 5, 1817, 0, 0), (1817, .iconst 2, 1818, 0, 2), (1818, .iadd, 1819, 0, 0), (1819, .iaload, 1820, 0, 0), (1820, .aload_n 3, 1821, 0, 0), (1821, .invokestatic 244, 1824, 0, 0), (1824, .istore 6, 1826, 0, 0), (1826, .aload_n 2, 1827, 0, 0), (1827, .aload_n 0, 1828, 0, 0), (1828, .iload 5, 1830, 0, 0), (1830, .iconst 1, 1831, 0, 1), (1831, .iadd, 1832, 0, 0), (1832, .iaload, 1833, 0, 0), (1833, .aload_n 0, 1834, 0, 0), (1834, .iload 5, 1836, 0, 0), (1836, .iconst 2, 1837, 0, 2), (1837, .iadd, 1838, 0, 0), (1838, .iaload, 1839, 0, 0), (1839, .invokevirtual 246, 1842, 0, 0), (1842, .istore 7, 1844, 0, 0), (1844, .aload_n 2, 1845, 0, 0), (1845, .invokevirtual 142, 1848, 0, 0), (1848, .iload 6, 1850, 0, 0), (1850, .if_icmp .eq 5, 1853, 1855, 0), (1853, .iconst 0, 1854, 0, 0), (1854, .ireturn, 1855, 0, 0), (1855, .iload 6, 1857, 0, 0), (1857, .ifCond .ne 22, 1860, 1879, 0), (1860, .aload_n 3, 1861, 0, 0), (1861, .iconst 0, 1862, 0, 0), (1862, .laload, 1863, 0, 0), (1863, .iload 7, 1865, 0, 0), (1865, .ifCond .eq 7, 1868, 1872, 0), (1868, .lconst 1, 1869, 0, 0), (1869, .goto 4, 1872, 1873, 0), (1872, .lconst 0, 1873, 0, 0), (1873, .lcmp, 1874, 0, 0), (1874, .ifCond .eq 5, 1877, 1879, 0), (1877, .iconst 0, 1878, 0, 0), (1878, .ireturn, 1879, 0, 0), (1879, .goto 738, 1882, 2617, 0)]
theorem TC_41 : jT mLw [] [] tC_41 := jT.of (cs := []) (fun _ h => absurd h List.not_mem_nil) (fun _ h => absurd h List.not_mem_nil) (fun _ h => absurd h List.not_mem_nil) (by decide +kernel) (by decide +kernel)
theorem kL_244 : Cond.methodLink RL 244 yL_wouldSwap ∈ jGw := jGw_of 1433 (by decide +kernel) (by decide +kernel)
theorem LA_41 {g : jG} {N : Nat} {xs : Nat → Int32} (hX : jScr g N xs) {T : lwT} {c0 s0 : Nat} (hc0 : c0 + 1 ≤ 601024) (hs0 : s0 + 6 ≤ 7293034) {i : Nat} (hi : i + 6 ≤ N) {σ : jM} (k : ∀ υ, xR υ → jY g (zL T (c0 + 1) (s0 + 6)) mLw 1000 2617 (LL i) [] υ) (p1 : (oX11_wouldSwap [.ref 0, .int (xs (i + 1)), .int (xs (i + 2))] σ).1) (q1 : ∀ v τ, (oX11_wouldSwap [.ref 0, .int (xs (i + 1)), .int (xs (i + 2))] σ).2 v τ → ∀ y : Int64, (oX12_wouldSwap [.ref 322, .int (xs (i + 1)), .int (xs (i + 2))] (jupL τ 352 0 y)).1 ∧ ∀ w υ, (oX12_wouldSwap [.ref 322, .int (xs (i + 1)), .int (xs (i + 2))] (jupL τ 352 0 y)).2 w υ → w = v ∧ υ.1 322 11 = 0 ∧ υ.2.1 352 0 = y ∧ xR υ) (hv1 : ∀ σ' v τ, (oX11_wouldSwap [.ref 0, .int (xs (i + 1)), .int (xs (i + 2))] σ').2 v τ → ∃ a : Int32, v = some (.int a)) : jY g (zL T c0 s0) mLw 1000 1807 (LL i) [] σ := by
  refine jy_aloadn (j := 1) rfl (TC_41.row (show jtb tC_41 1807 = _ from rfl)).1 ?_
  refine jy_S hX 1 rfl rfl hi (by decide) (TC_41.row (show jtb tC_41 1808 = _ from rfl)).1 (TC_41.row (show jtb tC_41 1809 = _ from rfl)).1 (TC_41.row (show jtb tC_41 1811 = _ from rfl)).1 (TC_41.row (show jtb tC_41 1812 = _ from rfl)).1 (TC_41.row (show jtb tC_41 1813 = _ from rfl)).1 ?_
  refine jy_S hX 2 rfl rfl hi (by decide) (TC_41.row (show jtb tC_41 1814 = _ from rfl)).1 (TC_41.row (show jtb tC_41 1815 = _ from rfl)).1 (TC_41.row (show jtb tC_41 1817 = _ from rfl)).1 (TC_41.row (show jtb tC_41 1818 = _ from rfl)).1 (TC_41.row (show jtb tC_41 1819 = _ from rfl)).1 ?_
  refine jy_aloadn (j := 3) rfl (TC_41.row (show jtb tC_41 1820 = _ from rfl)).1 ?_
  refine jy_callSW (n' := 0 + 4 + 1) (mt' := mL_wouldSwap) (hh := hL_wouldSwap) (as := [.ref 0, .int (xs (i + 1)), .int (xs (i + 2)), .ref 352]) (r := []) (by decide) hc0 hs0 TC_41 (show jtb tC_41 1821 = _ from rfl) kL_244 WL_wouldSwap rfl (by decide) rfl (by simp) (NL_wouldSwap 0 4 (hv1 _) (CX11_wouldSwap g 0 _ σ p1)) (fun v τ hv => ?_)
  obtain ⟨rfl, a, τ', hq, rfl⟩ := hv
  obtain ⟨p2, q2⟩ := q1 _ τ' hq (if a = 0 then 0 else 1)
  refine jy_istore (j := 6) (by decide) (TC_41.row (show jtb tC_41 1824 = _ from rfl)).1 ?_
  refine jy_aloadn (j := 2) rfl (TC_41.row (show jtb tC_41 1826 = _ from rfl)).1 ?_
  refine jy_S hX 1 rfl rfl hi (by decide) (TC_41.row (show jtb tC_41 1827 = _ from rfl)).1 (TC_41.row (show jtb tC_41 1828 = _ from rfl)).1 (TC_41.row (show jtb tC_41 1830 = _ from rfl)).1 (TC_41.row (show jtb tC_41 1831 = _ from rfl)).1 (TC_41.row (show jtb tC_41 1832 = _ from rfl)).1 ?_
  refine jy_S hX 2 rfl rfl hi (by decide) (TC_41.row (show jtb tC_41 1833 = _ from rfl)).1 (TC_41.row (show jtb tC_41 1834 = _ from rfl)).1 (TC_41.row (show jtb tC_41 1836 = _ from rfl)).1 (TC_41.row (show jtb tC_41 1837 = _ from rfl)).1 (TC_41.row (show jtb tC_41 1838 = _ from rfl)).1 ?_
  refine jy_callV (n' := 0 + 5) (mt' := mX12_wouldSwap) (as := [.int (xs (i + 1)), .int (xs (i + 2))]) (r := []) (ci := 12) (a := 322) (zL_ok (by decide) hc0 hs0) TC_41 (show jtb tC_41 1839 = _ from rfl) kL_246 WX12_wouldSwap rfl (by decide +kernel) rfl (by decide) rfl (by simp) (CX12_wouldSwap g 0 _ _ p2) (fun w υ hw => ?_)
  obtain ⟨rfl, e1, e2, hR'⟩ := q2 w υ hw
  refine jy_istore (j := 7) (by decide) (TC_41.row (show jtb tC_41 1842 = _ from rfl)).1 ?_
  refine jy_aloadn (j := 2) rfl (TC_41.row (show jtb tC_41 1844 = _ from rfl)).1 ?_
  refine jy_callV (n' := 0 + 0) (mt' := mX12_thrown) (as := []) (r := []) (ci := 12) (a := 322) (zL_ok (by decide) hc0 hs0) TC_41 (show jtb tC_41 1845 = _ from rfl) kL_142 WX12_thrown rfl (by decide +kernel) rfl (by decide) rfl (by simp) (CX12_thrown g 0 [.ref 322] υ rfl) (fun w υ' hw => ?_)
  obtain ⟨rfl, rfl⟩ := hw
  rw [e1]
  refine jy_iload (x := 0) rfl (TC_41.row (show jtb tC_41 1848 = _ from rfl)).1 ?_
  refine jy_icmp (tg := 1855) (TC_41.row (show jtb tC_41 1850 = _ from rfl)).1 rfl ⟨fun _ => ?_, fun h => absurd rfl h⟩
  refine jy_iload (x := 0) rfl (TC_41.row (show jtb tC_41 1855 = _ from rfl)).1 ?_
  refine jy_if (tg := 1879) (TC_41.row (show jtb tC_41 1857 = _ from rfl)).1 rfl ⟨fun h => absurd rfl h, fun _ => ?_⟩
  refine jy_aloadn (j := 3) rfl (TC_41.row (show jtb tC_41 1860 = _ from rfl)).1 ?_
  refine jy_iconst (v := 0) rfl (TC_41.row (show jtb tC_41 1861 = _ from rfl)).1 ?_
  refine jy_lald (a := 352) (by decide +kernel) (show jin 0 1 from ⟨by decide, by decide⟩) (TC_41.row (show jtb tC_41 1862 = _ from rfl)).1 ?_
  refine jy_ofL e2 ?_
  refine jy_iload (x := a) rfl (TC_41.row (show jtb tC_41 1863 = _ from rfl)).1 ?_
  refine jy_boolL (TC_41.row (show jtb tC_41 1865 = _ from rfl)).1 (TC_41.row (show jtb tC_41 1868 = _ from rfl)).1 (TC_41.row (show jtb tC_41 1869 = _ from rfl)).1 (TC_41.row (show jtb tC_41 1872 = _ from rfl)).1 ?_
  refine jy_lcmp (TC_41.row (show jtb tC_41 1873 = _ from rfl)).1 ?_
  refine jy_ofI (lg_cmp_self _) ?_
  refine jy_if (tg := 1879) (TC_41.row (show jtb tC_41 1874 = _ from rfl)).1 rfl ⟨fun _ => ?_, fun h => absurd rfl h⟩
  exact jy_goto (tg := 2617) (TC_41.row (show jtb tC_41 1879 = _ from rfl)).1 rfl ((k _ hR').mono (LL67 i _ _))
theorem LB_41 {g : jG} (hEx : jEx g) {N : Nat} {xs : Nat → Int32} (hX : jScr g N xs) {T : lwT} {c0 s0 : Nat} (hc0 : c0 + 1 ≤ 601024) (hs0 : s0 + 6 ≤ 7293034) {i : Nat} (hi : i + 6 ≤ N) {σ : jM} (k : ∀ υ, xR υ → jY g (zL T (c0 + 1) (s0 + 6)) mLw 1000 2617 (LL i) [] υ) {th : jM → jM → Prop} (ht : ∀ n, jTh g (n + 20) mX11_wouldSwap [.ref 0, .int (xs (i + 1)), .int (xs (i + 2))] σ (th σ)) (q1 : ∀ τ, th σ τ → (oX12_wouldSwap [.ref 322, .int (xs (i + 1)), .int (xs (i + 2))] τ).1 ∧ ∀ w υ, (oX12_wouldSwap [.ref 322, .int (xs (i + 1)), .int (xs (i + 2))] τ).2 w υ → (∃ x, w = some (.int x)) ∧ υ.1 322 11 = 1 ∧ xR υ) : jY g (zL T c0 s0) mLw 1000 1807 (LL i) [] σ := by
  refine jy_aloadn (j := 1) rfl (TC_41.row (show jtb tC_41 1807 = _ from rfl)).1 ?_
  refine jy_S hX 1 rfl rfl hi (by decide) (TC_41.row (show jtb tC_41 1808 = _ from rfl)).1 (TC_41.row (show jtb tC_41 1809 = _ from rfl)).1 (TC_41.row (show jtb tC_41 1811 = _ from rfl)).1 (TC_41.row (show jtb tC_41 1812 = _ from rfl)).1 (TC_41.row (show jtb tC_41 1813 = _ from rfl)).1 ?_
  refine jy_S hX 2 rfl rfl hi (by decide) (TC_41.row (show jtb tC_41 1814 = _ from rfl)).1 (TC_41.row (show jtb tC_41 1815 = _ from rfl)).1 (TC_41.row (show jtb tC_41 1817 = _ from rfl)).1 (TC_41.row (show jtb tC_41 1818 = _ from rfl)).1 (TC_41.row (show jtb tC_41 1819 = _ from rfl)).1 ?_
  refine jy_aloadn (j := 3) rfl (TC_41.row (show jtb tC_41 1820 = _ from rfl)).1 ?_
  refine jy_callSW (n' := 0 + 20 + 1) (mt' := mL_wouldSwap) (hh := hL_wouldSwap) (as := [.ref 0, .int (xs (i + 1)), .int (xs (i + 2)), .ref 352]) (r := []) (by decide) hc0 hs0 TC_41 (show jtb tC_41 1821 = _ from rfl) kL_244 WL_wouldSwap rfl (by decide) rfl (by simp) (PL_wouldSwap hEx (0 + 20) (ht _)) (fun v τ hv => ?_)
  obtain ⟨rfl, hτ⟩ := hv
  obtain ⟨p2, q2⟩ := q1 τ hτ
  refine jy_istore (j := 6) (by decide) (TC_41.row (show jtb tC_41 1824 = _ from rfl)).1 ?_
  refine jy_aloadn (j := 2) rfl (TC_41.row (show jtb tC_41 1826 = _ from rfl)).1 ?_
  refine jy_S hX 1 rfl rfl hi (by decide) (TC_41.row (show jtb tC_41 1827 = _ from rfl)).1 (TC_41.row (show jtb tC_41 1828 = _ from rfl)).1 (TC_41.row (show jtb tC_41 1830 = _ from rfl)).1 (TC_41.row (show jtb tC_41 1831 = _ from rfl)).1 (TC_41.row (show jtb tC_41 1832 = _ from rfl)).1 ?_
  refine jy_S hX 2 rfl rfl hi (by decide) (TC_41.row (show jtb tC_41 1833 = _ from rfl)).1 (TC_41.row (show jtb tC_41 1834 = _ from rfl)).1 (TC_41.row (show jtb tC_41 1836 = _ from rfl)).1 (TC_41.row (show jtb tC_41 1837 = _ from rfl)).1 (TC_41.row (show jtb tC_41 1838 = _ from rfl)).1 ?_
  refine jy_callV (n' := 0 + 5) (mt' := mX12_wouldSwap) (as := [.int (xs (i + 1)), .int (xs (i + 2))]) (r := []) (ci := 12) (a := 322) (zL_ok (by decide) hc0 hs0) TC_41 (show jtb tC_41 1839 = _ from rfl) kL_246 WX12_wouldSwap rfl (by decide +kernel) rfl (by decide) rfl (by simp) (CX12_wouldSwap g 0 _ _ p2) (fun w υ hw => ?_)
  obtain ⟨⟨a, rfl⟩, e1, hR'⟩ := q2 w υ hw
  refine jy_istore (j := 7) (by decide) (TC_41.row (show jtb tC_41 1842 = _ from rfl)).1 ?_
  refine jy_aloadn (j := 2) rfl (TC_41.row (show jtb tC_41 1844 = _ from rfl)).1 ?_
  refine jy_callV (n' := 0 + 0) (mt' := mX12_thrown) (as := []) (r := []) (ci := 12) (a := 322) (zL_ok (by decide) hc0 hs0) TC_41 (show jtb tC_41 1845 = _ from rfl) kL_142 WX12_thrown rfl (by decide +kernel) rfl (by decide) rfl (by simp) (CX12_thrown g 0 [.ref 322] υ rfl) (fun w υ' hw => ?_)
  obtain ⟨rfl, rfl⟩ := hw
  rw [e1]
  refine jy_iload (x := 1) rfl (TC_41.row (show jtb tC_41 1848 = _ from rfl)).1 ?_
  refine jy_icmp (tg := 1855) (TC_41.row (show jtb tC_41 1850 = _ from rfl)).1 rfl ⟨fun _ => ?_, fun h => absurd rfl h⟩
  refine jy_iload (x := 1) rfl (TC_41.row (show jtb tC_41 1855 = _ from rfl)).1 ?_
  refine jy_if (tg := 1879) (TC_41.row (show jtb tC_41 1857 = _ from rfl)).1 rfl ⟨fun _ => ?_, fun h => absurd h (by decide)⟩
  exact jy_goto (tg := 2617) (TC_41.row (show jtb tC_41 1879 = _ from rfl)).1 rfl ((k _ hR').mono (LL67 i _ _))
/-! 44: paid -/
def tC_44 : jTb := [(1972, .aload_n 1, 1973, 0, 0), (1973, .aload_n 0, 1974, 0, 0), (1974, .iload 5, 1976, 0, 0), (1976, .iconst 1, 1977, 0, 1), (1977, .iadd, 1978, 0, 0), (1978, .iaload, 1979, 0, 0), (1979, .aload_n 0, 1980, 0, 0), (1980, .iload 5, 1982, 0, 0), (1982, .iconst 2, 1983, 0, 2), (1983, .iadd, 1984, 0, 0), (1984, .iaload, 1985, 0, 0), (1985, .aload_n 3, 1986, 0, 0), (1986, .invokestatic 255, 1989, 0, 0), (1989, .istore 6, 1991, 0, 0), (1991, .aload_n 2, 1992, 0, 0), (1992, .aload_n 0, 1993, 0, 0), (1993, .iload 5, 1995, 0, 0), (1995, .iconst 1, 1996, 0, 1), (1996, .iadd, 1997, 0, 0), (1997, .iaload, 1998, 0, 0), (1998, .aload_n 0, 1999, 0, 0), (1999, .iload 5, 2001, 0, 0), (2001, .iconst 2, 2002, 0, 2), (2002, .iadd, 2003, 0, 0), (2003, .iaload, 2004, 0, 0), (2004, .invokevirtual 257, 2007, 0, 0), (2007, .istore 7, 2009, 0, 0), (2009, .aload_n 2, 2010, 0, 0), (2010, .invokevirtual 142, 2013, 0, 0), (2013, .iload 6, 2015, 0, 0), (2015, .if_icmp .eq 5, 2018, 2020, 0), (2018, .iconst 0, 2019, 0, 0), (2019, .ireturn, 2020, 0, 0), (2020, .iload 6, 2022, 0, 0), (2022, .ifCond .ne 15, 2025, 2037, 0), (2025, .aload_n 3, 2026, 0, 0), (2026, .iconst 0, 2027, 0, 0), (2027, .laload, 2028, 0, 0), (2028, .iload 7, 2030, 0, 0), (2030, .i2l, 2031, 0, 0), (2031, .lcmp, 2032, 0, 0), (2032, .ifCond .eq 5, 2035, 2037, 0), (2035, .iconst 0, 2036, 0, 0), (2036, .ireturn, 2037, 0, 0), (2037, .goto 580, 2040, 2617, 0)]
theorem TC_44 : jT mLw [] [] tC_44 := jT.of (cs := []) (fun _ h => absurd h List.not_mem_nil) (fun _ h => absurd h List.not_mem_nil) (fun _ h => absurd h List.not_mem_nil) (by decide +kernel) (by decide +kernel)
theorem kL_255 : Cond.methodLink RL 255 yL_paid ∈ jGw := jGw_of 1447 (by decide +kernel) (by decide +kernel)
theorem LA_44 {g : jG} {N : Nat} {xs : Nat → Int32} (hX : jScr g N xs) {T : lwT} {c0 s0 : Nat} (hc0 : c0 + 1 ≤ 601024) (hs0 : s0 + 6 ≤ 7293034) {i : Nat} (hi : i + 6 ≤ N) {σ : jM} (k : ∀ υ, xR υ → jY g (zL T (c0 + 1) (s0 + 6)) mLw 1000 2617 (LL i) [] υ) (p1 : (oX11_paid [.ref 0, .int (xs (i + 1)), .int (xs (i + 2))] σ).1) (q1 : ∀ v τ, (oX11_paid [.ref 0, .int (xs (i + 1)), .int (xs (i + 2))] σ).2 v τ → ∀ y : Int64, (oX12_paid [.ref 322, .int (xs (i + 1)), .int (xs (i + 2))] (jupL τ 352 0 y)).1 ∧ ∀ w υ, (oX12_paid [.ref 322, .int (xs (i + 1)), .int (xs (i + 2))] (jupL τ 352 0 y)).2 w υ → w = v ∧ υ.1 322 11 = 0 ∧ υ.2.1 352 0 = y ∧ xR υ) (hv1 : ∀ σ' v τ, (oX11_paid [.ref 0, .int (xs (i + 1)), .int (xs (i + 2))] σ').2 v τ → ∃ a : Int32, v = some (.int a)) : jY g (zL T c0 s0) mLw 1000 1972 (LL i) [] σ := by
  refine jy_aloadn (j := 1) rfl (TC_44.row (show jtb tC_44 1972 = _ from rfl)).1 ?_
  refine jy_S hX 1 rfl rfl hi (by decide) (TC_44.row (show jtb tC_44 1973 = _ from rfl)).1 (TC_44.row (show jtb tC_44 1974 = _ from rfl)).1 (TC_44.row (show jtb tC_44 1976 = _ from rfl)).1 (TC_44.row (show jtb tC_44 1977 = _ from rfl)).1 (TC_44.row (show jtb tC_44 1978 = _ from rfl)).1 ?_
  refine jy_S hX 2 rfl rfl hi (by decide) (TC_44.row (show jtb tC_44 1979 = _ from rfl)).1 (TC_44.row (show jtb tC_44 1980 = _ from rfl)).1 (TC_44.row (show jtb tC_44 1982 = _ from rfl)).1 (TC_44.row (show jtb tC_44 1983 = _ from rfl)).1 (TC_44.row (show jtb tC_44 1984 = _ from rfl)).1 ?_
  refine jy_aloadn (j := 3) rfl (TC_44.row (show jtb tC_44 1985 = _ from rfl)).1 ?_
  refine jy_callSW (n' := 0 + 2 + 1) (mt' := mL_paid) (hh := hL_paid) (as := [.ref 0, .int (xs (i + 1)), .int (xs (i + 2)), .ref 352]) (r := []) (by decide) hc0 hs0 TC_44 (show jtb tC_44 1986 = _ from rfl) kL_255 WL_paid rfl (by decide) rfl (by simp) (NL_paid 0 2 (hv1 _) (CX11_paid g 0 _ σ p1)) (fun v τ hv => ?_)
  obtain ⟨rfl, a, τ', hq, rfl⟩ := hv
  obtain ⟨p2, q2⟩ := q1 _ τ' hq a.toInt64
  refine jy_istore (j := 6) (by decide) (TC_44.row (show jtb tC_44 1989 = _ from rfl)).1 ?_
  refine jy_aloadn (j := 2) rfl (TC_44.row (show jtb tC_44 1991 = _ from rfl)).1 ?_
  refine jy_S hX 1 rfl rfl hi (by decide) (TC_44.row (show jtb tC_44 1992 = _ from rfl)).1 (TC_44.row (show jtb tC_44 1993 = _ from rfl)).1 (TC_44.row (show jtb tC_44 1995 = _ from rfl)).1 (TC_44.row (show jtb tC_44 1996 = _ from rfl)).1 (TC_44.row (show jtb tC_44 1997 = _ from rfl)).1 ?_
  refine jy_S hX 2 rfl rfl hi (by decide) (TC_44.row (show jtb tC_44 1998 = _ from rfl)).1 (TC_44.row (show jtb tC_44 1999 = _ from rfl)).1 (TC_44.row (show jtb tC_44 2001 = _ from rfl)).1 (TC_44.row (show jtb tC_44 2002 = _ from rfl)).1 (TC_44.row (show jtb tC_44 2003 = _ from rfl)).1 ?_
  refine jy_callV (n' := 0 + 2) (mt' := mX12_paid) (as := [.int (xs (i + 1)), .int (xs (i + 2))]) (r := []) (ci := 12) (a := 322) (zL_ok (by decide) hc0 hs0) TC_44 (show jtb tC_44 2004 = _ from rfl) kL_257 WX12_paid rfl (by decide +kernel) rfl (by decide) rfl (by simp) (CX12_paid g 0 _ _ p2) (fun w υ hw => ?_)
  obtain ⟨rfl, e1, e2, hR'⟩ := q2 w υ hw
  refine jy_istore (j := 7) (by decide) (TC_44.row (show jtb tC_44 2007 = _ from rfl)).1 ?_
  refine jy_aloadn (j := 2) rfl (TC_44.row (show jtb tC_44 2009 = _ from rfl)).1 ?_
  refine jy_callV (n' := 0 + 0) (mt' := mX12_thrown) (as := []) (r := []) (ci := 12) (a := 322) (zL_ok (by decide) hc0 hs0) TC_44 (show jtb tC_44 2010 = _ from rfl) kL_142 WX12_thrown rfl (by decide +kernel) rfl (by decide) rfl (by simp) (CX12_thrown g 0 [.ref 322] υ rfl) (fun w υ' hw => ?_)
  obtain ⟨rfl, rfl⟩ := hw
  rw [e1]
  refine jy_iload (x := 0) rfl (TC_44.row (show jtb tC_44 2013 = _ from rfl)).1 ?_
  refine jy_icmp (tg := 2020) (TC_44.row (show jtb tC_44 2015 = _ from rfl)).1 rfl ⟨fun _ => ?_, fun h => absurd rfl h⟩
  refine jy_iload (x := 0) rfl (TC_44.row (show jtb tC_44 2020 = _ from rfl)).1 ?_
  refine jy_if (tg := 2037) (TC_44.row (show jtb tC_44 2022 = _ from rfl)).1 rfl ⟨fun h => absurd rfl h, fun _ => ?_⟩
  refine jy_aloadn (j := 3) rfl (TC_44.row (show jtb tC_44 2025 = _ from rfl)).1 ?_
  refine jy_iconst (v := 0) rfl (TC_44.row (show jtb tC_44 2026 = _ from rfl)).1 ?_
  refine jy_lald (a := 352) (by decide +kernel) (show jin 0 1 from ⟨by decide, by decide⟩) (TC_44.row (show jtb tC_44 2027 = _ from rfl)).1 ?_
  refine jy_ofL e2 ?_
  refine jy_iload (x := a) rfl (TC_44.row (show jtb tC_44 2028 = _ from rfl)).1 ?_
  refine jy_i2l (TC_44.row (show jtb tC_44 2030 = _ from rfl)).1 ?_
  refine jy_lcmp (TC_44.row (show jtb tC_44 2031 = _ from rfl)).1 ?_
  refine jy_ofI (lg_cmp_self _) ?_
  refine jy_if (tg := 2037) (TC_44.row (show jtb tC_44 2032 = _ from rfl)).1 rfl ⟨fun _ => ?_, fun h => absurd rfl h⟩
  exact jy_goto (tg := 2617) (TC_44.row (show jtb tC_44 2037 = _ from rfl)).1 rfl ((k _ hR').mono (LL67 i _ _))
theorem LB_44 {g : jG} (hEx : jEx g) {N : Nat} {xs : Nat → Int32} (hX : jScr g N xs) {T : lwT} {c0 s0 : Nat} (hc0 : c0 + 1 ≤ 601024) (hs0 : s0 + 6 ≤ 7293034) {i : Nat} (hi : i + 6 ≤ N) {σ : jM} (k : ∀ υ, xR υ → jY g (zL T (c0 + 1) (s0 + 6)) mLw 1000 2617 (LL i) [] υ) {th : jM → jM → Prop} (ht : ∀ n, jTh g (n + 20) mX11_paid [.ref 0, .int (xs (i + 1)), .int (xs (i + 2))] σ (th σ)) (q1 : ∀ τ, th σ τ → (oX12_paid [.ref 322, .int (xs (i + 1)), .int (xs (i + 2))] τ).1 ∧ ∀ w υ, (oX12_paid [.ref 322, .int (xs (i + 1)), .int (xs (i + 2))] τ).2 w υ → (∃ x, w = some (.int x)) ∧ υ.1 322 11 = 1 ∧ xR υ) : jY g (zL T c0 s0) mLw 1000 1972 (LL i) [] σ := by
  refine jy_aloadn (j := 1) rfl (TC_44.row (show jtb tC_44 1972 = _ from rfl)).1 ?_
  refine jy_S hX 1 rfl rfl hi (by decide) (TC_44.row (show jtb tC_44 1973 = _ from rfl)).1 (TC_44.row (show jtb tC_44 1974 = _ from rfl)).1 (TC_44.row (show jtb tC_44 1976 = _ from rfl)).1 (TC_44.row (show jtb tC_44 1977 = _ from rfl)).1 (TC_44.row (show jtb tC_44 1978 = _ from rfl)).1 ?_
  refine jy_S hX 2 rfl rfl hi (by decide) (TC_44.row (show jtb tC_44 1979 = _ from rfl)).1 (TC_44.row (show jtb tC_44 1980 = _ from rfl)).1 (TC_44.row (show jtb tC_44 1982 = _ from rfl)).1 (TC_44.row (show jtb tC_44 1983 = _ from rfl)).1 (TC_44.row (show jtb tC_44 1984 = _ from rfl)).1 ?_
  refine jy_aloadn (j := 3) rfl (TC_44.row (show jtb tC_44 1985 = _ from rfl)).1 ?_
  refine jy_callSW (n' := 0 + 20 + 1) (mt' := mL_paid) (hh := hL_paid) (as := [.ref 0, .int (xs (i + 1)), .int (xs (i + 2)), .ref 352]) (r := []) (by decide) hc0 hs0 TC_44 (show jtb tC_44 1986 = _ from rfl) kL_255 WL_paid rfl (by decide) rfl (by simp) (PL_paid hEx (0 + 20) (ht _)) (fun v τ hv => ?_)
  obtain ⟨rfl, hτ⟩ := hv
  obtain ⟨p2, q2⟩ := q1 τ hτ
  refine jy_istore (j := 6) (by decide) (TC_44.row (show jtb tC_44 1989 = _ from rfl)).1 ?_
  refine jy_aloadn (j := 2) rfl (TC_44.row (show jtb tC_44 1991 = _ from rfl)).1 ?_
  refine jy_S hX 1 rfl rfl hi (by decide) (TC_44.row (show jtb tC_44 1992 = _ from rfl)).1 (TC_44.row (show jtb tC_44 1993 = _ from rfl)).1 (TC_44.row (show jtb tC_44 1995 = _ from rfl)).1 (TC_44.row (show jtb tC_44 1996 = _ from rfl)).1 (TC_44.row (show jtb tC_44 1997 = _ from rfl)).1 ?_
  refine jy_S hX 2 rfl rfl hi (by decide) (TC_44.row (show jtb tC_44 1998 = _ from rfl)).1 (TC_44.row (show jtb tC_44 1999 = _ from rfl)).1 (TC_44.row (show jtb tC_44 2001 = _ from rfl)).1 (TC_44.row (show jtb tC_44 2002 = _ from rfl)).1 (TC_44.row (show jtb tC_44 2003 = _ from rfl)).1 ?_
  refine jy_callV (n' := 0 + 2) (mt' := mX12_paid) (as := [.int (xs (i + 1)), .int (xs (i + 2))]) (r := []) (ci := 12) (a := 322) (zL_ok (by decide) hc0 hs0) TC_44 (show jtb tC_44 2004 = _ from rfl) kL_257 WX12_paid rfl (by decide +kernel) rfl (by decide) rfl (by simp) (CX12_paid g 0 _ _ p2) (fun w υ hw => ?_)
  obtain ⟨⟨a, rfl⟩, e1, hR'⟩ := q2 w υ hw
  refine jy_istore (j := 7) (by decide) (TC_44.row (show jtb tC_44 2007 = _ from rfl)).1 ?_
  refine jy_aloadn (j := 2) rfl (TC_44.row (show jtb tC_44 2009 = _ from rfl)).1 ?_
  refine jy_callV (n' := 0 + 0) (mt' := mX12_thrown) (as := []) (r := []) (ci := 12) (a := 322) (zL_ok (by decide) hc0 hs0) TC_44 (show jtb tC_44 2010 = _ from rfl) kL_142 WX12_thrown rfl (by decide +kernel) rfl (by decide) rfl (by simp) (CX12_thrown g 0 [.ref 322] υ rfl) (fun w υ' hw => ?_)
  obtain ⟨rfl, rfl⟩ := hw
  rw [e1]
  refine jy_iload (x := 1) rfl (TC_44.row (show jtb tC_44 2013 = _ from rfl)).1 ?_
  refine jy_icmp (tg := 2020) (TC_44.row (show jtb tC_44 2015 = _ from rfl)).1 rfl ⟨fun _ => ?_, fun h => absurd rfl h⟩
  refine jy_iload (x := 1) rfl (TC_44.row (show jtb tC_44 2020 = _ from rfl)).1 ?_
  refine jy_if (tg := 2037) (TC_44.row (show jtb tC_44 2022 = _ from rfl)).1 rfl ⟨fun _ => ?_, fun h => absurd h (by decide)⟩
  exact jy_goto (tg := 2617) (TC_44.row (show jtb tC_44 2037 = _ from rfl)).1 rfl ((k _ hR').mono (LL67 i _ _))
/-! 46: target -/
def tC_46 : jTb := [(2053, .aload_n 1, 2054, 0, 0), (2054, .aload_n 0, 2055, 0, 0), (2055, .iload 5, 2057, 0, 0), (2057, .iconst 1, 2058, 0, 1), (2058, .iadd, 2059, 0, 0), (2059, .iaload, 2060, 0, 0), (2060, .aload_n 3, 2061, 0, 0), (2061, .invokestatic 262, 2064, 0, 0), (2064, .istore 6, 2066, 0, 0), (2066, .aload_n 2, 2067, 0, 0), (2067, .aload_n 0, 2068, 0, 0), (2068, .iload 5, 2070, 0, 0), (2070, .iconst 1, 2071, 0, 1), (2071, .iadd, 2072, 0, 0), (2072, .iaload, 2073, 0, 0), (2073, .invokevirtual 264, 2076, 0, 0), (2076, .istore 7, 2078, 0, 0), (2078, .aload_n 2, 2079, 0, 0), (2079, .invokevirtual 142, 2082, 0, 0), (2082, .iload 6, 2084, 0, 0), (2084, .if_icmp .eq 5, 2087, 2089, 0), (2087, .iconst 0, 2088, 0, 0), (2088, .ireturn, 2089, 0, 0), (2089, .iload 6, 2091, 0, 0), (2091, .ifCond .ne 15, 2094, 2106, 0), (2094, .aload_n 3, 2095, 0, 0), (2095, .iconst 0, 2096, 0, 0), (2096, .laload, 2097, 0, 0), (2097, .iload 7, 2099, 0, 0), (2099, .i2l, 2100, 0, 0), (2100, .lcmp, 2101, 0, 0), (2101, .ifCond .eq 5, 2104, 2106, 0), (2104, .iconst 0, 2105, 0, 0), (2105, .ireturn, 2106, 0, 0), (2106, .goto 511, 2109, 2617, 0)]
theorem TC_46 : jT mLw [] [] tC_46 := jT.of (cs := []) (fun _ h => absurd h List.not_mem_nil) (fun _ h => absurd h List.not_mem_nil) (fun _ h => absurd h List.not_mem_nil) (by decide +kernel) (by decide +kernel)
theorem kL_262 : Cond.methodLink RL 262 yL_target ∈ jGw := jGw_of 1454 (by decide +kernel) (by decide +kernel)
theorem LA_46 {g : jG} {N : Nat} {xs : Nat → Int32} (hX : jScr g N xs) {T : lwT} {c0 s0 : Nat} (hc0 : c0 + 1 ≤ 601024) (hs0 : s0 + 6 ≤ 7293034) {i : Nat} (hi : i + 6 ≤ N) {σ : jM} (k : ∀ υ, xR υ → jY g (zL T (c0 + 1) (s0 + 6)) mLw 1000 2617 (LL i) [] υ) (p1 : (oX11_target [.ref 0, .int (xs (i + 1))] σ).1) (q1 : ∀ v τ, (oX11_target [.ref 0, .int (xs (i + 1))] σ).2 v τ → ∀ y : Int64, (oX12_target [.ref 322, .int (xs (i + 1))] (jupL τ 352 0 y)).1 ∧ ∀ w υ, (oX12_target [.ref 322, .int (xs (i + 1))] (jupL τ 352 0 y)).2 w υ → w = v ∧ υ.1 322 11 = 0 ∧ υ.2.1 352 0 = y ∧ xR υ) (hv1 : ∀ σ' v τ, (oX11_target [.ref 0, .int (xs (i + 1))] σ').2 v τ → ∃ a : Int32, v = some (.int a)) : jY g (zL T c0 s0) mLw 1000 2053 (LL i) [] σ := by
  refine jy_aloadn (j := 1) rfl (TC_46.row (show jtb tC_46 2053 = _ from rfl)).1 ?_
  refine jy_S hX 1 rfl rfl hi (by decide) (TC_46.row (show jtb tC_46 2054 = _ from rfl)).1 (TC_46.row (show jtb tC_46 2055 = _ from rfl)).1 (TC_46.row (show jtb tC_46 2057 = _ from rfl)).1 (TC_46.row (show jtb tC_46 2058 = _ from rfl)).1 (TC_46.row (show jtb tC_46 2059 = _ from rfl)).1 ?_
  refine jy_aloadn (j := 3) rfl (TC_46.row (show jtb tC_46 2060 = _ from rfl)).1 ?_
  refine jy_callSW (n' := 0 + 3 + 1) (mt' := mL_target) (hh := hL_target) (as := [.ref 0, .int (xs (i + 1)), .ref 352]) (r := []) (by decide) hc0 hs0 TC_46 (show jtb tC_46 2061 = _ from rfl) kL_262 WL_target rfl (by decide) rfl (by simp) (NL_target 0 3 (hv1 _) (CX11_target g 0 _ σ p1)) (fun v τ hv => ?_)
  obtain ⟨rfl, a, τ', hq, rfl⟩ := hv
  obtain ⟨p2, q2⟩ := q1 _ τ' hq a.toInt64
  refine jy_istore (j := 6) (by decide) (TC_46.row (show jtb tC_46 2064 = _ from rfl)).1 ?_
  refine jy_aloadn (j := 2) rfl (TC_46.row (show jtb tC_46 2066 = _ from rfl)).1 ?_
  refine jy_S hX 1 rfl rfl hi (by decide) (TC_46.row (show jtb tC_46 2067 = _ from rfl)).1 (TC_46.row (show jtb tC_46 2068 = _ from rfl)).1 (TC_46.row (show jtb tC_46 2070 = _ from rfl)).1 (TC_46.row (show jtb tC_46 2071 = _ from rfl)).1 (TC_46.row (show jtb tC_46 2072 = _ from rfl)).1 ?_
  refine jy_callV (n' := 0 + 4) (mt' := mX12_target) (as := [.int (xs (i + 1))]) (r := []) (ci := 12) (a := 322) (zL_ok (by decide) hc0 hs0) TC_46 (show jtb tC_46 2073 = _ from rfl) kL_264 WX12_target rfl (by decide +kernel) rfl (by decide) rfl (by simp) (CX12_target g 0 _ _ p2) (fun w υ hw => ?_)
  obtain ⟨rfl, e1, e2, hR'⟩ := q2 w υ hw
  refine jy_istore (j := 7) (by decide) (TC_46.row (show jtb tC_46 2076 = _ from rfl)).1 ?_
  refine jy_aloadn (j := 2) rfl (TC_46.row (show jtb tC_46 2078 = _ from rfl)).1 ?_
  refine jy_callV (n' := 0 + 0) (mt' := mX12_thrown) (as := []) (r := []) (ci := 12) (a := 322) (zL_ok (by decide) hc0 hs0) TC_46 (show jtb tC_46 2079 = _ from rfl) kL_142 WX12_thrown rfl (by decide +kernel) rfl (by decide) rfl (by simp) (CX12_thrown g 0 [.ref 322] υ rfl) (fun w υ' hw => ?_)
  obtain ⟨rfl, rfl⟩ := hw
  rw [e1]
  refine jy_iload (x := 0) rfl (TC_46.row (show jtb tC_46 2082 = _ from rfl)).1 ?_
  refine jy_icmp (tg := 2089) (TC_46.row (show jtb tC_46 2084 = _ from rfl)).1 rfl ⟨fun _ => ?_, fun h => absurd rfl h⟩
  refine jy_iload (x := 0) rfl (TC_46.row (show jtb tC_46 2089 = _ from rfl)).1 ?_
  refine jy_if (tg := 2106) (TC_46.row (show jtb tC_46 2091 = _ from rfl)).1 rfl ⟨fun h => absurd rfl h, fun _ => ?_⟩
  refine jy_aloadn (j := 3) rfl (TC_46.row (show jtb tC_46 2094 = _ from rfl)).1 ?_
  refine jy_iconst (v := 0) rfl (TC_46.row (show jtb tC_46 2095 = _ from rfl)).1 ?_
  refine jy_lald (a := 352) (by decide +kernel) (show jin 0 1 from ⟨by decide, by decide⟩) (TC_46.row (show jtb tC_46 2096 = _ from rfl)).1 ?_
  refine jy_ofL e2 ?_
  refine jy_iload (x := a) rfl (TC_46.row (show jtb tC_46 2097 = _ from rfl)).1 ?_
  refine jy_i2l (TC_46.row (show jtb tC_46 2099 = _ from rfl)).1 ?_
  refine jy_lcmp (TC_46.row (show jtb tC_46 2100 = _ from rfl)).1 ?_
  refine jy_ofI (lg_cmp_self _) ?_
  refine jy_if (tg := 2106) (TC_46.row (show jtb tC_46 2101 = _ from rfl)).1 rfl ⟨fun _ => ?_, fun h => absurd rfl h⟩
  exact jy_goto (tg := 2617) (TC_46.row (show jtb tC_46 2106 = _ from rfl)).1 rfl ((k _ hR').mono (LL67 i _ _))
theorem LB_46 {g : jG} (hEx : jEx g) {N : Nat} {xs : Nat → Int32} (hX : jScr g N xs) {T : lwT} {c0 s0 : Nat} (hc0 : c0 + 1 ≤ 601024) (hs0 : s0 + 6 ≤ 7293034) {i : Nat} (hi : i + 6 ≤ N) {σ : jM} (k : ∀ υ, xR υ → jY g (zL T (c0 + 1) (s0 + 6)) mLw 1000 2617 (LL i) [] υ) {th : jM → jM → Prop} (ht : ∀ n, jTh g (n + 20) mX11_target [.ref 0, .int (xs (i + 1))] σ (th σ)) (q1 : ∀ τ, th σ τ → (oX12_target [.ref 322, .int (xs (i + 1))] τ).1 ∧ ∀ w υ, (oX12_target [.ref 322, .int (xs (i + 1))] τ).2 w υ → (∃ x, w = some (.int x)) ∧ υ.1 322 11 = 1 ∧ xR υ) : jY g (zL T c0 s0) mLw 1000 2053 (LL i) [] σ := by
  refine jy_aloadn (j := 1) rfl (TC_46.row (show jtb tC_46 2053 = _ from rfl)).1 ?_
  refine jy_S hX 1 rfl rfl hi (by decide) (TC_46.row (show jtb tC_46 2054 = _ from rfl)).1 (TC_46.row (show jtb tC_46 2055 = _ from rfl)).1 (TC_46.row (show jtb tC_46 2057 = _ from rfl)).1 (TC_46.row (show jtb tC_46 2058 = _ from rfl)).1 (TC_46.row (show jtb tC_46 2059 = _ from rfl)).1 ?_
  refine jy_aloadn (j := 3) rfl (TC_46.row (show jtb tC_46 2060 = _ from rfl)).1 ?_
  refine jy_callSW (n' := 0 + 20 + 1) (mt' := mL_target) (hh := hL_target) (as := [.ref 0, .int (xs (i + 1)), .ref 352]) (r := []) (by decide) hc0 hs0 TC_46 (show jtb tC_46 2061 = _ from rfl) kL_262 WL_target rfl (by decide) rfl (by simp) (PL_target hEx (0 + 20) (ht _)) (fun v τ hv => ?_)
  obtain ⟨rfl, hτ⟩ := hv
  obtain ⟨p2, q2⟩ := q1 τ hτ
  refine jy_istore (j := 6) (by decide) (TC_46.row (show jtb tC_46 2064 = _ from rfl)).1 ?_
  refine jy_aloadn (j := 2) rfl (TC_46.row (show jtb tC_46 2066 = _ from rfl)).1 ?_
  refine jy_S hX 1 rfl rfl hi (by decide) (TC_46.row (show jtb tC_46 2067 = _ from rfl)).1 (TC_46.row (show jtb tC_46 2068 = _ from rfl)).1 (TC_46.row (show jtb tC_46 2070 = _ from rfl)).1 (TC_46.row (show jtb tC_46 2071 = _ from rfl)).1 (TC_46.row (show jtb tC_46 2072 = _ from rfl)).1 ?_
  refine jy_callV (n' := 0 + 4) (mt' := mX12_target) (as := [.int (xs (i + 1))]) (r := []) (ci := 12) (a := 322) (zL_ok (by decide) hc0 hs0) TC_46 (show jtb tC_46 2073 = _ from rfl) kL_264 WX12_target rfl (by decide +kernel) rfl (by decide) rfl (by simp) (CX12_target g 0 _ _ p2) (fun w υ hw => ?_)
  obtain ⟨⟨a, rfl⟩, e1, hR'⟩ := q2 w υ hw
  refine jy_istore (j := 7) (by decide) (TC_46.row (show jtb tC_46 2076 = _ from rfl)).1 ?_
  refine jy_aloadn (j := 2) rfl (TC_46.row (show jtb tC_46 2078 = _ from rfl)).1 ?_
  refine jy_callV (n' := 0 + 0) (mt' := mX12_thrown) (as := []) (r := []) (ci := 12) (a := 322) (zL_ok (by decide) hc0 hs0) TC_46 (show jtb tC_46 2079 = _ from rfl) kL_142 WX12_thrown rfl (by decide +kernel) rfl (by decide) rfl (by simp) (CX12_thrown g 0 [.ref 322] υ rfl) (fun w υ' hw => ?_)
  obtain ⟨rfl, rfl⟩ := hw
  rw [e1]
  refine jy_iload (x := 1) rfl (TC_46.row (show jtb tC_46 2082 = _ from rfl)).1 ?_
  refine jy_icmp (tg := 2089) (TC_46.row (show jtb tC_46 2084 = _ from rfl)).1 rfl ⟨fun _ => ?_, fun h => absurd rfl h⟩
  refine jy_iload (x := 1) rfl (TC_46.row (show jtb tC_46 2089 = _ from rfl)).1 ?_
  refine jy_if (tg := 2106) (TC_46.row (show jtb tC_46 2091 = _ from rfl)).1 rfl ⟨fun _ => ?_, fun h => absurd h (by decide)⟩
  exact jy_goto (tg := 2617) (TC_46.row (show jtb tC_46 2106 = _ from rfl)).1 rfl ((k _ hR').mono (LL67 i _ _))
/-! 48: transfer -/
def tC_48 : jTb := [(2122, .aload_n 1, 2123, 0, 0), (2123, .aload_n 0, 2124, 0, 0), (2124, .iload 5, 2126, 0, 0), (2126, .iconst 1, 2127, 0, 1), (2127, .iadd, 2128, 0, 0), (2128, .iaload, 2129, 0, 0), (2129, .aload_n 0, 2130, 0, 0), (2130, .iload 5, 2132, 0, 0), (2132, .iconst 2, 2133, 0, 2), (2133, .iadd, 2134, 0, 0), (2134, .iaload, 2135, 0, 0), (2135, .aload_n 3, 2136, 0, 0), (2136, .invokestatic 269, 2139, 0, 0), (2139, .istore 6, 2141, 0, 0), (2141, .aload_n 2, 2142, 0, 0), (2142, .aload_n 0, 2143, 0, 0), (2143, .iload 5, 2145, 0, 0), (2145, .iconst 1, 2146, 0, 1), (2146, .iadd, 2147, 0, 0), (2147, .iaload, 2148, 0, 0), (2148, .aload_n 0, 2149, 0, 0), (2149, .iload 5, 2151, 0, 0), (2151, .iconst 2, 2152, 0, 2), (2152, .iadd, 2153, 0, 0), (2153, .iaload, 2154, 0, 0), (2154, .invokevirtual 271, 2157, 0, 0), (2157, .istore 7, 2159, 0, 0), (2159, .aload_n 2, 2160, 0, 0), (2160, .invokevirtual 142, 2163, 0, 0), (2163, .iload 6, 2165, 0, 0), (2165, .if_icmp .eq 5, 2168, 2170, 0), (2168, .iconst 0, 2169, 0, 0), (2169, .ireturn, 2170, 0, 0), (2170, .iload 6, 2172, 0, 0), (2172, .ifCond .ne 15, 2175, 2187, 0), (2175, .aload_n 3, 2176, 0, 0), (2176, .iconst 0, 2177, 0, 0), (2177, .laload, 2178, 0, 0), (2178, .iload 7, 2180, 0, 0), (2180, .i2l, 2181, 0, 0), (2181, .lcmp, 2182, 0, 0), (2182, .ifCond .eq 5, 2185, 2187, 0), (2185, .iconst 0, 2186, 0, 0), (2186, .ireturn, 2187, 0, 0), (2187, .goto 430, 2190, 2617, 0)]
theorem TC_48 : jT mLw [] [] tC_48 := jT.of (cs := []) (fun _ h => absurd h List.not_mem_nil) (fun _ h => absurd h List.not_mem_nil) (fun _ h => absurd h List.not_mem_nil) (by decide +kernel) (by decide +kernel)
theorem kL_269 : Cond.methodLink RL 269 yL_transfer ∈ jGw := jGw_of 1462 (by decide +kernel) (by decide +kernel)
theorem LA_48 {g : jG} {N : Nat} {xs : Nat → Int32} (hX : jScr g N xs) {T : lwT} {c0 s0 : Nat} (hc0 : c0 + 1 ≤ 601024) (hs0 : s0 + 6 ≤ 7293034) {i : Nat} (hi : i + 6 ≤ N) {σ : jM} (k : ∀ υ, xR υ → jY g (zL T (c0 + 1) (s0 + 6)) mLw 1000 2617 (LL i) [] υ) (p1 : (oX11_transfer [.ref 0, .int (xs (i + 1)), .int (xs (i + 2))] σ).1) (q1 : ∀ v τ, (oX11_transfer [.ref 0, .int (xs (i + 1)), .int (xs (i + 2))] σ).2 v τ → ∀ y : Int64, (oX12_transfer [.ref 322, .int (xs (i + 1)), .int (xs (i + 2))] (jupL τ 352 0 y)).1 ∧ ∀ w υ, (oX12_transfer [.ref 322, .int (xs (i + 1)), .int (xs (i + 2))] (jupL τ 352 0 y)).2 w υ → w = v ∧ υ.1 322 11 = 0 ∧ υ.2.1 352 0 = y ∧ xR υ) (hv1 : ∀ σ' v τ, (oX11_transfer [.ref 0, .int (xs (i + 1)), .int (xs (i + 2))] σ').2 v τ → ∃ a : Int32, v = some (.int a)) : jY g (zL T c0 s0) mLw 1000 2122 (LL i) [] σ := by
  refine jy_aloadn (j := 1) rfl (TC_48.row (show jtb tC_48 2122 = _ from rfl)).1 ?_
  refine jy_S hX 1 rfl rfl hi (by decide) (TC_48.row (show jtb tC_48 2123 = _ from rfl)).1 (TC_48.row (show jtb tC_48 2124 = _ from rfl)).1 (TC_48.row (show jtb tC_48 2126 = _ from rfl)).1 (TC_48.row (show jtb tC_48 2127 = _ from rfl)).1 (TC_48.row (show jtb tC_48 2128 = _ from rfl)).1 ?_
  refine jy_S hX 2 rfl rfl hi (by decide) (TC_48.row (show jtb tC_48 2129 = _ from rfl)).1 (TC_48.row (show jtb tC_48 2130 = _ from rfl)).1 (TC_48.row (show jtb tC_48 2132 = _ from rfl)).1 (TC_48.row (show jtb tC_48 2133 = _ from rfl)).1 (TC_48.row (show jtb tC_48 2134 = _ from rfl)).1 ?_
  refine jy_aloadn (j := 3) rfl (TC_48.row (show jtb tC_48 2135 = _ from rfl)).1 ?_
  refine jy_callSW (n' := 0 + 4 + 1) (mt' := mL_transfer) (hh := hL_transfer) (as := [.ref 0, .int (xs (i + 1)), .int (xs (i + 2)), .ref 352]) (r := []) (by decide) hc0 hs0 TC_48 (show jtb tC_48 2136 = _ from rfl) kL_269 WL_transfer rfl (by decide) rfl (by simp) (NL_transfer 0 4 (hv1 _) (CX11_transfer g 0 _ σ p1)) (fun v τ hv => ?_)
  obtain ⟨rfl, a, τ', hq, rfl⟩ := hv
  obtain ⟨p2, q2⟩ := q1 _ τ' hq a.toInt64
  refine jy_istore (j := 6) (by decide) (TC_48.row (show jtb tC_48 2139 = _ from rfl)).1 ?_
  refine jy_aloadn (j := 2) rfl (TC_48.row (show jtb tC_48 2141 = _ from rfl)).1 ?_
  refine jy_S hX 1 rfl rfl hi (by decide) (TC_48.row (show jtb tC_48 2142 = _ from rfl)).1 (TC_48.row (show jtb tC_48 2143 = _ from rfl)).1 (TC_48.row (show jtb tC_48 2145 = _ from rfl)).1 (TC_48.row (show jtb tC_48 2146 = _ from rfl)).1 (TC_48.row (show jtb tC_48 2147 = _ from rfl)).1 ?_
  refine jy_S hX 2 rfl rfl hi (by decide) (TC_48.row (show jtb tC_48 2148 = _ from rfl)).1 (TC_48.row (show jtb tC_48 2149 = _ from rfl)).1 (TC_48.row (show jtb tC_48 2151 = _ from rfl)).1 (TC_48.row (show jtb tC_48 2152 = _ from rfl)).1 (TC_48.row (show jtb tC_48 2153 = _ from rfl)).1 ?_
  refine jy_callV (n' := 0 + 5) (mt' := mX12_transfer) (as := [.int (xs (i + 1)), .int (xs (i + 2))]) (r := []) (ci := 12) (a := 322) (zL_ok (by decide) hc0 hs0) TC_48 (show jtb tC_48 2154 = _ from rfl) kL_271 WX12_transfer rfl (by decide +kernel) rfl (by decide) rfl (by simp) (CX12_transfer g 0 _ _ p2) (fun w υ hw => ?_)
  obtain ⟨rfl, e1, e2, hR'⟩ := q2 w υ hw
  refine jy_istore (j := 7) (by decide) (TC_48.row (show jtb tC_48 2157 = _ from rfl)).1 ?_
  refine jy_aloadn (j := 2) rfl (TC_48.row (show jtb tC_48 2159 = _ from rfl)).1 ?_
  refine jy_callV (n' := 0 + 0) (mt' := mX12_thrown) (as := []) (r := []) (ci := 12) (a := 322) (zL_ok (by decide) hc0 hs0) TC_48 (show jtb tC_48 2160 = _ from rfl) kL_142 WX12_thrown rfl (by decide +kernel) rfl (by decide) rfl (by simp) (CX12_thrown g 0 [.ref 322] υ rfl) (fun w υ' hw => ?_)
  obtain ⟨rfl, rfl⟩ := hw
  rw [e1]
  refine jy_iload (x := 0) rfl (TC_48.row (show jtb tC_48 2163 = _ from rfl)).1 ?_
  refine jy_icmp (tg := 2170) (TC_48.row (show jtb tC_48 2165 = _ from rfl)).1 rfl ⟨fun _ => ?_, fun h => absurd rfl h⟩
  refine jy_iload (x := 0) rfl (TC_48.row (show jtb tC_48 2170 = _ from rfl)).1 ?_
  refine jy_if (tg := 2187) (TC_48.row (show jtb tC_48 2172 = _ from rfl)).1 rfl ⟨fun h => absurd rfl h, fun _ => ?_⟩
  refine jy_aloadn (j := 3) rfl (TC_48.row (show jtb tC_48 2175 = _ from rfl)).1 ?_
  refine jy_iconst (v := 0) rfl (TC_48.row (show jtb tC_48 2176 = _ from rfl)).1 ?_
  refine jy_lald (a := 352) (by decide +kernel) (show jin 0 1 from ⟨by decide, by decide⟩) (TC_48.row (show jtb tC_48 2177 = _ from rfl)).1 ?_
  refine jy_ofL e2 ?_
  refine jy_iload (x := a) rfl (TC_48.row (show jtb tC_48 2178 = _ from rfl)).1 ?_
  refine jy_i2l (TC_48.row (show jtb tC_48 2180 = _ from rfl)).1 ?_
  refine jy_lcmp (TC_48.row (show jtb tC_48 2181 = _ from rfl)).1 ?_
  refine jy_ofI (lg_cmp_self _) ?_
  refine jy_if (tg := 2187) (TC_48.row (show jtb tC_48 2182 = _ from rfl)).1 rfl ⟨fun _ => ?_, fun h => absurd rfl h⟩
  exact jy_goto (tg := 2617) (TC_48.row (show jtb tC_48 2187 = _ from rfl)).1 rfl ((k _ hR').mono (LL67 i _ _))
theorem LB_48 {g : jG} (hEx : jEx g) {N : Nat} {xs : Nat → Int32} (hX : jScr g N xs) {T : lwT} {c0 s0 : Nat} (hc0 : c0 + 1 ≤ 601024) (hs0 : s0 + 6 ≤ 7293034) {i : Nat} (hi : i + 6 ≤ N) {σ : jM} (k : ∀ υ, xR υ → jY g (zL T (c0 + 1) (s0 + 6)) mLw 1000 2617 (LL i) [] υ) {th : jM → jM → Prop} (ht : ∀ n, jTh g (n + 20) mX11_transfer [.ref 0, .int (xs (i + 1)), .int (xs (i + 2))] σ (th σ)) (q1 : ∀ τ, th σ τ → (oX12_transfer [.ref 322, .int (xs (i + 1)), .int (xs (i + 2))] τ).1 ∧ ∀ w υ, (oX12_transfer [.ref 322, .int (xs (i + 1)), .int (xs (i + 2))] τ).2 w υ → (∃ x, w = some (.int x)) ∧ υ.1 322 11 = 1 ∧ xR υ) : jY g (zL T c0 s0) mLw 1000 2122 (LL i) [] σ := by
  refine jy_aloadn (j := 1) rfl (TC_48.row (show jtb tC_48 2122 = _ from rfl)).1 ?_
  refine jy_S hX 1 rfl rfl hi (by decide) (TC_48.row (show jtb tC_48 2123 = _ from rfl)).1 (TC_48.row (show jtb tC_48 2124 = _ from rfl)).1 (TC_48.row (show jtb tC_48 2126 = _ from rfl)).1 (TC_48.row (show jtb tC_48 2127 = _ from rfl)).1 (TC_48.row (show jtb tC_48 2128 = _ from rfl)).1 ?_
  refine jy_S hX 2 rfl rfl hi (by decide) (TC_48.row (show jtb tC_48 2129 = _ from rfl)).1 (TC_48.row (show jtb tC_48 2130 = _ from rfl)).1 (TC_48.row (show jtb tC_48 2132 = _ from rfl)).1 (TC_48.row (show jtb tC_48 2133 = _ from rfl)).1 (TC_48.row (show jtb tC_48 2134 = _ from rfl)).1 ?_
  refine jy_aloadn (j := 3) rfl (TC_48.row (show jtb tC_48 2135 = _ from rfl)).1 ?_
  refine jy_callSW (n' := 0 + 20 + 1) (mt' := mL_transfer) (hh := hL_transfer) (as := [.ref 0, .int (xs (i + 1)), .int (xs (i + 2)), .ref 352]) (r := []) (by decide) hc0 hs0 TC_48 (show jtb tC_48 2136 = _ from rfl) kL_269 WL_transfer rfl (by decide) rfl (by simp) (PL_transfer hEx (0 + 20) (ht _)) (fun v τ hv => ?_)
  obtain ⟨rfl, hτ⟩ := hv
  obtain ⟨p2, q2⟩ := q1 τ hτ
  refine jy_istore (j := 6) (by decide) (TC_48.row (show jtb tC_48 2139 = _ from rfl)).1 ?_
  refine jy_aloadn (j := 2) rfl (TC_48.row (show jtb tC_48 2141 = _ from rfl)).1 ?_
  refine jy_S hX 1 rfl rfl hi (by decide) (TC_48.row (show jtb tC_48 2142 = _ from rfl)).1 (TC_48.row (show jtb tC_48 2143 = _ from rfl)).1 (TC_48.row (show jtb tC_48 2145 = _ from rfl)).1 (TC_48.row (show jtb tC_48 2146 = _ from rfl)).1 (TC_48.row (show jtb tC_48 2147 = _ from rfl)).1 ?_
  refine jy_S hX 2 rfl rfl hi (by decide) (TC_48.row (show jtb tC_48 2148 = _ from rfl)).1 (TC_48.row (show jtb tC_48 2149 = _ from rfl)).1 (TC_48.row (show jtb tC_48 2151 = _ from rfl)).1 (TC_48.row (show jtb tC_48 2152 = _ from rfl)).1 (TC_48.row (show jtb tC_48 2153 = _ from rfl)).1 ?_
  refine jy_callV (n' := 0 + 5) (mt' := mX12_transfer) (as := [.int (xs (i + 1)), .int (xs (i + 2))]) (r := []) (ci := 12) (a := 322) (zL_ok (by decide) hc0 hs0) TC_48 (show jtb tC_48 2154 = _ from rfl) kL_271 WX12_transfer rfl (by decide +kernel) rfl (by decide) rfl (by simp) (CX12_transfer g 0 _ _ p2) (fun w υ hw => ?_)
  obtain ⟨⟨a, rfl⟩, e1, hR'⟩ := q2 w υ hw
  refine jy_istore (j := 7) (by decide) (TC_48.row (show jtb tC_48 2157 = _ from rfl)).1 ?_
  refine jy_aloadn (j := 2) rfl (TC_48.row (show jtb tC_48 2159 = _ from rfl)).1 ?_
  refine jy_callV (n' := 0 + 0) (mt' := mX12_thrown) (as := []) (r := []) (ci := 12) (a := 322) (zL_ok (by decide) hc0 hs0) TC_48 (show jtb tC_48 2160 = _ from rfl) kL_142 WX12_thrown rfl (by decide +kernel) rfl (by decide) rfl (by simp) (CX12_thrown g 0 [.ref 322] υ rfl) (fun w υ' hw => ?_)
  obtain ⟨rfl, rfl⟩ := hw
  rw [e1]
  refine jy_iload (x := 1) rfl (TC_48.row (show jtb tC_48 2163 = _ from rfl)).1 ?_
  refine jy_icmp (tg := 2170) (TC_48.row (show jtb tC_48 2165 = _ from rfl)).1 rfl ⟨fun _ => ?_, fun h => absurd rfl h⟩
  refine jy_iload (x := 1) rfl (TC_48.row (show jtb tC_48 2170 = _ from rfl)).1 ?_
  refine jy_if (tg := 2187) (TC_48.row (show jtb tC_48 2172 = _ from rfl)).1 rfl ⟨fun _ => ?_, fun h => absurd h (by decide)⟩
  exact jy_goto (tg := 2617) (TC_48.row (show jtb tC_48 2187 = _ from rfl)).1 rfl ((k _ hR').mono (LL67 i _ _))
