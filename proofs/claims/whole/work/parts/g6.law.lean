/-! the law's loop -/
def lwOff : Array Int := #[271, 344, 369, 382, 395, 408, 433, 458, 471, 484, 509, 522, 535, 591, 647, 715, 790, 803, 816, 884, 897, 953, 966, 979, 1063, 1119, 1132, 1188, 1244, 1300, 1313, 1338, 1363, 1431, 1487, 1543, 1599, 1612, 1680, 1693, 1749, 1762, 1837, 1850, 1927, 1995, 2008, 2064, 2077, 2145, 2170, 2195, 2244, 2309, 2346, 2371, 2396, 2433, 2446, 2483, 2508, 2521, 2534, 2547]
def lwSt : List Nat := [316, 389, 414, 427, 440, 453, 478, 503, 516, 529, 554, 567, 580, 636, 692, 760, 835, 848, 861, 929, 942, 998, 1011, 1024, 1108, 1164, 1177, 1233, 1289, 1345, 1358, 1383, 1408, 1476, 1532, 1588, 1644, 1657, 1725, 1738, 1794, 1807, 1882, 1895, 1972, 2040, 2053, 2109, 2122, 2190, 2215, 2240, 2289, 2354, 2391, 2416, 2441, 2478, 2491, 2528, 2553, 2566, 2579, 2592]
theorem dSw : decode mLw.2.1 45 = .ok (.tableswitch 2572 0 63 lwOff, 271) := by decide +kernel
theorem lwOS : ∀ m, m < 64 → lwOff[m]? = some ((lwSt.getD m 0 : Int) - 45) := by decide +kernel
def tLh : jTb := [(28, .iload 5, 30, 0, 0), (30, .aload_n 0, 31, 0, 0), (31, .arraylength, 32, 0, 0), (32, .bipush 6, 34, 0, 6), (34, .isub, 35, 0, 0), (35, .if_icmp .gt 2588, 38, 2623, 0), (38, .aload_n 0, 39, 0, 0), (39, .iload 5, 41, 0, 0), (41, .iaload, 42, 0, 0), (42, .bipush 63, 44, 0, 63), (44, .iand, 45, 0, 0), (2617, .iinc 5 6, 2620, 0, 6), (2620, .goto (-2592), 2623, 28, 0), (2623, .iconst 1, 2624, 0, 1), (2624, .ireturn, 2625, 0, 0)]
theorem TLh : jT mLw [] [] tLh := jT.of (cs := []) (fun _ h => absurd h List.not_mem_nil) (fun _ h => absurd h List.not_mem_nil) (fun _ h => absurd h List.not_mem_nil) (by decide +kernel) (by decide +kernel)
theorem and63 (x : Int32) : ∃ m, m < 64 ∧ x &&& 63 = nI m := by
  refine ⟨(x.toBitVec &&& 63#32).toNat, ?_, ?_⟩
  · rw [BitVec.toNat_and]
    exact Nat.lt_succ_of_le Nat.and_le_right
  · exact Int32.toBitVec_inj.mp (by simp [nI])
theorem lw_le {i N : Nat} (h : nI i ≤ nI N - 6) (hi : i ≤ 4000) (hN : N ≤ 3072) : i + 6 ≤ N := by
  by_cases c : 6 ≤ N
  · have e : nI N - 6 = nI (N - 6) := nI_sub (a := N) (b := 6) c
    rw [e] at h
    have := (nI_leI (by omega) (by omega)).mp h
    omega
  · exfalso
    have h0 : (0 : Int32) ≤ nI i := (NL_0.1 i (by omega)).mpr (Nat.zero_le _)
    have h2 : nI N - 6 < 0 := by
      have hN5 : N = 0 ∨ N = 1 ∨ N = 2 ∨ N = 3 ∨ N = 4 ∨ N = 5 := by omega
      rcases hN5 with rfl | rfl | rfl | rfl | rfl | rfl <;> decide
    exact absurd (Int32.le_trans h0 h) (Int32.not_le.mpr h2)
theorem LC_all {g : jG} (hEx : jEx g) {N : Nat} {xs : Nat → Int32} (hX : jScr g N xs) {T : lwT} {c0 s0 : Nat} (hc0 : c0 + 1 ≤ 601024) (hs0 : s0 + 6 ≤ 7293034) {i : Nat} (hi : i + 6 ≤ N) {σ : jM} (hR : xR σ) (k : ∀ υ, xR υ → jY g (zL T (c0 + 1) (s0 + 6)) mLw 1000 2617 (LL i) [] υ) : ∀ m, m < 64 → jY g (zL T c0 s0) mLw 1000 (lwSt.getD m 0) (LL i) [] σ
  | 0, _ => jY.widen (Nat.le_succ c0) (Nat.le_add_right s0 6) (LC_0 hX hc0 hs0 hi hR k)
  | 1, _ => jY.widen (Nat.le_succ c0) (Nat.le_add_right s0 6) (LC_1 hEx.1 hX hc0 hs0 hi hR k)
  | 2, _ => jY.widen (Nat.le_succ c0) (Nat.le_add_right s0 6) (LC_2 hX hc0 hs0 hi hR k)
  | 3, _ => jY.widen (Nat.le_succ c0) (Nat.le_add_right s0 6) (LC_3 hX hc0 hs0 hi hR k)
  | 4, _ => jY.widen (Nat.le_succ c0) (Nat.le_add_right s0 6) (LC_4 hX hc0 hs0 hi hR k)
  | 5, _ => jY.widen (Nat.le_succ c0) (Nat.le_add_right s0 6) (LC_5 hX hc0 hs0 hi hR k)
  | 6, _ => jY.widen (Nat.le_succ c0) (Nat.le_add_right s0 6) (LC_6 hX hc0 hs0 hi hR k)
  | 7, _ => jY.widen (Nat.le_succ c0) (Nat.le_add_right s0 6) (LC_7 hX hc0 hs0 hi hR k)
  | 8, _ => jY.widen (Nat.le_succ c0) (Nat.le_add_right s0 6) (LC_8 hX hc0 hs0 hi hR k)
  | 9, _ => jY.widen (Nat.le_succ c0) (Nat.le_add_right s0 6) (LC_9 hX hc0 hs0 hi hR k)
  | 10, _ => jY.widen (Nat.le_succ c0) (Nat.le_add_right s0 6) (LC_10 hX hc0 hs0 hi hR k)
  | 11, _ => jY.widen (Nat.le_succ c0) (Nat.le_add_right s0 6) (LC_11 hX hc0 hs0 hi hR k)
  | 12, _ => LC_12 hEx hX hc0 hs0 hi hR k
  | 13, _ => LC_13 hEx hX hc0 hs0 hi hR k
  | 14, _ => LC_14 hEx hX hc0 hs0 hi hR k
  | 15, _ => LC_15 hEx hX hc0 hs0 hi hR k
  | 16, _ => jY.widen (Nat.le_succ c0) (Nat.le_add_right s0 6) (LC_16 hX hc0 hs0 hi hR k)
  | 17, _ => jY.widen (Nat.le_succ c0) (Nat.le_add_right s0 6) (LC_17 hX hc0 hs0 hi hR k)
  | 18, _ => LC_18 hEx hX hc0 hs0 hi hR k
  | 19, _ => jY.widen (Nat.le_succ c0) (Nat.le_add_right s0 6) (LC_19 hX hc0 hs0 hi hR k)
  | 20, _ => LC_20 hEx hX hc0 hs0 hi hR k
  | 21, _ => jY.widen (Nat.le_succ c0) (Nat.le_add_right s0 6) (LC_21 hX hc0 hs0 hi hR k)
  | 22, _ => jY.widen (Nat.le_succ c0) (Nat.le_add_right s0 6) (LC_22 hX hc0 hs0 hi hR k)
  | 23, _ => LC_23 hEx hX hc0 hs0 hi hR k
  | 24, _ => LC_24 hEx hX hc0 hs0 hi hR k
  | 25, _ => jY.widen (Nat.le_succ c0) (Nat.le_add_right s0 6) (LC_25 hX hc0 hs0 hi hR k)
  | 26, _ => LC_26 hEx hX hc0 hs0 hi hR k
  | 27, _ => LC_27 hEx hX hc0 hs0 hi hR k
  | 28, _ => LC_28 hEx hX hc0 hs0 hi hR k
  | 29, _ => jY.widen (Nat.le_succ c0) (Nat.le_add_right s0 6) (LC_29 hX hc0 hs0 hi hR k)
  | 30, _ => jY.widen (Nat.le_succ c0) (Nat.le_add_right s0 6) (LC_30 hX hc0 hs0 hi hR k)
  | 31, _ => jY.widen (Nat.le_succ c0) (Nat.le_add_right s0 6) (LC_31 hX hc0 hs0 hi hR k)
  | 32, _ => LC_32 hEx hX hc0 hs0 hi hR k
  | 33, _ => LC_33 hEx hX hc0 hs0 hi hR k
  | 34, _ => LC_34 hEx hX hc0 hs0 hi hR k
  | 35, _ => LC_35 hEx hX hc0 hs0 hi hR k
  | 36, _ => jY.widen (Nat.le_succ c0) (Nat.le_add_right s0 6) (LC_36 hX hc0 hs0 hi hR k)
  | 37, _ => LC_37 hEx hX hc0 hs0 hi hR k
  | 38, _ => jY.widen (Nat.le_succ c0) (Nat.le_add_right s0 6) (LC_38 hX hc0 hs0 hi hR k)
  | 39, _ => LC_39 hEx hX hc0 hs0 hi hR k
  | 40, _ => jY.widen (Nat.le_succ c0) (Nat.le_add_right s0 6) (LC_40 hX hc0 hs0 hi hR k)
  | 41, _ => LC_41 hEx hX hc0 hs0 hi hR k
  | 42, _ => jY.widen (Nat.le_succ c0) (Nat.le_add_right s0 6) (LC_42 hX hc0 hs0 hi hR k)
  | 43, _ => LC_43 hEx hX hc0 hs0 hi hR k
  | 44, _ => LC_44 hEx hX hc0 hs0 hi hR k
  | 45, _ => jY.widen (Nat.le_succ c0) (Nat.le_add_right s0 6) (LC_45 hX hc0 hs0 hi hR k)
  | 46, _ => LC_46 hEx hX hc0 hs0 hi hR k
  | 47, _ => jY.widen (Nat.le_succ c0) (Nat.le_add_right s0 6) (LC_47 hX hc0 hs0 hi hR k)
  | 48, _ => LC_48 hEx hX hc0 hs0 hi hR k
  | 49, _ => jY.widen (Nat.le_succ c0) (Nat.le_add_right s0 6) (LC_49 hX hc0 hs0 hi hR k)
  | 50, _ => jY.widen (Nat.le_succ c0) (Nat.le_add_right s0 6) (LC_50 hX hc0 hs0 hi hR k)
  | 51, _ => jY.widen (Nat.le_succ c0) (Nat.le_add_right s0 6) (LC_51 hX hc0 hs0 hi hR k)
  | 52, _ => jY.widen (Nat.le_succ c0) (Nat.le_add_right s0 6) (LC_52 hX hc0 hs0 hi hR k)
  | 53, _ => jY.widen (Nat.le_succ c0) (Nat.le_add_right s0 6) (LC_53 hX hc0 hs0 hi hR k)
  | 54, _ => jY.widen (Nat.le_succ c0) (Nat.le_add_right s0 6) (LC_54 hX hc0 hs0 hi hR k)
  | 55, _ => jY.widen (Nat.le_succ c0) (Nat.le_add_right s0 6) (LC_55 hX hc0 hs0 hi hR k)
  | 56, _ => jY.widen (Nat.le_succ c0) (Nat.le_add_right s0 6) (LC_56 hX hc0 hs0 hi hR k)
  | 57, _ => jY.widen (Nat.le_succ c0) (Nat.le_add_right s0 6) (LC_57 hX hc0 hs0 hi hR k)
  | 58, _ => jY.widen (Nat.le_succ c0) (Nat.le_add_right s0 6) (LC_58 hX hc0 hs0 hi hR k)
  | 59, _ => jY.widen (Nat.le_succ c0) (Nat.le_add_right s0 6) (LC_59 hX hc0 hs0 hi hR k)
  | 60, _ => jY.widen (Nat.le_succ c0) (Nat.le_add_right s0 6) (LC_60 hX hc0 hs0 hi hR k)
  | 61, _ => jY.widen (Nat.le_succ c0) (Nat.le_add_right s0 6) (LC_61 hX hc0 hs0 hi hR k)
  | 62, _ => jY.widen (Nat.le_succ c0) (Nat.le_add_right s0 6) (LC_62 hX hc0 hs0 hi hR k)
  | 63, _ => jY.widen (Nat.le_succ c0) (Nat.le_add_right s0 6) (LC_63 hX hc0 hs0 hi hR k)
  | m + 64, h => absurd h (by omega)
section LW6
variable {g : jG} {N : Nat} {xs : Nat → Int32} {T : lwT} {c0 s0 i : Nat} {σ : jM}
theorem law_head (hX : jScr g N xs) (hi : i ≤ 4000) (k1 : jY g (zL T c0 s0) mLw 1000 2623 (LL i) [] σ) (k2 : i + 6 ≤ N → jY g (zL T c0 s0) mLw 1000 38 (LL i) [] σ) : jY g (zL T c0 s0) mLw 1000 28 (LL i) [] σ := by
  refine jy_iload (x := nI i) rfl (TLh.row (show jtb tLh 28 = _ from rfl)).1 ?_
  refine jy_aloadn (j := 0) rfl (TLh.row (show jtb tLh 30 = _ from rfl)).1 ?_
  refine jy_slen hX (TLh.row (show jtb tLh 31 = _ from rfl)).1 ?_
  refine jy_bipush (v := 6) rfl (TLh.row (show jtb tLh 32 = _ from rfl)).1 ?_
  refine jy_isub (TLh.row (show jtb tLh 34 = _ from rfl)).1 ?_
  exact jy_icmp (tg := 2623) (TLh.row (show jtb tLh 35 = _ from rfl)).1 rfl ⟨fun _ => k1, fun h => k2 (lw_le h hi hX.1)⟩
theorem law_step (hEx : jEx g) (hX : jScr g N xs) (hc0 : c0 + 1 ≤ 601024) (hs0 : s0 + 6 ≤ 7293034) (hi : i + 6 ≤ N) (hR : xR σ) (k : ∀ υ, xR υ → jY g (zL T (c0 + 1) (s0 + 6)) mLw 1000 2617 (LL i) [] υ) : jY g (zL T c0 s0) mLw 1000 38 (LL i) [] σ := by
  have h0 := hX.1
  refine jy_aloadn (j := 0) rfl (TLh.row (show jtb tLh 38 = _ from rfl)).1 ?_
  refine jy_iload (x := nI i) rfl (TLh.row (show jtb tLh 39 = _ from rfl)).1 ?_
  refine jy_sld hX (jin_nI (by omega) (by omega)) (TLh.row (show jtb tLh 41 = _ from rfl)).1 ?_
  refine jy_bipush (v := 63) rfl (TLh.row (show jtb tLh 42 = _ from rfl)).1 ?_
  refine jy_iand (TLh.row (show jtb tLh 44 = _ from rfl)).1 ?_
  obtain ⟨m, hm, e⟩ := and63 (xs (nI i).toNatClampNeg)
  rw [e]
  have hj := jin_nI (k := m) (n := 64) hm (by decide)
  have hz : ((nI m).toInt - 0).toNat = m := by
    have e2 : (nI m).toNatClampNeg = m := nI_clamp (by omega)
    have : ((nI m).toInt).toNat = m := e2
    omega
  exact jy_tIn dSw (by have := hj.1; omega) (by have := hj.2; omega) (by rw [hz]; exact lwOS m hm) (tgt := lwSt.getD m 0) (by omega) (LC_all hEx hX hc0 hs0 hi hR k m hm)
theorem law_back (k : jY g (zL T c0 s0) mLw 1000 28 (LL (i + 6)) [] σ) : jY g (zL T c0 s0) mLw 1000 2617 (LL i) [] σ := by
  refine jy_iinc (v := 6) (x := nI i) rfl rfl (by decide) (TLh.row (show jtb tLh 2617 = _ from rfl)).1 ?_
  have e : nI i + 6 = nI (i + 6) := nI_add i 6
  rw [e]
  exact jy_goto (tg := 28) (TLh.row (show jtb tLh 2620 = _ from rfl)).1 rfl k
theorem law_loop (hEx : jEx g) (hX : jScr g N xs) (hend : ∀ i σ, jY g (zL T 601024 7293034) mLw 1000 2623 (LL i) [] σ) : ∀ (f i c0 s0 : Nat) (σ : jM), xR σ → N < i + 6 * f + 6 → i ≤ 3999 → c0 + f ≤ 601024 → s0 + 6 * f ≤ 7293034 → jY g (zL T c0 s0) mLw 1000 28 (LL i) [] σ
  | 0, i, c0, s0, σ, hR, h1, h2, h3, h4 => law_head hX (by omega) (jY.widen (by omega) (by omega) (hend i σ)) (fun h => absurd h (by omega))
  | f + 1, i, c0, s0, σ, hR, h1, h2, h3, h4 => law_head hX (by omega) (jY.widen (by omega) (by omega) (hend i σ)) (fun h => law_step hEx hX (by omega) (by omega) h hR (fun υ hυ => law_back (law_loop hEx hX hend f (i + 6) (c0 + 1) (s0 + 6) υ hυ (by omega) (by have := hX.1; omega) (by omega) (by omega))))
end LW6
/-- what is owed at the law's end: of a start with the script as its argument, whose cells are all new -/
def lwTg (b : Nat) (A : Nat → Prop) : lwT := fun below a s t => a = #[Value.ref b] ∧ (∀ q, A q → s.heap.size ≤ q) → lw_Z below #[Value.ref b] s t
theorem law_end {g : jG} {b i : Nat} {σ : jM} : jY g (zL (lwTg b (jA g)) 601024 7293034) mLw 1000 2623 (LL i) [] σ := by
  refine jy_iconst (v := 1) rfl (TLh.row (show jtb tLh 2623 = _ from rfl)).1 ?_
  intro p e s m as below meth c H locs ls XK hP hS hl
  have X := XK.1
  by_cases h : as = #[Value.ref b] ∧ ∀ q, jA g q → s.heap.size ≤ q
  · obtain ⟨rfl, hA⟩ := h
    have k := lw_ret (l := g.1) (e := e) (m := m) (below := below) (c := c) (b := b) (d0 := s.drawn) (Drawn.sameBut.refl s.drawn lw_cs) X.1 X.2.1 X.2.2.2.1 X.2.2.2.2.1 (pc := 2624) (H := H) (ls := ls) (TLh.row (show jtb tLh 2624 = _ from rfl)).1
    intro T0 hT0 X0
    obtain ⟨t, a1, b1⟩ := va_forget (fun q hq => hA _ (hS.2.2 q hq)) (W.base k) T0 hT0 X0
    exact ⟨t, a1, fun _ => b1⟩
  · intro T0 hT0 X0
    exact ⟨_, Steps.refl _, fun z => absurd z h⟩
