/-! the law: its sixteen steps and its end -/
theorem QX11_bad1 {g : jG} {n : Nat} {s0 σ : jM} (hG : xG s0 σ) : jCon g (n + 4) mX11_setSetting [.ref 0, .int 1, .int 101] σ (fun v τ => v = some (.int (-2)) ∧ τ = σ) := by
  obtain ⟨R, N, K, h1, h2⟩ := hG
  obtain ⟨p1, -⟩ := xs_setSetting 1 101 σ ⟨R, N, K, h2.R h1⟩
  refine (CX11_setSetting g n [.ref 0, .int 1, .int 101] σ p1).imp (fun v τ hv => ?_)
  rcases hv with ⟨-, e1, e2⟩ | ⟨c, -⟩
  · exact ⟨e1, e2⟩
  · exact absurd c.2 (by decide)
theorem QX11_bad2 {g : jG} {n : Nat} {s0 σ : jM} {x : Int32} (hx : x = 0 ∨ x = 25) (hG : xG s0 σ) : jCon g (n + 7) mX11_passMonths [.ref 0, .int x] σ (fun v τ => v = some (.int (-2)) ∧ τ = σ) := by
  obtain ⟨R, N, K, h1, h2⟩ := hG
  obtain ⟨p1, -⟩ := xs_passMonths x σ ⟨R, N, K, h2.R h1⟩
  have hn : ¬ (1 ≤ x ∧ x ≤ 24) := by
    rcases hx with rfl | rfl <;> decide
  refine (CX11_passMonths g n [.ref 0, .int x] σ p1).imp (fun v τ hv => ?_)
  rcases hv with ⟨-, e1, e2⟩ | ⟨c, -⟩ | ⟨c, -⟩
  · exact ⟨e1, e2⟩
  · exact absurd c hn
  · exact absurd c hn
def lwTb (h0 b : Nat) : lwT := fun below a s t => a = #[Value.ref b] ∧ s.heap.size = h0 → lw_Z below #[Value.ref b] s t
def lz (h0 b : Nat) : dZ := (room_1, lwTb h0 b, fun _ => false, fun _ => 0, h0)
theorem jcmp_ne0 {A B : Prop} {x : Int32} : jcmp .ne x x A B = B := by
  simp [jcmp]
section ENF
variable {g : jG} {h0 b : Nat} {nm : String}
theorem lw_last {pc c0 s0 : Nat} {L : List (Nat × Value)} {σ : dM} (d : decode code pc = .ok (.ireturn, 1)) (hc : c0 ≤ 600086 ∧ s0 ≤ 7301442) : DW g (lz h0 b) (mLn nm) pc L [.int 1] σ c0 s0 := by
  refine DW.wide (c1 := 600086) (s1 := 7301442) hc.1 hc.2 ?_
  intro p e s m as below meth c H locs ls da X hD hP hS hl
  intro T0 hT0 X0
  by_cases h : as = #[Value.ref b] ∧ s.heap.size = h0
  · obtain ⟨rfl, hsz⟩ := id h
    have k := lw_ret (l := g.1) (e := e) (s := s) (m := m) (below := below) (meth := meth) (c := c) (b := b) X.1 X.2.1 X.2.2.2.1 X.2.2.2.2.1.1 (pc := pc) (H := H) (ls := ls) d
    obtain ⟨t, a1, b1⟩ := va_forget (locs := locs) (fun q hq => by
      have h9 : h0 ≤ q.base := hS.2.2 q hq
      omega) k T0 hT0 X0
    exact ⟨t, a1, fun _ => b1⟩
  · exact ⟨_, Steps.refl _, fun z => absurd z h⟩
theorem hzr : (lz h0 b).1.frames = 2048 ∧ (lz h0 b).1.locals = 84000 ∧ (lz h0 b).1.cells = 600086 ∧ (lz h0 b).1.slots = 7301442 ∧ ∀ k, (lz h0 b).2.2.1 k = false := ⟨rfl, rfl, rfl, rfl, fun _ => rfl⟩
/-- isSame in the law -/
theorem lw_same {pc i c0 c1 : Nat} {L : List (Nat × Value)} {σ : dM} {s0 : jM} {N M K mo : Nat} (hE : dEs g) (h : rZ σ s0 N M K mo) (hcl : Dcl0 σ) (hL : L = [(0, .ref 380), (1, .ref 1000)] ∨ L = [(0, .ref 380), (1, .ref 1000), (2, .int (nI i))]) (hc : c0 + 1100 ≤ 600086 ∧ c1 + 5500 ≤ 7301442) (d : decode code pc = .ok (.invokevirtual 46, 3))
    (k : ∀ τ s1, rZ τ s1 N M K mo → Dcl0 τ → DW g (lz h0 b) (mLn nm) (pc + 3) L [.int 1] τ (c0 + 1100) (c1 + 5500)) : DW g (lz h0 b) (mLn nm) pc L [.ref 1000] σ c0 c1 := by
  obtain ⟨z1, z2, z3, z4, z5⟩ := hzr (h0 := h0) (b := b)
  have hA := h.1.1.1.2.2.1.1
  have hn : ∀ a, 1100 ≤ a → DnL a L = true := fun a ha => by
    have y1 : ¬ 380 = a := by omega
    have y2 : ¬ 1000 = a := by omega
    rcases hL with rfl | rfl <;> simp [DnL, y1, y2]
  refine dr_callV (idx := 46) (mt' := mX12_isSame) (tl := [1126, 1127, 1128, 1129, 1120, 1121, 1401, 1115, 1116, 1117, 1118, 1119, 1123, 1210, 1311, 1124, 1310, 1312, 1108, 1106, 1107, 1109]) (n' := 9) (mc := 1100) (ms := 5500) (ci := 12) (T := TX12) (N := 25) (a := 1000) (as := []) ⟨by omega, ?_, by omega, by omega⟩ (by simp [Dfree, Dnr, z5, hn]) d hL_46 WX12_isSame rfl (by decide +kernel) hA rfl rfl (by simp) (EX12_isSame g (lz h0 b).2.2.2.2 0 hE s0 [.ref 1000] σ ⟨rfl, N, M, K, h.1, h.2.1⟩) ?_
  · rw [z2]
    show 8 + (mX12_isSame.2.2.1 + 11) + 64 * 9 ≤ 84000
    decide
  · rintro v τ ⟨rfl, υ, q1, rfl⟩
    have hf := dk_f h.1.1.1
    have hN := h.1.1.1.1.1
    have hM := h.1.1.1.1.2
    rw [hf.1.1, hf.1.2, nI_clamp (by omega), nI_clamp (by omega)]
    obtain ⟨r1, r2⟩ := rZ_pST h hcl
    exact k _ υ (rZ_0 r1 q1.1 q1.2) r2
/-- does in the law -/
theorem lw_does {pc i c0 c1 mo : Nat} {σ : dM} {s0 : jM} {N M K : Nat} {x : Int32} (hE : dEs g) (h : rZ σ s0 N M K mo) (hmo : mo ≤ 290) (hc : c0 + 3200 ≤ 600086 ∧ c1 + 16000 ≤ 7301442) (d : decode code pc = .ok (.invokevirtual 56, 3))
    (k : ∀ τ s1 mo', mo' ≤ mo + 3 → rZ τ s1 N M K mo' → DW g (lz h0 b) (mLn nm) (pc + 3) [(0, .ref 380), (1, .ref 1000), (2, .int (nI i))] [.int 1] τ (c0 + 3200) (c1 + 16000)) : DW g (lz h0 b) (mLn nm) pc [(0, .ref 380), (1, .ref 1000), (2, .int (nI i))] [.int x, .ref 1000] σ c0 c1 := by
  obtain ⟨z1, z2, z3, z4, z5⟩ := hzr (h0 := h0) (b := b)
  have hA := h.1.1.1.2.2.1.1
  have hn : ∀ a, 1100 ≤ a → DnL a [(0, .ref 380), (1, .ref 1000), (2, .int (nI i))] = true := fun a ha => by
    have y1 : ¬ 380 = a := by omega
    have y2 : ¬ 1000 = a := by omega
    simp [DnL, y1, y2]
  refine dr_callV (idx := 56) (mt' := mX12_does) (tl := [1106, 1107, 1108, 1109, 1115, 1116, 1117, 1118, 1119, 1120, 1121, 1122, 1123, 1124, 1125, 1126, 1127, 1128, 1129, 1130, 1131, 1132, 1210, 1310, 1311, 1312, 1313, 1401]) (n' := 9) (mc := 3200) (ms := 16000) (ci := 12) (T := TX12) (N := 25) (a := 1000) (as := [.int x]) ⟨by omega, ?_, by omega, by omega⟩ (by simp [Dfree, Dnr, z5, hn]) d hL_56 WX12_does rfl (by decide +kernel) hA rfl rfl (by simp) (EX12_does g (lz h0 b).2.2.2.2 0 hE s0 N M K mo [.ref 1000, .int x] σ ⟨rfl, h, hmo⟩) ?_
  · rw [z2]
    show 8 + (mX12_does.2.2.1 + 11) + 64 * 9 ≤ 84000
    decide
  · rintro v τ ⟨rfl, s1, mo', q1, q2, q3⟩
    exact k τ s1 mo' q1 q3
/-- the three refusals at the end -/
theorem lw_fin {c0 c1 mo : Nat} {σ : dM} {s0 : jM} {N M K : Nat} (hEs : jEs g) (h : rZ σ s0 N M K mo) (hc : c0 ≤ 600086 ∧ c1 ≤ 7301442) : DW g (lz h0 b) (mLn nm) 63 [(0, .ref 380), (1, .ref 1000)] [] σ c0 c1 := by
  obtain ⟨z1, z2, z3, z4, z5⟩ := hzr (h0 := h0) (b := b)
  have hA := h.1.1.1.2.2.1.1
  have hR := h.1.1.1.2.2.2.1.1
  have hG := h.1.2.1
  have eS : DuS σ (DS σ) = σ := rfl
  have loc : ∀ ml n, ml ≤ 20 → n ≤ 7 → 8 + (ml + 11) + 64 * n ≤ 84000 := fun ml n _ _ => by omega
  refine dr_aloadn (j := 1) rfl (show decode code 63 = .ok (.aload_n 1, 1) by decide +kernel) ?_
  refine dr_getr (f := 0) (v := 0) (mt := mLn nm) qL_60 (by decide +kernel) hA hR (show decode code 64 = .ok (.getfield 60, 3) by decide +kernel) ?_
  refine dr_iconst (v := 1) rfl (show decode code 67 = .ok (.iconst 1, 1) by decide +kernel) ?_
  refine dr_bipush (v := 101) rfl (show decode code 68 = .ok (.bipush 101, 2) by decide +kernel) ?_
  refine dr_callC (idx := 64) (mt' := mX11_setSetting) (n' := 4) (ci := 11) (T := TX11) (N := 9) (a := 0) (as := [.int 1, .int 101]) (r := []) ⟨by omega, by rw [z2]; exact loc _ 4 (by decide) (by omega), by omega, by omega⟩ (show decode code 70 = .ok (.invokevirtual 64, 3) by decide +kernel) hL_64 WX11_setSetting rfl (by decide +kernel) rfl rfl (by simp) rfl (QX11_bad1 (n := 0) hG) ?_
  rintro v τ ⟨rfl, rfl⟩
  refine ⟨rfl, ?_⟩
  rw [eS]
  show DW g (lz h0 b) (mLn nm) 73 _ [.int (-2)] σ c0 c1
  refine dr_bipush (v := -2) rfl (show decode code 73 = .ok (.bipush (-2), 2) by decide +kernel) ?_
  refine dr_icmp (cd := .ne) (o := 34) (tg := 109) (show decode code 75 = .ok (.if_icmp .ne 34, 3) by decide +kernel) (by decide) ?_
  show jcmp .ne (-2) (-2) _ _
  rw [jcmp_ne0]
  refine dr_aloadn (j := 1) rfl (show decode code 78 = .ok (.aload_n 1, 1) by decide +kernel) ?_
  refine dr_getr (f := 0) (v := 0) (mt := mLn nm) qL_60 (by decide +kernel) hA hR (show decode code 79 = .ok (.getfield 60, 3) by decide +kernel) ?_
  refine dr_iconst (v := 0) rfl (show decode code 82 = .ok (.iconst 0, 1) by decide +kernel) ?_
  refine dr_callC (idx := 68) (mt' := mX11_passMonths) (n' := 7) (ci := 11) (T := TX11) (N := 9) (a := 0) (as := [.int 0]) (r := []) ⟨by omega, by rw [z2]; exact loc _ 7 (by decide) (by omega), by omega, by omega⟩ (show decode code 83 = .ok (.invokevirtual 68, 3) by decide +kernel) hL_68 WX11_passMonths rfl (by decide +kernel) rfl rfl (by simp) rfl (QX11_bad2 (n := 0) (Or.inl rfl) hG) ?_
  rintro v τ ⟨rfl, rfl⟩
  refine ⟨rfl, ?_⟩
  rw [eS]
  show DW g (lz h0 b) (mLn nm) 86 _ [.int (-2)] σ c0 c1
  refine dr_bipush (v := -2) rfl (show decode code 86 = .ok (.bipush (-2), 2) by decide +kernel) ?_
  refine dr_icmp (cd := .ne) (o := 21) (tg := 109) (show decode code 88 = .ok (.if_icmp .ne 21, 3) by decide +kernel) (by decide) ?_
  show jcmp .ne (-2) (-2) _ _
  rw [jcmp_ne0]
  refine dr_aloadn (j := 1) rfl (show decode code 91 = .ok (.aload_n 1, 1) by decide +kernel) ?_
  refine dr_getr (f := 0) (v := 0) (mt := mLn nm) qL_60 (by decide +kernel) hA hR (show decode code 92 = .ok (.getfield 60, 3) by decide +kernel) ?_
  refine dr_bipush (v := 25) rfl (show decode code 95 = .ok (.bipush 25, 2) by decide +kernel) ?_
  refine dr_callC (idx := 68) (mt' := mX11_passMonths) (n' := 7) (ci := 11) (T := TX11) (N := 9) (a := 0) (as := [.int 25]) (r := []) ⟨by omega, by rw [z2]; exact loc _ 7 (by decide) (by omega), by omega, by omega⟩ (show decode code 97 = .ok (.invokevirtual 68, 3) by decide +kernel) hL_68 WX11_passMonths rfl (by decide +kernel) rfl rfl (by simp) rfl (QX11_bad2 (n := 0) (Or.inr rfl) hG) ?_
  rintro v τ ⟨rfl, rfl⟩
  refine ⟨rfl, ?_⟩
  rw [eS]
  show DW g (lz h0 b) (mLn nm) 100 _ [.int (-2)] σ c0 c1
  refine dr_bipush (v := -2) rfl (show decode code 100 = .ok (.bipush (-2), 2) by decide +kernel) ?_
  refine dr_icmp (cd := .ne) (o := 7) (tg := 109) (show decode code 102 = .ok (.if_icmp .ne 7, 3) by decide +kernel) (by decide) ?_
  show jcmp .ne (-2) (-2) _ _
  rw [jcmp_ne0]
  refine dr_iconst (v := 1) rfl (show decode code 105 = .ok (.iconst 1, 1) by decide +kernel) ?_
  refine dr_goto (o := 4) (tg := 110) (show decode code 106 = .ok (.goto 4, 3) by decide +kernel) (by decide) ?_
  exact lw_last (show decode code 110 = .ok (.ireturn, 1) by decide +kernel) hc
end ENF
