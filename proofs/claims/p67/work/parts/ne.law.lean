/-! the law: its desk is made -/
abbrev mLn (nm : String) : jMt := (({ cls := x.cls, name := nm, desc := x.desc } : MethodName), code, 3, ret)
def lPre (g : jG) (h0 : Nat) (s : State) : Prop := DC g h0 s ∧ kNw s ∧ s.heap.size = h0
def lT (g : jG) (h0 : Nat) (z : dZ) : lwT := fun below a s t => lPre g h0 s → z.2.1 below a s t
theorem lw_new {g : jG} {h0 n mc ms : Nat} {z : dZ} {nm : String} {post : Option Value → dM → Prop} (hD0 : jad g 1000 = h0) (hz5 : z.2.2.2.2 = h0) (hz3 : ∀ k, z.2.2.1 k = false) (hn0 : ∀ v τ, post v τ → v = none)
    (hroom : n + 1 ≤ z.1.frames ∧ 18 + 8 + 64 * n ≤ z.1.locals ∧ 1 + mc ≤ z.1.cells ∧ 25 + ms ≤ z.1.slots) (hc : iCon g h0 n mc ms post) (k : ∀ τ, post none τ → DW g z (mLn nm) 8 [(0, .ref 380)] [.ref 1000] τ (1 + mc) (25 + ms)) : kU g h0 z.1 (mLn nm) 0 (lT g h0 z) 0 0 0 [(0, .ref 380)] [] 0 [] := by
  intro p e s m as below meth c H locs ls X hzz hP hS hl
  intro T0 hT0 X0
  by_cases hE : lPre g h0 s
  · obtain ⟨hC, hK, hsz0⟩ := id hE
    have hts : ∀ w ∈ jGw, w.before as s = true := fun w hw => X.2.2.2.2.2.2.1 _ (List.mem_cons_of_mem _ hw)
    have hS0 : va_S (Dge h0) s.heap H locs := ⟨hS.1, fun q q1 q2 => hS.2.1 q q1 (fun z => q2 (by
      unfold kA at z
      unfold Dge
      omega)), fun l hl9 => by
        have := hS.2.2 l hl9
        unfold kA at this
        unfold Dge
        omega⟩
    obtain ⟨q1, q2, -, q4, q5⟩ := jcls_X12
    have key : W p g.1 e z.1 s m as below meth c H locs 0 0 (z.2.1 below as s) (F0 m 0 ls []) := by
      refine va_new (ci := 12) (fs := kfr (Dsh 1000).2.2) (ws := []) (A := Dge h0) X.1 X.2.1 X.2.2.2.2.2.2.1 (fun w hw => List.mem_cons_of_mem _ (q2 w hw)) tyX12 tyX12_ok X.2.2.2.2.2.1 (hts _ (show Cond.classLink "RentDivisionLaw" 37 RX12 ∈ jGw from jGw_of 297 (by decide +kernel) (by decide +kernel))) (hts _ (show Cond.instantiable RX12 25 ∈ jGw from jGw_of 298 (by decide +kernel) (by decide +kernel))) (hts _ (jGw_of 55 (by decide +kernel) (by decide +kernel))) hC.1 (fun i q hi => by simp at hi) ⟨fun i j p9 q9 hi => by simp at hi, fun i q hi => by simp at hi⟩ hS0 (fun q hq => by
        unfold Dge
        omega) q1 (by decide +kernel) (by omega) (by omega) (show decode code 0 = .ok (.new 37, 3) by decide +kernel) (fun q H1 hP1 hD1 hS1 => ?_)
      intro T1 hT1 X1
      have hsz := X1.heapSize
      rw [hT1] at hsz
      have hself : va_at g.2.1 vwCl (q, .inr (12, kfr (Dsh 1000).2.2)) H1 := hP1 0 _ (by simp)
      have hqlt : q < H1.size := vx_lt hP1 (k := 0) (q := (q, .inr (12, kfr (Dsh 1000).2.2))) (by simp)
      have hqge : h0 ≤ q := hD1.2 0 (q, .inr (12, kfr (Dsh 1000).2.2)) (by simp)
      have hq : q = h0 := by omega
      subst hq
      have hH1 : H1.size = q + 1 := by omega
      have key2 : W p g.1 e z.1 s m as below meth c H1 locs 1 25 (z.2.1 below as s) (F0 m 3 ls [.ref q]) := by
        refine lv_dup X.1 X.2.1 (show decode code 3 = .ok (.dup, 1) by decide +kernel) rfl ?_
        have h380 : jlk [(0, Value.ref 380)] (0 : Fin 4).val = some (.ref 380) := rfl
        refine lv_aload_n X.1 X.2.1 (show decode code 4 = .ok (.aload_n 0, 1) by decide +kernel) rfl (jL_lk hl h380) ?_
        have hpre : PreS s H1 (iPc g q) (Value.ref q :: [Value.ref (jad g 380)]) := ⟨fun a U f mk h => ⟨h.1, h.2.1, h.2.2.1, h.2.2.2.1.calling, kNw_call h.2.2.2.2⟩, fun U hU hW => ⟨rfl, by rw [hU]; exact hH1, by rw [hU]; exact hself, hC.moved hW (fun a h1 h2 => by rw [hU]; exact hS1.2.1 a h1 (Dge_not h2)), kNw_mv hW hK⟩⟩
        have hr : va_Run p g.1 e z.1 s m as below meth c H1 locs 1 25 mc ms (F0 m 5 ls [.ref (jad g 380), .ref q, .ref q]) [.ref q] (dQ g q kpD (fun _ => q) post (Value.ref q :: [Value.ref (jad g 380)]).toArray) (Dge q) := va_runI (As := [Value.ref (jad g 380)]) (rest := [.ref q]) (b := q) (n := 1) ⟨X.1, X.2.1, X.2.2.1, X.2.2.2.2.2.1, X.2.2.2.2.2.2.1⟩ hc
          (cwI 1 X.2.2.2.2.2.2.1 (jGI (jwd_in (jGw_of 301 WX12_init_c (by decide +kernel)))) rfl rfl rfl (hts _ (jGw_of 55 (by decide +kernel) (by decide +kernel))) (hts _ hL_39) (hts _ (jGw_of 300 (by decide +kernel) (by decide +kernel))) rfl ⟨by decide +kernel, by decide +kernel, by decide +kernel⟩ ⟨hroom.1, by show 8 + (7 + 11) + 64 * n ≤ _; omega⟩) hpre rfl rfl hl.1 rfl (lv_room (by simp [Value.category])) (show decode code 5 = .ok (.invokespecial 39, 3) by decide +kernel) ⟨hroom.2.2.1, hroom.2.2.2⟩
        intro T2 hT2 X2
        obtain ⟨v, st₀, t9, T', L', h00, X'', hL9, e1, e2, ⟨⟨v0, τ, db, hv, hp, hok, hkp, hPP, hCC⟩, hz9, hk9⟩, stp⟩ := hr T2 hT2 X2
        obtain rfl : v0 = none := hn0 _ _ hp
        have hv0 : v = none := by injection hv
        subst hv0
        rw [h00] at hz9 hk9
        have d0 : db 1000 = q := hkp 1000 rfl
        have hS9 : va_S (Dge q) s.heap T'.heap (locs ++ L') := by
          refine ⟨by have := hS1.1; rw [e1]; omega, fun x x1 x2 => ?_, fun x hx => ?_⟩
          · rw [e1, hk9 x (by have := hS1.1; omega) x2]
            exact hS1.2.1 x x1 x2
          · rcases List.mem_append.mp hx with h | h
            · exact hS1.2.2 x h
            · exact hL9 x h
        have hl9 : lv_has ls 3 (jL (Dg g db) [(0, .ref 380)]) := hl
        have hX : dX g z.2.2.2.2 (mLn nm) p s m as meth c := by
          rw [hz5]
          exact ⟨X.1, X.2.1, X.2.2.1, X.2.2.2.1, ⟨X.2.2.2.2.1, X.2.2.2.2.2.2.2.2.2⟩, X.2.2.2.2.2.1, X.2.2.2.2.2.2.1, by omega, hC⟩
        have KK := k τ hp p e s m as below meth c T'.heap (locs ++ L') ls db hX ⟨by rw [hz5]; exact hok, fun i hi => by rw [hz3] at hi; cases hi⟩ (by rw [e1]; exact hPP) (by rw [hz5]; exact hS9) hl9
        have es : [Value.ref 1000].map (jrl (Dg g db)) = [.ref q] := by
          show [Value.ref (Dadr g db 1000)] = _
          unfold Dadr
          rw [if_neg (by omega), d0]
        rw [es] at KK
        obtain ⟨t2, a1, b1⟩ := KK T' rfl X''
        exact ⟨t2, stp t2 a1, b1⟩
      exact key2 T1 hT1 X1
    obtain ⟨t, a1, b1⟩ := key T0 hT0 X0
    exact ⟨t, a1, fun _ => b1⟩
  · exact ⟨_, Steps.refl _, fun z => absurd z hE⟩
