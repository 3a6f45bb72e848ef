/-! throwing: a text by a narrow index; a callee that throws -/
section XT2
variable {g : jG} {mt : jMt} {n : Nat} {pc : Nat} {L : List (Nat × Value)} {st : List Value} {σ : jM} {P : jM → Prop}
theorem jy_throwS (hX : jEx g) (hmt : mt.1.cls = RX11) {i ix : Nat} (hi : i < 17) (hc : (stT.getD i ("", 0, "")).1 = RX11) (hx : (stT.getD i ("", 0, "")).2.1 = ix) (hn : 10 ≤ n) (hP : P σ) (hst : (st.map fun v => v.category).sum ≤ 8)
    (d0 : decode mt.2.1 pc = .ok (.new 166, 3)) (d3 : decode mt.2.1 (pc + 3) = .ok (.dup, 1)) (d4 : decode mt.2.1 (pc + 4) = .ok (.ldc ix, 2)) (d6 : decode mt.2.1 (pc + 6) = .ok (.invokespecial 170, 3)) (d9 : decode mt.2.1 (pc + 9) = .ok (.athrow, 1)) : jY g (jzX g n P) mt n pc L st σ := by
  intro p e s m as below meth c H locs ls XK hP0 hS hl
  obtain ⟨X, hex⟩ := XK
  have hE := hX.1
  have hdc := hX.2 s s.heap X.2.2.2.2.2.2.2.2.2.2.2
  have hts : ∀ w ∈ jGw, w.before as s = true := fun w hw => X.2.2.2.2.2.2.1 _ (List.mem_cons_of_mem _ hw)
  have hEp := hE.1 s s.heap X.2.2.2.2.2.2.2.2.2.2.2
  have hown : s.vm.findClass RX11 = some m.cls := by rw [← hmt]; exact X.2.2.2.2.2.1
  have hR := hEp.2.1 i hi
  rw [hc, hx] at hR
  refine vx_throwS (names := xNm) (A := jA g) X.1 X.2.1 hE.2 hown (by decide +kernel) (by decide +kernel) (hts _ xL) (hts _ xI) hR (fun w hw => ?_) (fun w hw => ?_) hEp.2.2.2.2.1 hEp.2.2.2.2.2 hS (hl.1.trans X.2.2.1.symm) d0 d3 d4 d6 d9 (fun x hx => (hex x hx).elim) ?_ ?_ (Nat.le_refl _) (Nat.le_refl _) X.2.2.2.2.1 (fun t hvm hz hk => ?_) hS.2.2 (Nat.le_refl _) (Nat.le_refl _)
  · rcases xB4 w hw with h | h
    · exact hts w (List.mem_filter.mpr ⟨xA4 w hw, h⟩)
    · have h1 := hdc w h
      exact va_tabs (xDt w h) rfl h1
  · rcases List.mem_cons.mp hw with rfl | hw
    · exact xG xL
    · rcases List.mem_cons.mp hw with rfl | hw
      · exact xG xI
      · exact xB5 w hw
  · show xNm.length + 3 < n
    have : xNm.length = 2 := rfl
    omega
  · have e1 : ((st.map (jrl g)).map fun v => v.category).sum = (st.map fun v => v.category).sum := by simp [jrl_cat, Function.comp_def]
    rw [e1]
    have : xNm.length = 2 := rfl
    show _ ≤ 64 * n
    omega
  · exact ⟨rfl, ⟨σ, hP, va_P.kept hP0 (fun k q hk2 => hk _ (hP0 k q hk2).lt)⟩, Nat.le_trans hS.1 hz, fun q h1 h2 => (hk q (Nat.lt_of_lt_of_le h1 hS.1)).trans (hS.2.1 q h1 h2)⟩
theorem jy_callX {mt' : jMt} {n' na idx nx tg ci a N : Nat} {kk : Int32} {F : List (Nat × Nat × Nat × Nat)} {C2 : List (Nat × Int64)} {tb : jTb} {as r : List Value} {T : u_T} (hT : jT mt F C2 tb) (e : jtb tb pc = some (.invokevirtual idx, nx, tg, kk)) (hlk : Cond.methodLink mt.1.cls idx mt'.1 ∈ jGw) (hm : jMv mt' na) (hcl : vwCl[ci]? = some (mt'.1.cls, T, N)) (ha : jisO a ci = true) (hs : st = as.reverse ++ .ref a :: r) (hn : n' < n) (hna : as.length = na) (hst : (r.map fun v => v.category).sum ≤ 8)
    (hc : jTh g n' mt' (.ref a :: as) σ P) : jY g (jzX g n P) mt n pc L st σ := by
  obtain ⟨hd, rfl⟩ := hT.row e
  obtain ⟨⟨hi, hco, hmh, hml⟩, him, hse⟩ := hm
  obtain ⟨h1, h2, h3⟩ := jisO_spec ha
  intro p e s m as0 below meth c H locs ls XK hP hS hl
  obtain ⟨X, hex⟩ := XK
  have hM := hc X.2.2.2.2.2.2.2.1
  have hg := jws_get g σ h1
  rw [jcell_o h2, h3] at hg
  have hr : vx_Run p g.1 e (jrx n) s m as0 below meth c H locs 0 0 1 6 (F0 m pc ls (st.map (jrl g))) (r.map (jrl g)) (jQn (Value.ref (jad g a) :: as.map (jrl g)).toArray) (jXC g P) (jA g) := by
    refine vx_runV (As := as.map (jrl g)) (rest := r.map (jrl g)) (b := jad g a) (C := mt'.1.cls) (n := na) (maxL := mt'.2.2.1) (ret := mt'.2.2.2) (bytes := mt'.2.1) ⟨X.1, X.2.1, X.2.2.1, X.2.2.2.2.2.1, X.2.2.2.2.2.2.1⟩ hM
      (cwV na X.2.2.2.2.2.2.1 (jGI (fun w hw => ?_)) rfl rfl rfl ⟨rfl, hmh⟩ ⟨?_, ?_⟩) ⟨jblind g _ σ, va_recv (q := (mt'.1.cls, T, N)) X.2.2.2.2.2.2.2.2.1 hP hcl hg, fun U hU hW => ⟨by simp [jrl], by rw [hU]; exact hP, X.2.2.2.2.2.2.2.2.moved hW (fun a h1 h2 => by rw [hU]; exact hS.2.1 a h1 h2)⟩⟩ rfl (by simp [hna]) hl.1 (by rw [hs]; simp [jrl]) (lv_room (by simpa [jrl_cat, Function.comp_def] using hst)) hd ⟨Nat.le_refl _, Nat.le_refl _⟩
    · unfold wsV at hw
      rcases List.mem_append.mp hw with hw | hw
      · simp only [List.mem_cons, List.not_mem_nil, or_false] at hw
        rcases hw with rfl | rfl | rfl | rfl
        · exact hlk
        · exact him
        · exact hse
        · exact hi
      · exact jwd_in hco w hw
    · show n' + 1 ≤ n
      omega
    · show 8 + (mt'.2.2.1 + 11) + 64 * n' ≤ 64 * n
      omega
  intro T0 hT0 X'
  rcases hr T0 hT0 X' with ⟨v, st₀, t, T', L', h0, X'', hL, e1, e2, hq, stp⟩ | ⟨q, st₀, t, T', L', E, ce, h0, X'', hL, e1, e2, ⟨hEe, ⟨τ, hPt, hH⟩, hz, hk⟩, hce, hcv, hclE, stp⟩
  · exact absurd hq (fun z => z)
  · rw [h0] at hz hk
    have hall : ∀ z ∈ locs ++ L', jA g z.base := fun z hz' => by
      rcases List.mem_append.mp hz' with h | h
      · exact hS.2.2 z h
      · exact hL z h
    have hS' : va_S (jA g) s.heap T'.heap (locs ++ L') := ⟨Nat.le_trans hS.1 (by rw [e1]; exact hz), fun q h1 h2 => by
      rw [e1, hk q (Nat.lt_of_lt_of_le h1 hS.1) h2]
      exact hS.2.1 q h1 h2, hall⟩
    have ho : vx_W p g.1 e (jrx n) s m as0 below meth c T'.heap (locs ++ L') 1 6 (vx_MQ below jQn (jXC g P) as0 s 1 6 (jA g)) (F0 m pc ls (r.map (jrl g))) q := vx_out (E := E) (ce := ce) (fun x hx => (hex x hx).elim) X.2.2.2.2.1 (by rw [e1]; exact hce) hcv hclE (fun t2 ht2 _ => ⟨hEe, ⟨τ, hPt, by rw [ht2, e1]; exact hH⟩, hS'.F ht2⟩) hall (Nat.le_refl _) (Nat.le_refl _)
    obtain ⟨t9, s9, q9⟩ := ho T' rfl X''
    exact ⟨t9, stp.trans s9, q9⟩
end XT2
