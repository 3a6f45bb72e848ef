/-! newborn: a constructor's contract, its end, and its call -/
/-- the room of a constructor: it makes so many cells, of so many slots -/
def krm (n mc ms : Nat) : Room := { frames := n, cells := mc, slots := ms, locals := 64 * n }
/-- a newborn's fields -/
def kfr (tab : List Nat) : List Value := tab.map (fun c => match c with
  | 0 => .int 0
  | 1 => .long 0
  | _ => .null)
def kPc (g : jG) (h0 me : Nat) (fs : List Value) : Array Value → State → Prop := va_Pc [.ref (jad g me)] (fun U => U.heap.size = h0 + me + 1 ∧ va_P g.2.1 vwCl [(jad g me, .inr ((jshp me).2.1, fs))] U.heap ∧ va_K g.2.1 vwCl (jtys g) U ∧ kNw U)
def kQc (g : jG) (h0 me nn : Nat) (σ : jM) : Array Value → State → Outcome → State → Prop := fun _ st oc t =>
  oc = .returned none ∧ t.heap.size = h0 + me + nn ∧ (∀ k, me ≤ k → k < me + nn → va_at g.2.1 vwCl (kpe g σ k) t.heap) ∧ va_F (kA h0 me) st t
/-- the constructor mt at cell me: nn cells in all, ms slots made -/
def kCon (g : jG) (h0 n : Nat) (mt : jMt) (me nn ms : Nat) (σ : jM) : Prop :=
  Met g.1 mt.1 (jwd mt) (krm n (nn - 1) ms) (kPc g h0 me (kfr (jshp me).2.2.2)) (kQc g h0 me nn σ) (nn - 1) ms (kA h0 me)
def kMQ (g : jG) (h0 me nn ms : Nat) (σ : jM) : lwT := fun below a s => MQ below (kQc g h0 me nn σ) a s (nn - 1) ms (kA h0 me)
theorem jfr_null (g : jG) (tab : List Nat) : (kfr tab).map (jrl g) = kfr tab := by
  unfold kfr
  rw [List.map_map]
  refine List.map_congr_left (fun c _ => ?_)
  match c with
  | 0 => rfl
  | 1 => rfl
  | c + 2 => rfl
theorem kCon.of {g : jG} {h0 n : Nat} {mt : jMt} {me nn ms : Nat} {σ τ : jM} (hy : plainName mt.1.cls = true) (hml : 1 ≤ mt.2.2.1) (hB : kB g h0) (hme : me < jN)
    (k : kW g h0 (krm n (nn - 1) ms) mt me (kMQ g h0 me nn ms σ) 0 0 0 [(0, .ref me)] [] (me + 1) (kfr (jshp me).2.2.2) τ) : kCon g h0 n mt me nn ms σ := by
  refine Met.ofW (cc := mt.2.1) (maxL := mt.2.2.1) (ret := mt.2.2.2) hy rfl ?_
  intro p e s m as below meth c s₁ B hml9 hv
  obtain ⟨rfl, hsz, hP, hK, hNw⟩ := hv
  have hl := lv_entry ([Value.ref me].map (jrl g)) (n := mt.2.2.1) (by show 1 ≤ _; exact hml)
  rw [lg_entry_eq]
  rw [jL_args] at hl
  have ht := atoms_spec (ws := jwd mt) B.pre
  have hme9 : jad g me = h0 + me := hB me hme
  refine k p e s m _ below meth c s.heap [] _ ⟨B.exec, B.bytes, hml9, B.returns, B.notSynchronized, findClass_of_methodNamed B.named, jwX_of ht, hK, hNw, (name_of_methodNamed B.named B.method).1⟩ ⟨by omega, by omega⟩ ?_ va_S.rf hl
  have e1 : kws g τ me (kfr (jshp me).2.2.2) (me + 1) = [(jad g me, .inr ((jshp me).2.1, kfr (jshp me).2.2.2))] := by
    unfold kws
    rw [jfr_null]
    have : me + 1 - me - 1 = 0 := by omega
    rw [this]
    rfl
  rw [e1]
  exact hP
section KC
variable {g : jG} {h0 : Nat} {rm : Room} {mt : jMt} {me : Nat} {T : lwT} {c0 s0 pc : Nat} {L : List (Nat × Value)} {r : List Value} {t : Nat} {fs : List Value} {σ : jM}
/-- the end: all is made -/
theorem kw_ret {nn ms : Nat} (hr : mt.2.2.2 = none) (hB : kB g h0) (ht : t = me + nn) (h1 : 1 ≤ nn) (hN : t ≤ jN) (hc : c0 = nn - 1) (hs : s0 = ms) (hk0 : (jshp me).1 = 0) (hfs : fs.map (jrl g) = jfs g σ me (jshp me).2.2.2) (d : decode mt.2.1 pc = .ok (.return_, 1)) : kW g h0 rm mt me (kMQ g h0 me nn ms σ) c0 s0 pc L [] t fs σ := by
  subst hc
  subst hs
  intro p e s m as below meth c H locs ls X hz hP hS hl
  have hlocks := X.2.2.2.2.1
  intro T0 hT0 X0
  have hsz := X0.heapSize
  refine W.vret X.1 X.2.1 (X.2.2.2.1.trans hr) (fun t9 ht9 hW9 => ?_) hS.2.2 d hlocks T0 hT0 X0
  have hlast : H.size = h0 + t := by
    have h9 := hz.1
    rw [hT0] at hsz
    have hge : h0 + t ≤ H.size := by
      rcases Nat.lt_or_ge (me + 1) t with c | c
      · have := vx_lt hP (kws_get g σ fs (k := t - 1) (by omega) (by omega))
        have e2 : (kpe g σ (t - 1)).1 = h0 + (t - 1) := hB _ (by omega)
        omega
      · have := vx_lt hP (k := 0) (q := (jad g me, .inr ((jshp me).2.1, fs.map (jrl g)))) rfl
        have e2 : jad g me = h0 + me := hB _ (by omega)
        have e3 : jad g me < H.size := this
        omega
    omega
  refine ⟨rfl, by rw [ht9]; omega, fun k hk1 hk2 => ?_, hS.F ht9⟩
  rw [ht9]
  rcases Nat.lt_or_ge me k with c | c
  · exact hP _ _ (kws_get g σ fs c (by omega))
  · have : k = me := by omega
    subst this
    have h9 := hP 0 _ rfl
    rw [hfs] at h9
    unfold kpe
    rw [jcell_o hk0]
    exact h9
end KC
