/-! one value of a choice: who gets the room -/
def wEnt (W : Nat → Nat → Option Nat) (i r : Nat) (o : Option Nat) : Nat → Nat → Option Nat := fun j q => if j = i ∧ q = r then o else W j q
def mxO (f : Nat → Option Nat) : Nat → Option Nat
  | 0 => none
  | n + 1 => match mxO f n, f n with
    | none, y => y
    | some x, none => some x
    | some x, some y => some (max x y)
theorem mxO_ex {f : Nat → Option Nat} : ∀ (n : Nat) {s : Nat}, mxO f n = some s → ∃ q, q < n ∧ f q = some s
  | 0, _, h => by cases h
  | n + 1, s, h => by
    simp only [mxO] at h
    rcases e1 : mxO f n with _ | x
    · rw [e1] at h
      have h : f n = some s := h
      exact ⟨n, by omega, h⟩
    · obtain ⟨q, hq, hf⟩ := mxO_ex n e1
      rcases e2 : f n with _ | y
      · rw [e1, e2] at h
        cases h
        exact ⟨q, by omega, hf⟩
      · rw [e1, e2] at h
        have h : max x y = s := by injection h
        by_cases c : x ≤ y
        · exact ⟨n, by omega, by rw [e2, ← h, Nat.max_eq_right c]⟩
        · exact ⟨q, by omega, by rw [hf, ← h, Nat.max_eq_left (by omega)]⟩
theorem mxO_ge {f : Nat → Option Nat} : ∀ (n q : Nat) {s : Nat}, q < n → f q = some s → ∃ z, mxO f n = some z ∧ s ≤ z
  | 0, _, _, h, _ => by omega
  | n + 1, q, s, h, hf => by
    simp only [mxO]
    rcases e1 : mxO f n with _ | x
    · by_cases c : q = n
      · subst c
        exact ⟨s, hf, Nat.le_refl _⟩
      · obtain ⟨z, hz, -⟩ := mxO_ge n q (by omega) hf
        rw [e1] at hz
        cases hz
    · rcases e2 : f n with _ | y
      · refine ⟨x, rfl, ?_⟩
        have c : q ≠ n := fun z => by rw [z, e2] at hf; cases hf
        obtain ⟨z, hz, hle⟩ := mxO_ge n q (by omega) hf
        rw [e1] at hz
        cases hz
        exact hle
      · refine ⟨max x y, rfl, ?_⟩
        by_cases c : q = n
        · subst c
          rw [e2] at hf
          cases hf
          exact Nat.le_max_right _ _
        · obtain ⟨z, hz, hle⟩ := mxO_ge n q (by omega) hf
          rw [e1] at hz
          cases hz
          exact Nat.le_trans hle (Nat.le_max_left _ _)
/-- the best with the room for the place, the best without it -/
def entP (o : Option Nat) (i r : Nat) (x : qC) (oA oB : Option Nat) : Prop := (x = none → oB = none ∧ (oA = none ∨ o = none)) ∧ ∀ a, x = some a → ((a.2.2 i = r ∧ ∃ s v, oA = some s ∧ o = some v ∧ a.1 = s + v) ∨ (a.2.2 i ≠ r ∧ oB = some a.1)) ∧ (∀ s v, oA = some s → o = some v → s + v ≤ a.1) ∧ ∀ s, oB = some s → s ≤ a.1
theorem ent_none (o : Option Nat) (i r : Nat) : entP o i r none none none := ⟨fun _ => ⟨rfl, Or.inl rfl⟩, fun a h => (by cases h)⟩
theorem ent_S {o : Option Nat} {i r : Nat} {x : qC} {oA oB : Option Nat} (h : entP o i r x oA oB) {j : Nat} (hj : i ≠ j) (v q : Nat) : entP o i r (qS v j q x) (oA.map (· + v)) (oB.map (· + v)) := by
  rcases x with _ | a
  · obtain ⟨h1, h2⟩ := h.1 rfl
    refine ⟨fun _ => ⟨by rw [h1]; rfl, ?_⟩, fun a h => (by cases h)⟩
    rcases h2 with e | e
    · exact Or.inl (by rw [e]; rfl)
    · exact Or.inr e
  · obtain ⟨h1, h2, h3⟩ := h.2 a rfl
    refine ⟨fun z => (by cases z), fun b hb => ?_⟩
    have hb : some (a.1 + v, a.2.1, fun k => if k = j then q else a.2.2 k) = some b := hb
    cases hb
    dsimp only
    rw [if_neg hj]
    refine ⟨?_, fun s w hs hw => ?_, fun s hs => ?_⟩
    · rcases h1 with ⟨g1, s, w, g2, g3, g4⟩ | ⟨g1, g2⟩
      · exact Or.inl ⟨g1, s + v, w, by rw [g2]; rfl, g3, by omega⟩
      · exact Or.inr ⟨g1, by rw [g2]; rfl⟩
    · rcases oA with _ | y
      · cases hs
      · cases hs
        have := h2 y w rfl hw
        dsimp only
        omega
    · rcases oB with _ | y
      · cases hs
      · cases hs
        have := h3 y rfl
        dsimp only
        omega
theorem ent_R {o : Option Nat} {i r : Nat} {f : Nat → qC} {OA OB : Nat → Option Nat} {R : Nat} (h : ∀ q, q < R → entP o i r (f q) (OA q) (OB q)) : entP o i r (qR f R) (mxO OA R) (mxO OB R) := by
  have someA : ∀ q, q < R → ∀ s v, OA q = some s → o = some v → ∃ b, f q = some b ∧ s + v ≤ b.1 := fun q hq s v hs hv => by
    rcases e : f q with _ | b
    · rcases ((h q hq).1 e).2 with z | z
      · rw [hs] at z; cases z
      · rw [hv] at z; cases z
    · exact ⟨b, rfl, ((h q hq).2 b e).2.1 s v hs hv⟩
  have someB : ∀ q, q < R → ∀ s, OB q = some s → ∃ b, f q = some b ∧ s ≤ b.1 := fun q hq s hs => by
    rcases e : f q with _ | b
    · rw [((h q hq).1 e).1] at hs; cases hs
    · exact ⟨b, rfl, ((h q hq).2 b e).2.2 s hs⟩
  refine ⟨fun hn => ?_, fun a ha => ?_⟩
  · have hall := qR_none R hn
    refine ⟨?_, ?_⟩
    · rcases e : mxO OB R with _ | s
      · rfl
      · obtain ⟨q, hq, hs⟩ := mxO_ex R e
        obtain ⟨b, hb, -⟩ := someB q hq s hs
        rw [hall q hq] at hb
        cases hb
    · rcases o with _ | v
      · exact Or.inr rfl
      · refine Or.inl ?_
        rcases e : mxO OA R with _ | s
        · rfl
        · obtain ⟨q, hq, hs⟩ := mxO_ex R e
          obtain ⟨b, hb, -⟩ := someA q hq s v hs rfl
          rw [hall q hq] at hb
          cases hb
  · obtain ⟨q, b, hq, hb, hb1, hb2, -, hle⟩ := qR_first R a ha
    have leA : ∀ s v, mxO OA R = some s → o = some v → s + v ≤ a.1 := fun s v hs hv => by
      obtain ⟨p, hp, hs2⟩ := mxO_ex R hs
      obtain ⟨c, hc, hc2⟩ := someA p hp s v hs2 hv
      have := hle p hp c hc
      omega
    have leB : ∀ s, mxO OB R = some s → s ≤ a.1 := fun s hs => by
      obtain ⟨p, hp, hs2⟩ := mxO_ex R hs
      obtain ⟨c, hc, hc2⟩ := someB p hp s hs2
      have := hle p hp c hc
      omega
    refine ⟨?_, leA, leB⟩
    rw [← hb2, ← hb1]
    rw [← hb1] at leA leB
    rcases ((h q hq).2 b hb).1 with ⟨g1, s, v, g2, g3, g4⟩ | ⟨g1, g2⟩
    · obtain ⟨z, hz, hz2⟩ := mxO_ge R q hq g2
      have := leA z v hz g3
      exact Or.inl ⟨g1, z, v, hz, g3, by omega⟩
    · obtain ⟨z, hz, hz2⟩ := mxO_ge R q hq g2
      have := leB z hz
      exact Or.inr ⟨g1, by rw [hz]; congr 1; omega⟩
theorem qR_congr {f f' : Nat → qC} : ∀ R, (∀ q, q < R → f q = f' q) → qR f R = qR f' R
  | 0, _ => rfl
  | R + 1, h => by
    simp only [qR]
    rw [qR_congr R (fun q hq => h q (by omega)), h R (by omega)]
/-- the value of a place behind does not count -/
theorem qT_past {W : Nat → Nat → Option Nat} {R i r : Nat} {o : Option Nat} : ∀ (d j t : Nat), i < j → qT (wEnt W i r o) R d j t = qT W R d j t
  | 0, _, _, _ => rfl
  | d + 1, j, t, h => by
    simp only [qT]
    refine qR_congr R (fun q _ => ?_)
    have e : wEnt W i r o j q = W j q := if_neg (fun z => by omega)
    rw [e]
    rcases W j q with _ | v
    · rfl
    · dsimp only
      rw [qT_past d (j + 1) _ (by omega)]
/-- what the rooms of a place give -/
def qFr (W : Nat → Nat → Option Nat) (R d j t q : Nat) : qC := match W j q with
  | none => none
  | some v => if t.testBit q then none else qS v j q (qT W R d (j + 1) (t ||| 1 <<< q))
theorem qT_F (W : Nat → Nat → Option Nat) (R d j t : Nat) : qT W R (d + 1) j t = qR (qFr W R d j t) R := by
  simp only [qT]
  rfl
theorem ent_T {W : Nat → Nat → Option Nat} {R i r : Nat} : ∀ (d j t : Nat), j ≤ i → i < j + d → ∃ oA oB, ∀ o, entP o i r (qT (wEnt W i r o) R d j t) oA oB
  | 0, j, t, h1, h2 => by omega
  | d + 1, j, t, h1, h2 => by
    have each : ∀ q, ∃ oA oB, ∀ o, entP o i r (qFr (wEnt W i r o) R d j t q) oA oB := fun q => by
      by_cases hj : j = i
      · subst hj
        have past : ∀ o, qT (wEnt W j r o) R d (j + 1) (t ||| 1 <<< q) = qT W R d (j + 1) (t ||| 1 <<< q) := fun o => qT_past d (j + 1) _ (by omega)
        obtain ⟨G, eG⟩ : ∃ G, G = qT W R d (j + 1) (t ||| 1 <<< q) := ⟨_, rfl⟩
        rw [← eG] at past
        by_cases hq : q = r
        · subst hq
          have e0 : ∀ o, wEnt W j q o j q = o := fun o => if_pos ⟨rfl, rfl⟩
          by_cases hb : t.testBit q = true
          · refine ⟨none, none, fun o => ?_⟩
            have : qFr (wEnt W j q o) R d j t q = none := by
              unfold qFr
              rw [e0]
              rcases o with _ | v
              · rfl
              · dsimp only; rw [if_pos hb]
            rw [this]
            exact ent_none _ _ _
          · rcases G with _ | a
            · refine ⟨none, none, fun o => ?_⟩
              have : qFr (wEnt W j q o) R d j t q = none := by
                unfold qFr
                rw [e0]
                rcases o with _ | v
                · rfl
                · dsimp only; rw [if_neg hb, past]; rfl
              rw [this]
              exact ent_none _ _ _
            · refine ⟨some a.1, none, fun o => ?_⟩
              rcases o with _ | v
              · have : qFr (wEnt W j q none) R d j t q = none := by unfold qFr; rw [e0]
                rw [this]
                exact ⟨fun _ => ⟨rfl, Or.inr rfl⟩, fun b hb => (by cases hb)⟩
              · have : qFr (wEnt W j q (some v)) R d j t q = some (a.1 + v, a.2.1, fun k => if k = j then q else a.2.2 k) := by
                  unfold qFr
                  rw [e0]
                  dsimp only
                  rw [if_neg hb, past]
                  rfl
                rw [this]
                refine ⟨fun z => (by cases z), fun b hb2 => ?_⟩
                cases hb2
                refine ⟨Or.inl ⟨by dsimp only; rw [if_pos rfl], a.1, v, rfl, rfl, rfl⟩, fun s w hs hw => ?_, fun s hs => (by cases hs)⟩
                cases hs
                cases hw
                exact Nat.le_refl _
        · have e0 : ∀ o, wEnt W j r o j q = W j q := fun o => if_neg (fun z => hq z.2)
          rcases eW : W j q with _ | v
          · refine ⟨none, none, fun o => ?_⟩
            have : qFr (wEnt W j r o) R d j t q = none := by unfold qFr; rw [e0, eW]
            rw [this]
            exact ent_none _ _ _
          · by_cases hb : t.testBit q = true
            · refine ⟨none, none, fun o => ?_⟩
              have : qFr (wEnt W j r o) R d j t q = none := by unfold qFr; rw [e0, eW]; dsimp only; rw [if_pos hb]
              rw [this]
              exact ent_none _ _ _
            · rcases G with _ | a
              · refine ⟨none, none, fun o => ?_⟩
                have : qFr (wEnt W j r o) R d j t q = none := by unfold qFr; rw [e0, eW]; dsimp only; rw [if_neg hb, past]; rfl
                rw [this]
                exact ent_none _ _ _
              · refine ⟨none, some (a.1 + v), fun o => ?_⟩
                have : qFr (wEnt W j r o) R d j t q = some (a.1 + v, a.2.1, fun k => if k = j then q else a.2.2 k) := by
                  unfold qFr
                  rw [e0, eW]
                  dsimp only
                  rw [if_neg hb, past]
                  rfl
                rw [this]
                refine ⟨fun z => (by cases z), fun b hb2 => ?_⟩
                cases hb2
                refine ⟨Or.inr ⟨by dsimp only; rw [if_pos rfl]; exact hq, rfl⟩, fun s w hs _ => (by cases hs), fun s hs => ?_⟩
                cases hs
                exact Nat.le_refl _
      · have e0 : ∀ o, wEnt W i r o j q = W j q := fun o => if_neg (fun z => hj z.1)
        obtain ⟨oA, oB, ih⟩ := ent_T (W := W) (R := R) (i := i) (r := r) d (j + 1) (t ||| 1 <<< q) (by omega) (by omega)
        rcases eW : W j q with _ | v
        · refine ⟨none, none, fun o => ?_⟩
          have : qFr (wEnt W i r o) R d j t q = none := by unfold qFr; rw [e0, eW]
          rw [this]
          exact ent_none _ _ _
        · by_cases hb : t.testBit q = true
          · refine ⟨none, none, fun o => ?_⟩
            have : qFr (wEnt W i r o) R d j t q = none := by unfold qFr; rw [e0, eW]; dsimp only; rw [if_pos hb]
            rw [this]
            exact ent_none _ _ _
          · refine ⟨oA.map (· + v), oB.map (· + v), fun o => ?_⟩
            have : qFr (wEnt W i r o) R d j t q = qS v j q (qT (wEnt W i r o) R d (j + 1) (t ||| 1 <<< q)) := by unfold qFr; rw [e0, eW]; dsimp only; rw [if_neg hb]
            rw [this]
            exact ent_S (ih o) (fun z => hj z.symm) v q
    refine ⟨mxO (fun q => (each q).choose) R, mxO (fun q => (each q).choose_spec.choose) R, fun o => ?_⟩
    rw [qT_F]
    exact ent_R (fun q _ => (each q).choose_spec.choose_spec o)
/-- the place gets the room, with this value -/
def getsR (W : Nat → Nat → Option Nat) (R m i r v : Nat) : Prop := ∃ a, qT (wEnt W i r (some v)) R m 0 0 = some a ∧ a.2.2 i = r
/-- with a greater value too -/
theorem gets_up {W : Nat → Nat → Option Nat} {R m i r v : Nat} (hi : i < m) (h : getsR W R m i r v) : ∀ w, v ≤ w → getsR W R m i r w := by
  intro w hw
  by_cases e0 : v = w
  · rw [← e0]; exact h
  obtain ⟨oA, oB, hE⟩ := ent_T (W := W) (R := R) (i := i) (r := r) m 0 0 (Nat.zero_le _) (by omega)
  obtain ⟨a, ha, har⟩ := h
  obtain ⟨h1, h2, h3⟩ := (hE (some v)).2 a ha
  rcases h1 with ⟨-, s, v', g2, g3, g4⟩ | ⟨g1, -⟩
  · cases g3
    rcases e : qT (wEnt W i r (some w)) R m 0 0 with _ | c
    · rcases ((hE (some w)).1 e).2 with z | z
      · rw [g2] at z; cases z
      · cases z
    · refine ⟨c, e, ?_⟩
      obtain ⟨k1, k2, k3⟩ := (hE (some w)).2 c e
      rcases k1 with ⟨k4, -⟩ | ⟨-, k5⟩
      · exact k4
      · have q1 := k2 s w g2 rfl
        have q2 := h3 c.1 k5
        omega
  · exact absurd har g1
