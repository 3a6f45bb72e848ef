/-! the computed walk with calls: O says of each call's number what its callee wants and gives (jO), out of contracts (jOk) -/
abbrev jO : Type := List Value → jM → Prop × (Option Value → jM → Prop)
abbrev jOl : Type := List (Nat × Nat × Nat × jO)
def jOk (g : jG) (n : Nat) (mt : jMt) (f : jO) : Prop := ∀ (args : List Value) (σ : jM), (f args σ).1 → jCon g n mt args σ (f args σ).2
def jol : jOl → Nat → Option (Nat × Nat × jO)
  | [], _ => none
  | (j, v) :: r, i => bif j == i then some v else jol r i
theorem jol_mem : ∀ {F : jOl} {i : Nat} {v : Nat × Nat × jO}, jol F i = some v → (i, v) ∈ F
  | [], _, _, h => by cases h
  | (j, w) :: r, i, v, h => by
    unfold jol at h
    by_cases e : j = i
    · subst e
      simp at h
      subst h
      exact List.mem_cons_self
    · have e1 : (j == i) = false := by simpa using e
      rw [e1] at h
      exact List.mem_cons_of_mem _ (jol_mem h)
def jcat (st : List Value) : Nat := match st with
  | [] => 0
  | v :: r => v.category + jcat r
theorem jcat_sum : ∀ st : List Value, jcat st = (st.map fun v => v.category).sum
  | [] => rfl
  | v :: r => by simp [jcat, jcat_sum r]
def jOv (g : jG) (mt : jMt) (n : Nat) (q : Nat × Nat × Nat × jO) : Prop :=
  ∃ (mt' : jMt) (n' na : Nat) (T : u_T) (N : Nat), q.2.1 = na + 1 ∧ n' < n ∧ Cond.methodLink mt.1.cls q.1 mt'.1 ∈ jGw ∧ jMv mt' na ∧ vwCl[q.2.2.1]? = some (mt'.1.cls, T, N) ∧ jOk g n' mt' q.2.2.2
def jOs (g : jG) (mt : jMt) (n : Nat) (q : Nat × Nat × Nat × jO) : Prop :=
  ∃ (mt' : jMt) (n' : Nat), n' < n ∧ (Cond.methodLink mt.1.cls q.1 mt'.1 ∈ jGw ∨ ∃ host, Cond.methodLinkNest mt.1.cls q.1 mt'.1 host ∈ jNw) ∧ jMs mt' q.2.1 ∧ jOk g n' mt' q.2.2.2
def jvk (F : List (Nat × Nat × Nat × Nat)) (C2 : List (Nat × Int64)) (V S : jOl) (ml : Nat) (ret : Option FieldType) (R : Option Value → jM → Prop) (tb : jTb) (stop : List Nat) (Q : Nat → List (Nat × Value) → List Value → jM → Prop) : Nat → Nat → List (Nat × Value) → List Value → jM → Prop
  | 0, pc, L, st, σ => Q pc L st σ
  | f + 1, pc, L, st, σ => match jtb tb pc with
    | none => Q pc L st σ
    | some (i, nx, tg, k) => match i with
      | .invokevirtual j => match jol V j with
        | some (na, ci, o) => match (st.take na).reverse with
          | .ref a :: as => bif (as.length + 1 == na) && (jisO a ci && Nat.ble (jcat (st.drop na)) 8) then (o (.ref a :: as) σ).1 ∧ ∀ v τ, (o (.ref a :: as) σ).2 v τ → (bif jel stop nx then Q nx L (v.toList ++ st.drop na) τ else jvk F C2 V S ml ret R tb stop Q f nx L (v.toList ++ st.drop na) τ) else Q pc L st σ
          | _ => Q pc L st σ
        | none => Q pc L st σ
      | .invokestatic j => match jol S j with
        | some (na, _, o) => bif (((st.take na).reverse).length == na) && Nat.ble (jcat (st.drop na)) 8 then (o (st.take na).reverse σ).1 ∧ ∀ v τ, (o (st.take na).reverse σ).2 v τ → (bif jel stop nx then Q nx L (v.toList ++ st.drop na) τ else jvk F C2 V S ml ret R tb stop Q f nx L (v.toList ++ st.drop na) τ) else Q pc L st σ
        | none => Q pc L st σ
      | i => jst F C2 ml ret R i nx tg k L st σ (fun pc' L' st' σ' => bif jel stop pc' then Q pc' L' st' σ' else jvk F C2 V S ml ret R tb stop Q f pc' L' st' σ') (Q pc L st σ)
section JVK
variable {g : jG} {mt : jMt} {n : Nat} {post : Option Value → jM → Prop}
theorem jvk_ok {F : List (Nat × Nat × Nat × Nat)} {C2 : List (Nat × Int64)} {tb : jTb} (hT : jT mt F C2 tb) {V S : jOl} (hV : ∀ q ∈ V, jOv g mt n q) (hS : ∀ q ∈ S, jOs g mt n q) (stop : List Nat) : ∀ (f pc : Nat) (L : List (Nat × Value)) (st : List Value) (σ : jM), jvk F C2 V S mt.2.2.1 mt.2.2.2 post tb stop (jW g mt n post) f pc L st σ → jW g mt n post pc L st σ
  | 0, _, _, _, _, h => h
  | f + 1, pc, L, st, σ, h => by
    have step : ∀ pc' L' st' σ', (bif jel stop pc' then jW g mt n post pc' L' st' σ' else jvk F C2 V S mt.2.2.1 mt.2.2.2 post tb stop (jW g mt n post) f pc' L' st' σ') → jW g mt n post pc' L' st' σ' := fun pc' L' st' σ' hk => by
      cases hs : jel stop pc' with
      | true => rw [hs] at hk; exact hk
      | false => rw [hs] at hk; exact jvk_ok hT hV hS stop f pc' L' st' σ' hk
    unfold jvk at h
    split at h
    · exact h
    · rename_i i nx tg k e
      have hm := jtb_mem e
      have h1 := List.all_eq_true.mp hT.2.2.1 _ hm
      simp only [jEok, Bool.and_eq_true, decide_eq_true_eq, beq_iff_eq] at h1
      obtain ⟨a1, a2, a3, a4⟩ := h1
      split at h
      · rename_i j
        split at h
        · rename_i na ci o eo
          split at h
          · rename_i a as ea
            cases hb : ((as.length + 1 == na) && (jisO a ci && Nat.ble (jcat (st.drop na)) 8)) with
            | false => rw [hb] at h; exact h
            | true =>
              rw [hb] at h
              simp only [Bool.and_eq_true, beq_iff_eq] at hb
              obtain ⟨b1, b2, b3⟩ := hb
              obtain ⟨mt', n', na', T, N, c1, c2, c3, c4, c5, c6⟩ := hV _ (jol_mem eo)
              dsimp only at c1 c3 c5 c6
              have hst : st = as.reverse ++ .ref a :: st.drop na := by
                have h5 : st.take na = (Value.ref a :: as).reverse := by rw [← ea, List.reverse_reverse]
                have h6 := List.take_append_drop na st
                rw [h5, List.reverse_cons, List.append_assoc] at h6
                exact h6.symm
              exact jr_callV hT e c3 c4 c5 b2 hst c2 (by omega) (by rw [← jcat_sum]; exact Nat.le_of_ble_eq_true b3) (c6 _ _ h.1) (fun v τ hp => step _ _ _ _ (h.2 v τ hp))
          · exact h
        · exact h
      · rename_i j
        split at h
        · rename_i na ci o eo
          cases hb : ((((st.take na).reverse).length == na) && Nat.ble (jcat (st.drop na)) 8) with
          | false => rw [hb] at h; exact h
          | true =>
            rw [hb] at h
            simp only [Bool.and_eq_true, beq_iff_eq] at hb
            obtain ⟨b1, b3⟩ := hb
            obtain ⟨mt', n', c2, c3, c4, c6⟩ := hS _ (jol_mem eo)
            dsimp only at c3 c4 c6
            have hst : st = ((st.take na).reverse).reverse ++ st.drop na := by rw [List.reverse_reverse, List.take_append_drop]
            rcases c3 with c3 | ⟨host, c3⟩
            · exact jr_callS hT e c3 c4 hst c2 b1 (by rw [← jcat_sum]; exact Nat.le_of_ble_eq_true b3) (c6 _ _ h.1) (fun v τ hp => step _ _ _ _ (h.2 v τ hp))
            · exact jr_callSN hT e c3 c4 hst c2 b1 (by rw [← jcat_sum]; exact Nat.le_of_ble_eq_true b3) (c6 _ _ h.1) (fun v τ hp => step _ _ _ _ (h.2 v τ hp))
        · exact h
      · exact jst_ok hT.1 hT.2.1 a1 a2 a3 a4 (fun j hj => hT.2.2.2 _ hm j hj) step (fun z => z) h
end JVK
/-! one shape of arguments -/
def jo0 (f : jM → Prop × (Option Value → jM → Prop)) : jO := fun args σ => match args with
  | [] => f σ
  | _ => (False, fun _ _ => False)
theorem jo0_ok {g : jG} {n : Nat} {mt : jMt} {f : jM → Prop × (Option Value → jM → Prop)} (h : ∀  (σ : jM), (f σ).1 → jCon g n mt [] σ (f σ).2) : jOk g n mt (jo0 f) := by
  intro args σ hp
  unfold jo0 at hp ⊢
  split at hp
  · exact h  σ hp
  · exact hp.elim
def joR (f : Nat → jM → Prop × (Option Value → jM → Prop)) : jO := fun args σ => match args with
  | [.ref a0] => f a0 σ
  | _ => (False, fun _ _ => False)
theorem joR_ok {g : jG} {n : Nat} {mt : jMt} {f : Nat → jM → Prop × (Option Value → jM → Prop)} (h : ∀ (a0 : Nat) (σ : jM), (f a0 σ).1 → jCon g n mt [.ref a0] σ (f a0 σ).2) : jOk g n mt (joR f) := by
  intro args σ hp
  unfold joR at hp ⊢
  split at hp
  · exact h _ σ hp
  · exact hp.elim
def joI (f : Int32 → jM → Prop × (Option Value → jM → Prop)) : jO := fun args σ => match args with
  | [.int i0] => f i0 σ
  | _ => (False, fun _ _ => False)
theorem joI_ok {g : jG} {n : Nat} {mt : jMt} {f : Int32 → jM → Prop × (Option Value → jM → Prop)} (h : ∀ (i0 : Int32) (σ : jM), (f i0 σ).1 → jCon g n mt [.int i0] σ (f i0 σ).2) : jOk g n mt (joI f) := by
  intro args σ hp
  unfold joI at hp ⊢
  split at hp
  · exact h _ σ hp
  · exact hp.elim
def joRI (f : Nat → Int32 → jM → Prop × (Option Value → jM → Prop)) : jO := fun args σ => match args with
  | [.ref a0, .int i1] => f a0 i1 σ
  | _ => (False, fun _ _ => False)
theorem joRI_ok {g : jG} {n : Nat} {mt : jMt} {f : Nat → Int32 → jM → Prop × (Option Value → jM → Prop)} (h : ∀ (a0 : Nat) (i1 : Int32) (σ : jM), (f a0 i1 σ).1 → jCon g n mt [.ref a0, .int i1] σ (f a0 i1 σ).2) : jOk g n mt (joRI f) := by
  intro args σ hp
  unfold joRI at hp ⊢
  split at hp
  · exact h _ _ σ hp
  · exact hp.elim
def joII (f : Int32 → Int32 → jM → Prop × (Option Value → jM → Prop)) : jO := fun args σ => match args with
  | [.int i0, .int i1] => f i0 i1 σ
  | _ => (False, fun _ _ => False)
theorem joII_ok {g : jG} {n : Nat} {mt : jMt} {f : Int32 → Int32 → jM → Prop × (Option Value → jM → Prop)} (h : ∀ (i0 : Int32) (i1 : Int32) (σ : jM), (f i0 i1 σ).1 → jCon g n mt [.int i0, .int i1] σ (f i0 i1 σ).2) : jOk g n mt (joII f) := by
  intro args σ hp
  unfold joII at hp ⊢
  split at hp
  · exact h _ _ σ hp
  · exact hp.elim
def joRII (f : Nat → Int32 → Int32 → jM → Prop × (Option Value → jM → Prop)) : jO := fun args σ => match args with
  | [.ref a0, .int i1, .int i2] => f a0 i1 i2 σ
  | _ => (False, fun _ _ => False)
theorem joRII_ok {g : jG} {n : Nat} {mt : jMt} {f : Nat → Int32 → Int32 → jM → Prop × (Option Value → jM → Prop)} (h : ∀ (a0 : Nat) (i1 : Int32) (i2 : Int32) (σ : jM), (f a0 i1 i2 σ).1 → jCon g n mt [.ref a0, .int i1, .int i2] σ (f a0 i1 i2 σ).2) : jOk g n mt (joRII f) := by
  intro args σ hp
  unfold joRII at hp ⊢
  split at hp
  · exact h _ _ _ σ hp
  · exact hp.elim
def joIII (f : Int32 → Int32 → Int32 → jM → Prop × (Option Value → jM → Prop)) : jO := fun args σ => match args with
  | [.int i0, .int i1, .int i2] => f i0 i1 i2 σ
  | _ => (False, fun _ _ => False)
theorem joIII_ok {g : jG} {n : Nat} {mt : jMt} {f : Int32 → Int32 → Int32 → jM → Prop × (Option Value → jM → Prop)} (h : ∀ (i0 : Int32) (i1 : Int32) (i2 : Int32) (σ : jM), (f i0 i1 i2 σ).1 → jCon g n mt [.int i0, .int i1, .int i2] σ (f i0 i1 i2 σ).2) : jOk g n mt (joIII f) := by
  intro args σ hp
  unfold joIII at hp ⊢
  split at hp
  · exact h _ _ _ σ hp
  · exact hp.elim
def joRR (f : Nat → Nat → jM → Prop × (Option Value → jM → Prop)) : jO := fun args σ => match args with
  | [.ref a0, .ref a1] => f a0 a1 σ
  | _ => (False, fun _ _ => False)
theorem joRR_ok {g : jG} {n : Nat} {mt : jMt} {f : Nat → Nat → jM → Prop × (Option Value → jM → Prop)} (h : ∀ (a0 : Nat) (a1 : Nat) (σ : jM), (f a0 a1 σ).1 → jCon g n mt [.ref a0, .ref a1] σ (f a0 a1 σ).2) : jOk g n mt (joRR f) := by
  intro args σ hp
  unfold joRR at hp ⊢
  split at hp
  · exact h _ _ σ hp
  · exact hp.elim
def joRIII (f : Nat → Int32 → Int32 → Int32 → jM → Prop × (Option Value → jM → Prop)) : jO := fun args σ => match args with
  | [.ref a0, .int i1, .int i2, .int i3] => f a0 i1 i2 i3 σ
  | _ => (False, fun _ _ => False)
theorem joRIII_ok {g : jG} {n : Nat} {mt : jMt} {f : Nat → Int32 → Int32 → Int32 → jM → Prop × (Option Value → jM → Prop)} (h : ∀ (a0 : Nat) (i1 : Int32) (i2 : Int32) (i3 : Int32) (σ : jM), (f a0 i1 i2 i3 σ).1 → jCon g n mt [.ref a0, .int i1, .int i2, .int i3] σ (f a0 i1 i2 i3 σ).2) : jOk g n mt (joRIII f) := by
  intro args σ hp
  unfold joRIII at hp ⊢
  split at hp
  · exact h _ _ _ _ σ hp
  · exact hp.elim
def joRIIIII (f : Nat → Int32 → Int32 → Int32 → Int32 → Int32 → jM → Prop × (Option Value → jM → Prop)) : jO := fun args σ => match args with
  | [.ref a0, .int i1, .int i2, .int i3, .int i4, .int i5] => f a0 i1 i2 i3 i4 i5 σ
  | _ => (False, fun _ _ => False)
theorem joRIIIII_ok {g : jG} {n : Nat} {mt : jMt} {f : Nat → Int32 → Int32 → Int32 → Int32 → Int32 → jM → Prop × (Option Value → jM → Prop)} (h : ∀ (a0 : Nat) (i1 : Int32) (i2 : Int32) (i3 : Int32) (i4 : Int32) (i5 : Int32) (σ : jM), (f a0 i1 i2 i3 i4 i5 σ).1 → jCon g n mt [.ref a0, .int i1, .int i2, .int i3, .int i4, .int i5] σ (f a0 i1 i2 i3 i4 i5 σ).2) : jOk g n mt (joRIIIII f) := by
  intro args σ hp
  unfold joRIIIII at hp ⊢
  split at hp
  · exact h _ _ _ _ _ _ σ hp
  · exact hp.elim
def joRIR (f : Nat → Int32 → Nat → jM → Prop × (Option Value → jM → Prop)) : jO := fun args σ => match args with
  | [.ref a0, .int i1, .ref a2] => f a0 i1 a2 σ
  | _ => (False, fun _ _ => False)
theorem joRIR_ok {g : jG} {n : Nat} {mt : jMt} {f : Nat → Int32 → Nat → jM → Prop × (Option Value → jM → Prop)} (h : ∀ (a0 : Nat) (i1 : Int32) (a2 : Nat) (σ : jM), (f a0 i1 a2 σ).1 → jCon g n mt [.ref a0, .int i1, .ref a2] σ (f a0 i1 a2 σ).2) : jOk g n mt (joRIR f) := by
  intro args σ hp
  unfold joRIR at hp ⊢
  split at hp
  · exact h _ _ _ σ hp
  · exact hp.elim
def joRRI (f : Nat → Nat → Int32 → jM → Prop × (Option Value → jM → Prop)) : jO := fun args σ => match args with
  | [.ref a0, .ref a1, .int i2] => f a0 a1 i2 σ
  | _ => (False, fun _ _ => False)
theorem joRRI_ok {g : jG} {n : Nat} {mt : jMt} {f : Nat → Nat → Int32 → jM → Prop × (Option Value → jM → Prop)} (h : ∀ (a0 : Nat) (a1 : Nat) (i2 : Int32) (σ : jM), (f a0 a1 i2 σ).1 → jCon g n mt [.ref a0, .ref a1, .int i2] σ (f a0 a1 i2 σ).2) : jOk g n mt (joRRI f) := by
  intro args σ hp
  unfold joRRI at hp ⊢
  split at hp
  · exact h _ _ _ σ hp
  · exact hp.elim
def joRIRI (f : Nat → Int32 → Nat → Int32 → jM → Prop × (Option Value → jM → Prop)) : jO := fun args σ => match args with
  | [.ref a0, .int i1, .ref a2, .int i3] => f a0 i1 a2 i3 σ
  | _ => (False, fun _ _ => False)
theorem joRIRI_ok {g : jG} {n : Nat} {mt : jMt} {f : Nat → Int32 → Nat → Int32 → jM → Prop × (Option Value → jM → Prop)} (h : ∀ (a0 : Nat) (i1 : Int32) (a2 : Nat) (i3 : Int32) (σ : jM), (f a0 i1 a2 i3 σ).1 → jCon g n mt [.ref a0, .int i1, .ref a2, .int i3] σ (f a0 i1 a2 i3 σ).2) : jOk g n mt (joRIRI f) := by
  intro args σ hp
  unfold joRIRI at hp ⊢
  split at hp
  · exact h _ _ _ _ σ hp
  · exact hp.elim
def joRIRIR (f : Nat → Int32 → Nat → Int32 → Nat → jM → Prop × (Option Value → jM → Prop)) : jO := fun args σ => match args with
  | [.ref a0, .int i1, .ref a2, .int i3, .ref a4] => f a0 i1 a2 i3 a4 σ
  | _ => (False, fun _ _ => False)
theorem joRIRIR_ok {g : jG} {n : Nat} {mt : jMt} {f : Nat → Int32 → Nat → Int32 → Nat → jM → Prop × (Option Value → jM → Prop)} (h : ∀ (a0 : Nat) (i1 : Int32) (a2 : Nat) (i3 : Int32) (a4 : Nat) (σ : jM), (f a0 i1 a2 i3 a4 σ).1 → jCon g n mt [.ref a0, .int i1, .ref a2, .int i3, .ref a4] σ (f a0 i1 a2 i3 a4 σ).2) : jOk g n mt (joRIRIR f) := by
  intro args σ hp
  unfold joRIRIR at hp ⊢
  split at hp
  · exact h _ _ _ _ _ σ hp
  · exact hp.elim
def joRIRRII (f : Nat → Int32 → Nat → Nat → Int32 → Int32 → jM → Prop × (Option Value → jM → Prop)) : jO := fun args σ => match args with
  | [.ref a0, .int i1, .ref a2, .ref a3, .int i4, .int i5] => f a0 i1 a2 a3 i4 i5 σ
  | _ => (False, fun _ _ => False)
theorem joRIRRII_ok {g : jG} {n : Nat} {mt : jMt} {f : Nat → Int32 → Nat → Nat → Int32 → Int32 → jM → Prop × (Option Value → jM → Prop)} (h : ∀ (a0 : Nat) (i1 : Int32) (a2 : Nat) (a3 : Nat) (i4 : Int32) (i5 : Int32) (σ : jM), (f a0 i1 a2 a3 i4 i5 σ).1 → jCon g n mt [.ref a0, .int i1, .ref a2, .ref a3, .int i4, .int i5] σ (f a0 i1 a2 a3 i4 i5 σ).2) : jOk g n mt (joRIRRII f) := by
  intro args σ hp
  unfold joRIRRII at hp ⊢
  split at hp
  · exact h _ _ _ _ _ _ σ hp
  · exact hp.elim
def joRJ (f : Nat → Int64 → jM → Prop × (Option Value → jM → Prop)) : jO := fun args σ => match args with
  | [.ref a0, .long i1] => f a0 i1 σ
  | _ => (False, fun _ _ => False)
theorem joRJ_ok {g : jG} {n : Nat} {mt : jMt} {f : Nat → Int64 → jM → Prop × (Option Value → jM → Prop)} (h : ∀ (a0 : Nat) (i1 : Int64) (σ : jM), (f a0 i1 σ).1 → jCon g n mt [.ref a0, .long i1] σ (f a0 i1 σ).2) : jOk g n mt (joRJ f) := by
  intro args σ hp
  unfold joRJ at hp ⊢
  split at hp
  · exact h _ _ σ hp
  · exact hp.elim
def joRIRR (f : Nat → Int32 → Nat → Nat → jM → Prop × (Option Value → jM → Prop)) : jO := fun args σ => match args with
  | [.ref a0, .int i1, .ref a2, .ref a3] => f a0 i1 a2 a3 σ
  | _ => (False, fun _ _ => False)
theorem joRIRR_ok {g : jG} {n : Nat} {mt : jMt} {f : Nat → Int32 → Nat → Nat → jM → Prop × (Option Value → jM → Prop)} (h : ∀ (a0 : Nat) (i1 : Int32) (a2 : Nat) (a3 : Nat) (σ : jM), (f a0 i1 a2 a3 σ).1 → jCon g n mt [.ref a0, .int i1, .ref a2, .ref a3] σ (f a0 i1 a2 a3 σ).2) : jOk g n mt (joRIRR f) := by
  intro args σ hp
  unfold joRIRR at hp ⊢
  split at hp
  · exact h _ _ _ _ σ hp
  · exact hp.elim
def joRIRIRI (f : Nat → Int32 → Nat → Int32 → Nat → Int32 → jM → Prop × (Option Value → jM → Prop)) : jO := fun args σ => match args with
  | [.ref a0, .int i1, .ref a2, .int i3, .ref a4, .int i5] => f a0 i1 a2 i3 a4 i5 σ
  | _ => (False, fun _ _ => False)
theorem joRIRIRI_ok {g : jG} {n : Nat} {mt : jMt} {f : Nat → Int32 → Nat → Int32 → Nat → Int32 → jM → Prop × (Option Value → jM → Prop)} (h : ∀ (a0 : Nat) (i1 : Int32) (a2 : Nat) (i3 : Int32) (a4 : Nat) (i5 : Int32) (σ : jM), (f a0 i1 a2 i3 a4 i5 σ).1 → jCon g n mt [.ref a0, .int i1, .ref a2, .int i3, .ref a4, .int i5] σ (f a0 i1 a2 i3 a4 i5 σ).2) : jOk g n mt (joRIRIRI f) := by
  intro args σ hp
  unfold joRIRIRI at hp ⊢
  split at hp
  · exact h _ _ _ _ _ _ σ hp
  · exact hp.elim
def joRIIR (f : Nat → Int32 → Int32 → Nat → jM → Prop × (Option Value → jM → Prop)) : jO := fun args σ => match args with
  | [.ref a0, .int i1, .int i2, .ref a3] => f a0 i1 i2 a3 σ
  | _ => (False, fun _ _ => False)
theorem joRIIR_ok {g : jG} {n : Nat} {mt : jMt} {f : Nat → Int32 → Int32 → Nat → jM → Prop × (Option Value → jM → Prop)} (h : ∀ (a0 : Nat) (i1 : Int32) (i2 : Int32) (a3 : Nat) (σ : jM), (f a0 i1 i2 a3 σ).1 → jCon g n mt [.ref a0, .int i1, .int i2, .ref a3] σ (f a0 i1 i2 a3 σ).2) : jOk g n mt (joRIIR f) := by
  intro args σ hp
  unfold joRIIR at hp ⊢
  split at hp
  · exact h _ _ _ _ σ hp
  · exact hp.elim
def joIRIR (f : Int32 → Nat → Int32 → Nat → jM → Prop × (Option Value → jM → Prop)) : jO := fun args σ => match args with
  | [.int i0, .ref a1, .int i2, .ref a3] => f i0 a1 i2 a3 σ
  | _ => (False, fun _ _ => False)
theorem joIRIR_ok {g : jG} {n : Nat} {mt : jMt} {f : Int32 → Nat → Int32 → Nat → jM → Prop × (Option Value → jM → Prop)} (h : ∀ (i0 : Int32) (a1 : Nat) (i2 : Int32) (a3 : Nat) (σ : jM), (f i0 a1 i2 a3 σ).1 → jCon g n mt [.int i0, .ref a1, .int i2, .ref a3] σ (f i0 a1 i2 a3 σ).2) : jOk g n mt (joIRIR f) := by
  intro args σ hp
  unfold joIRIR at hp ⊢
  split at hp
  · exact h _ _ _ _ σ hp
  · exact hp.elim
/-- as Met.ofW, for any method that no native stands for -/
theorem jMetF {l : Launch} {y : MethodName} {ws ws' : List Cond} {rm : Room} {Pc : Array Value → State → Prop} {Qc : Array Value → State → Outcome → State → Prop} {mc ms : Nat} {free : Addr → Prop} {cc : ByteArray} {maxL : Nat} {ret : Option FieldType}
    (hy : plainFor y = true) (hw : ws = Cond.code y cc maxL ret :: ws')
    (body : ∀ p e s m args below meth c s₁, BodyLoose p l y (headSpec ws rm) cc maxL ret e s m args below meth c s₁ → c.maxLocals = maxL → Pc args s →
      W p l e (headSpec ws rm).room s m args below meth c s.heap [] 0 0 (MQ below Qc args s mc ms free) (entryFrame m args maxL)) : Met l y ws rm Pc Qc mc ms free := by
  refine MetFree.of_bodySF (code := cc) (maxLocals := maxL) (ret := ret) hy ?_ ?_
  · intro args s m h hn
    obtain ⟨meth, c, h1, h2, h3, h4, h5, h6, -, -⟩ := Cond.code_spec hn (atoms_spec (ws := ws) h _ (by rw [hw]; exact List.mem_cons_self))
    exact ⟨meth, c, h1, h2, h3, h4, h5, h6⟩
  · intro p e s m args below meth c s₁ B hml hP _
    have hh0 : s₁.heap = s.heap := by rw [B.state]; rfl
    obtain ⟨t, a1, o, b1, b2, b3⟩ := body p e s m args below meth c s₁ B hml hP s₁ hh0 (Stand.of_body B)
    exact ⟨t, o, a1, b1, b2, ⟨b3.1, b3.2⟩⟩
theorem jCon.ofF {g : jG} {n : Nat} {mt : jMt} {args : List Value} {σ : jM} {post : Option Value → jM → Prop} (hy : plainFor mt.1 = true) (hlen : (lg_sl args).length ≤ mt.2.2.1)
    (k : jW g mt n post 0 (lv_args 0 args) [] σ) : jCon g n mt args σ post := by
  intro hI
  refine jMetF (cc := mt.2.1) (maxL := mt.2.2.1) (ret := mt.2.2.2) hy rfl ?_
  intro p e s m as below meth c s₁ B hml hv
  obtain ⟨rfl, hP, hC⟩ := hv
  have hl := lv_entry (args.map (jrl g)) (n := mt.2.2.1) (by rw [jsl_len]; exact hlen)
  rw [lg_entry_eq]
  rw [jL_args] at hl
  exact k p e s m _ below meth c s.heap [] _ ⟨B.exec, B.bytes, hml, B.returns, B.notSynchronized, findClass_of_methodNamed B.named, jwX_of (atoms_spec (ws := jwd mt) B.pre), hI, hC⟩ hP va_S.rf hl
/-- a contract, its post kept as a name -/
theorem jCon.ofP {g : jG} {n : Nat} {mt : jMt} {args : List Value} {σ : jM} {S : Option Value → jM → Prop} (hy : plainFor mt.1 = true) (hlen : (lg_sl args).length ≤ mt.2.2.1)
    (k : ∀ post : Option Value → jM → Prop, (∀ v τ, S v τ → post v τ) → jW g mt n post 0 (lv_args 0 args) [] σ) : jCon g n mt args σ S := jCon.ofF hy hlen (k S (fun _ _ h => h))
theorem jloop {P : Nat → Prop} {N : Nat} (he : P N) (hs : ∀ k, k < N → P (k + 1) → P k) : P 0 := by
  have h : ∀ d k, k + d = N → P k := by
    intro d
    induction d with
    | zero => intro k hk; have e : k = N := by omega
              subst e; exact he
    | succ d ih => intro k hk; exact hs k (by omega) (ih (k + 1) (by omega))
  exact h N 0 (by omega)
/-- a loop that counts from i to N -/
theorem jloopF {P : Nat → Prop} {N i : Nat} (hi : i ≤ N) (he : P N) (hs : ∀ k, i ≤ k → k < N → P (k + 1) → P k) : P i := by
  have h : ∀ d k, i ≤ k → k + d = N → P k := by
    intro d
    induction d with
    | zero => intro k _ hk; have e : k = N := by omega
              subst e; exact he
    | succ d ih => intro k h1 hk; exact hs k h1 (by omega) (ih (k + 1) (by omega) (by omega))
  exact h (N - i) i (Nat.le_refl i) (by omega)
/-- a loop that counts down -/
theorem jloopD {P : Nat → Prop} (he : P 0) (hs : ∀ k, P k → P (k + 1)) (N : Nat) : P N := by
  induction N with
  | zero => exact he
  | succ d ih => exact hs d ih
def cn (p : Nat → Bool) : Nat → Nat
  | 0 => 0
  | n + 1 => cn p n + if p n then 1 else 0
theorem cn_le (p : Nat → Bool) : ∀ n, cn p n ≤ n
  | 0 => Nat.le_refl 0
  | n + 1 => by have := cn_le p n; simp only [cn]; split <;> omega
def sm (f : Nat → Int32) : Nat → Int32
  | 0 => 0
  | n + 1 => sm f n + f n
theorem jin_nI {k n : Nat} (h : k < n) (hn : n < 2 ^ 31) : jin (nI k) n := by
  have := nI_toInt (n := k) (by omega)
  exact ⟨by omega, by omega⟩
theorem jup_1 (σ : jM) (a k : Nat) (x : Int32) (i j : Nat) : (jup σ a k x).1 i j = if i = a ∧ j = k then x else σ.1 i j := rfl
theorem jup_2 (σ : jM) (a k : Nat) (x : Int32) : (jup σ a k x).2 = σ.2 := rfl
theorem jupL_1 (σ : jM) (a k : Nat) (x : Int64) : (jupL σ a k x).1 = σ.1 := rfl
theorem jupL_2 (σ : jM) (a k : Nat) (x : Int64) (i j : Nat) : (jupL σ a k x).2.1 i j = if i = a ∧ j = k then x else σ.2.1 i j := rfl
theorem jupL_3 (σ : jM) (a k : Nat) (x : Int64) : (jupL σ a k x).2.2 = σ.2.2 := rfl
theorem jble (a b : Nat) : Nat.ble a b = decide (a ≤ b) := by
  rcases h : Nat.ble a b with _ | _
  · symm; rw [decide_eq_false_iff_not]; intro q; rw [Nat.ble_eq_true_of_le q] at h; cases h
  · symm; rw [decide_eq_true_eq]; exact Nat.le_of_ble_eq_true h
theorem jblt (a b : Nat) : Nat.blt a b = decide (a < b) := by
  show Nat.ble (a + 1) b = _
  rw [jble]
  rfl
theorem jf3 : ((3 : Fin 4) : Nat) = 3 := rfl
theorem oI (m : Nat) : (OfNat.ofNat m : Int32) = nI m := rfl
theorem nI_leL {m k : Nat} (hm : @OfNat.ofNat Nat m (instOfNatNat m) < 2 ^ 31) (hk : k < 2 ^ 31) : (OfNat.ofNat m : Int32) ≤ nI k ↔ @OfNat.ofNat Nat m (instOfNatNat m) ≤ k := by rw [oI]; exact nI_leI hm hk
theorem nI_ltL {m k : Nat} (hm : @OfNat.ofNat Nat m (instOfNatNat m) < 2 ^ 31) (hk : k < 2 ^ 31) : (OfNat.ofNat m : Int32) < nI k ↔ @OfNat.ofNat Nat m (instOfNatNat m) < k := by rw [oI]; exact nI_ltI hm hk
theorem nI_Lle {m k : Nat} (hm : @OfNat.ofNat Nat m (instOfNatNat m) < 2 ^ 31) (hk : k < 2 ^ 31) : nI k ≤ (OfNat.ofNat m : Int32) ↔ k ≤ @OfNat.ofNat Nat m (instOfNatNat m) := by rw [oI]; exact nI_leI hk hm
theorem nI_Llt {m k : Nat} (hm : @OfNat.ofNat Nat m (instOfNatNat m) < 2 ^ 31) (hk : k < 2 ^ 31) : nI k < (OfNat.ofNat m : Int32) ↔ k < @OfNat.ofNat Nat m (instOfNatNat m) := by rw [oI]; exact nI_ltI hk hm
theorem nI_eqL {m k : Nat} (hm : @OfNat.ofNat Nat m (instOfNatNat m) < 2 ^ 31) (hk : k < 2 ^ 31) : nI k = (OfNat.ofNat m : Int32) ↔ k = @OfNat.ofNat Nat m (instOfNatNat m) := by rw [oI]; exact nI_eq hk hm
theorem nI_Leq {m k : Nat} (hm : @OfNat.ofNat Nat m (instOfNatNat m) < 2 ^ 31) (hk : k < 2 ^ 31) : (OfNat.ofNat m : Int32) = nI k ↔ @OfNat.ofNat Nat m (instOfNatNat m) = k := by rw [oI]; exact nI_eq hm hk
theorem nI_m1 {k : Nat} (hk : k < 2 ^ 31) : nI k = -1 ↔ False := by
  refine ⟨fun h => ?_, False.elim⟩
  have h1 := congrArg Int32.toInt h
  rw [nI_toInt hk] at h1
  have h2 : (-1 : Int32).toInt = -1 := by decide
  omega
theorem nI_rng {x : Int32} {n : Nat} (h0 : 0 ≤ x) (h1 : x ≤ OfNat.ofNat n) (hn : @OfNat.ofNat Nat n (instOfNatNat n) < 2 ^ 31) : ∃ k, k ≤ @OfNat.ofNat Nat n (instOfNatNat n) ∧ x = nI k ∧ x.toNatClampNeg = k := by
  obtain ⟨k, h2, h3⟩ := nI_of (x := x) (by simpa using h0)
  subst h3
  refine ⟨k, ?_, rfl, nI_clamp h2⟩
  rw [oI] at h1
  exact (nI_leI h2 hn).mp h1
def jit (f : Nat → jM → jM) : Nat → jM → jM
  | 0, σ => σ
  | k + 1, σ => f k (jit f k σ)
theorem NL_0 : (∀ k, k < 2147483648 → ((0 : Int32) ≤ nI k ↔ 0 ≤ k)) ∧ (∀ k, k < 2147483648 → ((0 : Int32) < nI k ↔ 0 < k)) ∧ (∀ k, k < 2147483648 → (nI k ≤ (0 : Int32) ↔ k ≤ 0)) ∧ (∀ k, k < 2147483648 → (nI k < (0 : Int32) ↔ k < 0)) ∧ (∀ k, k < 2147483648 → (nI k = (0 : Int32) ↔ k = 0)) ∧ (∀ k, k < 2147483648 → ((0 : Int32) = nI k ↔ 0 = k)) :=
  ⟨fun k h => nI_leL (by decide) h, fun k h => nI_ltL (by decide) h, fun k h => nI_Lle (by decide) h, fun k h => nI_Llt (by decide) h, fun k h => nI_eqL (by decide) h, fun k h => nI_Leq (by decide) h⟩
theorem NL_1 : (∀ k, k < 2147483648 → ((1 : Int32) ≤ nI k ↔ 1 ≤ k)) ∧ (∀ k, k < 2147483648 → ((1 : Int32) < nI k ↔ 1 < k)) ∧ (∀ k, k < 2147483648 → (nI k ≤ (1 : Int32) ↔ k ≤ 1)) ∧ (∀ k, k < 2147483648 → (nI k < (1 : Int32) ↔ k < 1)) ∧ (∀ k, k < 2147483648 → (nI k = (1 : Int32) ↔ k = 1)) ∧ (∀ k, k < 2147483648 → ((1 : Int32) = nI k ↔ 1 = k)) :=
  ⟨fun k h => nI_leL (by decide) h, fun k h => nI_ltL (by decide) h, fun k h => nI_Lle (by decide) h, fun k h => nI_Llt (by decide) h, fun k h => nI_eqL (by decide) h, fun k h => nI_Leq (by decide) h⟩
theorem NL_2 : (∀ k, k < 2147483648 → ((2 : Int32) ≤ nI k ↔ 2 ≤ k)) ∧ (∀ k, k < 2147483648 → ((2 : Int32) < nI k ↔ 2 < k)) ∧ (∀ k, k < 2147483648 → (nI k ≤ (2 : Int32) ↔ k ≤ 2)) ∧ (∀ k, k < 2147483648 → (nI k < (2 : Int32) ↔ k < 2)) ∧ (∀ k, k < 2147483648 → (nI k = (2 : Int32) ↔ k = 2)) ∧ (∀ k, k < 2147483648 → ((2 : Int32) = nI k ↔ 2 = k)) :=
  ⟨fun k h => nI_leL (by decide) h, fun k h => nI_ltL (by decide) h, fun k h => nI_Lle (by decide) h, fun k h => nI_Llt (by decide) h, fun k h => nI_eqL (by decide) h, fun k h => nI_Leq (by decide) h⟩
theorem NL_3 : (∀ k, k < 2147483648 → ((3 : Int32) ≤ nI k ↔ 3 ≤ k)) ∧ (∀ k, k < 2147483648 → ((3 : Int32) < nI k ↔ 3 < k)) ∧ (∀ k, k < 2147483648 → (nI k ≤ (3 : Int32) ↔ k ≤ 3)) ∧ (∀ k, k < 2147483648 → (nI k < (3 : Int32) ↔ k < 3)) ∧ (∀ k, k < 2147483648 → (nI k = (3 : Int32) ↔ k = 3)) ∧ (∀ k, k < 2147483648 → ((3 : Int32) = nI k ↔ 3 = k)) :=
  ⟨fun k h => nI_leL (by decide) h, fun k h => nI_ltL (by decide) h, fun k h => nI_Lle (by decide) h, fun k h => nI_Llt (by decide) h, fun k h => nI_eqL (by decide) h, fun k h => nI_Leq (by decide) h⟩
theorem NL_5 : (∀ k, k < 2147483648 → ((5 : Int32) ≤ nI k ↔ 5 ≤ k)) ∧ (∀ k, k < 2147483648 → ((5 : Int32) < nI k ↔ 5 < k)) ∧ (∀ k, k < 2147483648 → (nI k ≤ (5 : Int32) ↔ k ≤ 5)) ∧ (∀ k, k < 2147483648 → (nI k < (5 : Int32) ↔ k < 5)) ∧ (∀ k, k < 2147483648 → (nI k = (5 : Int32) ↔ k = 5)) ∧ (∀ k, k < 2147483648 → ((5 : Int32) = nI k ↔ 5 = k)) :=
  ⟨fun k h => nI_leL (by decide) h, fun k h => nI_ltL (by decide) h, fun k h => nI_Lle (by decide) h, fun k h => nI_Llt (by decide) h, fun k h => nI_eqL (by decide) h, fun k h => nI_Leq (by decide) h⟩
theorem NL_6 : (∀ k, k < 2147483648 → ((6 : Int32) ≤ nI k ↔ 6 ≤ k)) ∧ (∀ k, k < 2147483648 → ((6 : Int32) < nI k ↔ 6 < k)) ∧ (∀ k, k < 2147483648 → (nI k ≤ (6 : Int32) ↔ k ≤ 6)) ∧ (∀ k, k < 2147483648 → (nI k < (6 : Int32) ↔ k < 6)) ∧ (∀ k, k < 2147483648 → (nI k = (6 : Int32) ↔ k = 6)) ∧ (∀ k, k < 2147483648 → ((6 : Int32) = nI k ↔ 6 = k)) :=
  ⟨fun k h => nI_leL (by decide) h, fun k h => nI_ltL (by decide) h, fun k h => nI_Lle (by decide) h, fun k h => nI_Llt (by decide) h, fun k h => nI_eqL (by decide) h, fun k h => nI_Leq (by decide) h⟩
theorem NL_9 : (∀ k, k < 2147483648 → ((9 : Int32) ≤ nI k ↔ 9 ≤ k)) ∧ (∀ k, k < 2147483648 → ((9 : Int32) < nI k ↔ 9 < k)) ∧ (∀ k, k < 2147483648 → (nI k ≤ (9 : Int32) ↔ k ≤ 9)) ∧ (∀ k, k < 2147483648 → (nI k < (9 : Int32) ↔ k < 9)) ∧ (∀ k, k < 2147483648 → (nI k = (9 : Int32) ↔ k = 9)) ∧ (∀ k, k < 2147483648 → ((9 : Int32) = nI k ↔ 9 = k)) :=
  ⟨fun k h => nI_leL (by decide) h, fun k h => nI_ltL (by decide) h, fun k h => nI_Lle (by decide) h, fun k h => nI_Llt (by decide) h, fun k h => nI_eqL (by decide) h, fun k h => nI_Leq (by decide) h⟩
theorem NL_10 : (∀ k, k < 2147483648 → ((10 : Int32) ≤ nI k ↔ 10 ≤ k)) ∧ (∀ k, k < 2147483648 → ((10 : Int32) < nI k ↔ 10 < k)) ∧ (∀ k, k < 2147483648 → (nI k ≤ (10 : Int32) ↔ k ≤ 10)) ∧ (∀ k, k < 2147483648 → (nI k < (10 : Int32) ↔ k < 10)) ∧ (∀ k, k < 2147483648 → (nI k = (10 : Int32) ↔ k = 10)) ∧ (∀ k, k < 2147483648 → ((10 : Int32) = nI k ↔ 10 = k)) :=
  ⟨fun k h => nI_leL (by decide) h, fun k h => nI_ltL (by decide) h, fun k h => nI_Lle (by decide) h, fun k h => nI_Llt (by decide) h, fun k h => nI_eqL (by decide) h, fun k h => nI_Leq (by decide) h⟩
theorem NL_11 : (∀ k, k < 2147483648 → ((11 : Int32) ≤ nI k ↔ 11 ≤ k)) ∧ (∀ k, k < 2147483648 → ((11 : Int32) < nI k ↔ 11 < k)) ∧ (∀ k, k < 2147483648 → (nI k ≤ (11 : Int32) ↔ k ≤ 11)) ∧ (∀ k, k < 2147483648 → (nI k < (11 : Int32) ↔ k < 11)) ∧ (∀ k, k < 2147483648 → (nI k = (11 : Int32) ↔ k = 11)) ∧ (∀ k, k < 2147483648 → ((11 : Int32) = nI k ↔ 11 = k)) :=
  ⟨fun k h => nI_leL (by decide) h, fun k h => nI_ltL (by decide) h, fun k h => nI_Lle (by decide) h, fun k h => nI_Llt (by decide) h, fun k h => nI_eqL (by decide) h, fun k h => nI_Leq (by decide) h⟩
theorem NL_12 : (∀ k, k < 2147483648 → ((12 : Int32) ≤ nI k ↔ 12 ≤ k)) ∧ (∀ k, k < 2147483648 → ((12 : Int32) < nI k ↔ 12 < k)) ∧ (∀ k, k < 2147483648 → (nI k ≤ (12 : Int32) ↔ k ≤ 12)) ∧ (∀ k, k < 2147483648 → (nI k < (12 : Int32) ↔ k < 12)) ∧ (∀ k, k < 2147483648 → (nI k = (12 : Int32) ↔ k = 12)) ∧ (∀ k, k < 2147483648 → ((12 : Int32) = nI k ↔ 12 = k)) :=
  ⟨fun k h => nI_leL (by decide) h, fun k h => nI_ltL (by decide) h, fun k h => nI_Lle (by decide) h, fun k h => nI_Llt (by decide) h, fun k h => nI_eqL (by decide) h, fun k h => nI_Leq (by decide) h⟩
theorem NL_20 : (∀ k, k < 2147483648 → ((20 : Int32) ≤ nI k ↔ 20 ≤ k)) ∧ (∀ k, k < 2147483648 → ((20 : Int32) < nI k ↔ 20 < k)) ∧ (∀ k, k < 2147483648 → (nI k ≤ (20 : Int32) ↔ k ≤ 20)) ∧ (∀ k, k < 2147483648 → (nI k < (20 : Int32) ↔ k < 20)) ∧ (∀ k, k < 2147483648 → (nI k = (20 : Int32) ↔ k = 20)) ∧ (∀ k, k < 2147483648 → ((20 : Int32) = nI k ↔ 20 = k)) :=
  ⟨fun k h => nI_leL (by decide) h, fun k h => nI_ltL (by decide) h, fun k h => nI_Lle (by decide) h, fun k h => nI_Llt (by decide) h, fun k h => nI_eqL (by decide) h, fun k h => nI_Leq (by decide) h⟩
theorem NL_24 : (∀ k, k < 2147483648 → ((24 : Int32) ≤ nI k ↔ 24 ≤ k)) ∧ (∀ k, k < 2147483648 → ((24 : Int32) < nI k ↔ 24 < k)) ∧ (∀ k, k < 2147483648 → (nI k ≤ (24 : Int32) ↔ k ≤ 24)) ∧ (∀ k, k < 2147483648 → (nI k < (24 : Int32) ↔ k < 24)) ∧ (∀ k, k < 2147483648 → (nI k = (24 : Int32) ↔ k = 24)) ∧ (∀ k, k < 2147483648 → ((24 : Int32) = nI k ↔ 24 = k)) :=
  ⟨fun k h => nI_leL (by decide) h, fun k h => nI_ltL (by decide) h, fun k h => nI_Lle (by decide) h, fun k h => nI_Llt (by decide) h, fun k h => nI_eqL (by decide) h, fun k h => nI_Leq (by decide) h⟩
theorem NL_25 : (∀ k, k < 2147483648 → ((25 : Int32) ≤ nI k ↔ 25 ≤ k)) ∧ (∀ k, k < 2147483648 → ((25 : Int32) < nI k ↔ 25 < k)) ∧ (∀ k, k < 2147483648 → (nI k ≤ (25 : Int32) ↔ k ≤ 25)) ∧ (∀ k, k < 2147483648 → (nI k < (25 : Int32) ↔ k < 25)) ∧ (∀ k, k < 2147483648 → (nI k = (25 : Int32) ↔ k = 25)) ∧ (∀ k, k < 2147483648 → ((25 : Int32) = nI k ↔ 25 = k)) :=
  ⟨fun k h => nI_leL (by decide) h, fun k h => nI_ltL (by decide) h, fun k h => nI_Lle (by decide) h, fun k h => nI_Llt (by decide) h, fun k h => nI_eqL (by decide) h, fun k h => nI_Leq (by decide) h⟩
theorem NL_60 : (∀ k, k < 2147483648 → ((60 : Int32) ≤ nI k ↔ 60 ≤ k)) ∧ (∀ k, k < 2147483648 → ((60 : Int32) < nI k ↔ 60 < k)) ∧ (∀ k, k < 2147483648 → (nI k ≤ (60 : Int32) ↔ k ≤ 60)) ∧ (∀ k, k < 2147483648 → (nI k < (60 : Int32) ↔ k < 60)) ∧ (∀ k, k < 2147483648 → (nI k = (60 : Int32) ↔ k = 60)) ∧ (∀ k, k < 2147483648 → ((60 : Int32) = nI k ↔ 60 = k)) :=
  ⟨fun k h => nI_leL (by decide) h, fun k h => nI_ltL (by decide) h, fun k h => nI_Lle (by decide) h, fun k h => nI_Llt (by decide) h, fun k h => nI_eqL (by decide) h, fun k h => nI_Leq (by decide) h⟩
theorem NL_64 : (∀ k, k < 2147483648 → ((64 : Int32) ≤ nI k ↔ 64 ≤ k)) ∧ (∀ k, k < 2147483648 → ((64 : Int32) < nI k ↔ 64 < k)) ∧ (∀ k, k < 2147483648 → (nI k ≤ (64 : Int32) ↔ k ≤ 64)) ∧ (∀ k, k < 2147483648 → (nI k < (64 : Int32) ↔ k < 64)) ∧ (∀ k, k < 2147483648 → (nI k = (64 : Int32) ↔ k = 64)) ∧ (∀ k, k < 2147483648 → ((64 : Int32) = nI k ↔ 64 = k)) :=
  ⟨fun k h => nI_leL (by decide) h, fun k h => nI_ltL (by decide) h, fun k h => nI_Lle (by decide) h, fun k h => nI_Llt (by decide) h, fun k h => nI_eqL (by decide) h, fun k h => nI_Leq (by decide) h⟩
theorem NL_90 : (∀ k, k < 2147483648 → ((90 : Int32) ≤ nI k ↔ 90 ≤ k)) ∧ (∀ k, k < 2147483648 → ((90 : Int32) < nI k ↔ 90 < k)) ∧ (∀ k, k < 2147483648 → (nI k ≤ (90 : Int32) ↔ k ≤ 90)) ∧ (∀ k, k < 2147483648 → (nI k < (90 : Int32) ↔ k < 90)) ∧ (∀ k, k < 2147483648 → (nI k = (90 : Int32) ↔ k = 90)) ∧ (∀ k, k < 2147483648 → ((90 : Int32) = nI k ↔ 90 = k)) :=
  ⟨fun k h => nI_leL (by decide) h, fun k h => nI_ltL (by decide) h, fun k h => nI_Lle (by decide) h, fun k h => nI_Llt (by decide) h, fun k h => nI_eqL (by decide) h, fun k h => nI_Leq (by decide) h⟩
theorem NL_100 : (∀ k, k < 2147483648 → ((100 : Int32) ≤ nI k ↔ 100 ≤ k)) ∧ (∀ k, k < 2147483648 → ((100 : Int32) < nI k ↔ 100 < k)) ∧ (∀ k, k < 2147483648 → (nI k ≤ (100 : Int32) ↔ k ≤ 100)) ∧ (∀ k, k < 2147483648 → (nI k < (100 : Int32) ↔ k < 100)) ∧ (∀ k, k < 2147483648 → (nI k = (100 : Int32) ↔ k = 100)) ∧ (∀ k, k < 2147483648 → ((100 : Int32) = nI k ↔ 100 = k)) :=
  ⟨fun k h => nI_leL (by decide) h, fun k h => nI_ltL (by decide) h, fun k h => nI_Lle (by decide) h, fun k h => nI_Llt (by decide) h, fun k h => nI_eqL (by decide) h, fun k h => nI_Leq (by decide) h⟩
theorem NL_120 : (∀ k, k < 2147483648 → ((120 : Int32) ≤ nI k ↔ 120 ≤ k)) ∧ (∀ k, k < 2147483648 → ((120 : Int32) < nI k ↔ 120 < k)) ∧ (∀ k, k < 2147483648 → (nI k ≤ (120 : Int32) ↔ k ≤ 120)) ∧ (∀ k, k < 2147483648 → (nI k < (120 : Int32) ↔ k < 120)) ∧ (∀ k, k < 2147483648 → (nI k = (120 : Int32) ↔ k = 120)) ∧ (∀ k, k < 2147483648 → ((120 : Int32) = nI k ↔ 120 = k)) :=
  ⟨fun k h => nI_leL (by decide) h, fun k h => nI_ltL (by decide) h, fun k h => nI_Lle (by decide) h, fun k h => nI_Llt (by decide) h, fun k h => nI_eqL (by decide) h, fun k h => nI_Leq (by decide) h⟩
theorem NL_900 : (∀ k, k < 2147483648 → ((900 : Int32) ≤ nI k ↔ 900 ≤ k)) ∧ (∀ k, k < 2147483648 → ((900 : Int32) < nI k ↔ 900 < k)) ∧ (∀ k, k < 2147483648 → (nI k ≤ (900 : Int32) ↔ k ≤ 900)) ∧ (∀ k, k < 2147483648 → (nI k < (900 : Int32) ↔ k < 900)) ∧ (∀ k, k < 2147483648 → (nI k = (900 : Int32) ↔ k = 900)) ∧ (∀ k, k < 2147483648 → ((900 : Int32) = nI k ↔ 900 = k)) :=
  ⟨fun k h => nI_leL (by decide) h, fun k h => nI_ltL (by decide) h, fun k h => nI_Lle (by decide) h, fun k h => nI_Llt (by decide) h, fun k h => nI_eqL (by decide) h, fun k h => nI_Leq (by decide) h⟩
theorem NL_999 : (∀ k, k < 2147483648 → ((999 : Int32) ≤ nI k ↔ 999 ≤ k)) ∧ (∀ k, k < 2147483648 → ((999 : Int32) < nI k ↔ 999 < k)) ∧ (∀ k, k < 2147483648 → (nI k ≤ (999 : Int32) ↔ k ≤ 999)) ∧ (∀ k, k < 2147483648 → (nI k < (999 : Int32) ↔ k < 999)) ∧ (∀ k, k < 2147483648 → (nI k = (999 : Int32) ↔ k = 999)) ∧ (∀ k, k < 2147483648 → ((999 : Int32) = nI k ↔ 999 = k)) :=
  ⟨fun k h => nI_leL (by decide) h, fun k h => nI_ltL (by decide) h, fun k h => nI_Lle (by decide) h, fun k h => nI_Llt (by decide) h, fun k h => nI_eqL (by decide) h, fun k h => nI_Leq (by decide) h⟩
theorem NL_9999 : (∀ k, k < 2147483648 → ((9999 : Int32) ≤ nI k ↔ 9999 ≤ k)) ∧ (∀ k, k < 2147483648 → ((9999 : Int32) < nI k ↔ 9999 < k)) ∧ (∀ k, k < 2147483648 → (nI k ≤ (9999 : Int32) ↔ k ≤ 9999)) ∧ (∀ k, k < 2147483648 → (nI k < (9999 : Int32) ↔ k < 9999)) ∧ (∀ k, k < 2147483648 → (nI k = (9999 : Int32) ↔ k = 9999)) ∧ (∀ k, k < 2147483648 → ((9999 : Int32) = nI k ↔ 9999 = k)) :=
  ⟨fun k h => nI_leL (by decide) h, fun k h => nI_ltL (by decide) h, fun k h => nI_Lle (by decide) h, fun k h => nI_Llt (by decide) h, fun k h => nI_eqL (by decide) h, fun k h => nI_Leq (by decide) h⟩
theorem NL_99999 : (∀ k, k < 2147483648 → ((99999 : Int32) ≤ nI k ↔ 99999 ≤ k)) ∧ (∀ k, k < 2147483648 → ((99999 : Int32) < nI k ↔ 99999 < k)) ∧ (∀ k, k < 2147483648 → (nI k ≤ (99999 : Int32) ↔ k ≤ 99999)) ∧ (∀ k, k < 2147483648 → (nI k < (99999 : Int32) ↔ k < 99999)) ∧ (∀ k, k < 2147483648 → (nI k = (99999 : Int32) ↔ k = 99999)) ∧ (∀ k, k < 2147483648 → ((99999 : Int32) = nI k ↔ 99999 = k)) :=
  ⟨fun k h => nI_leL (by decide) h, fun k h => nI_ltL (by decide) h, fun k h => nI_Lle (by decide) h, fun k h => nI_Llt (by decide) h, fun k h => nI_eqL (by decide) h, fun k h => nI_Leq (by decide) h⟩
theorem NL_1000000 : (∀ k, k < 2147483648 → ((1000000 : Int32) ≤ nI k ↔ 1000000 ≤ k)) ∧ (∀ k, k < 2147483648 → ((1000000 : Int32) < nI k ↔ 1000000 < k)) ∧ (∀ k, k < 2147483648 → (nI k ≤ (1000000 : Int32) ↔ k ≤ 1000000)) ∧ (∀ k, k < 2147483648 → (nI k < (1000000 : Int32) ↔ k < 1000000)) ∧ (∀ k, k < 2147483648 → (nI k = (1000000 : Int32) ↔ k = 1000000)) ∧ (∀ k, k < 2147483648 → ((1000000 : Int32) = nI k ↔ 1000000 = k)) :=
  ⟨fun k h => nI_leL (by decide) h, fun k h => nI_ltL (by decide) h, fun k h => nI_Lle (by decide) h, fun k h => nI_Llt (by decide) h, fun k h => nI_eqL (by decide) h, fun k h => nI_Leq (by decide) h⟩
theorem NL_208 : (∀ k, k < 2147483648 → ((208 : Int32) ≤ nI k ↔ 208 ≤ k)) ∧ (∀ k, k < 2147483648 → ((208 : Int32) < nI k ↔ 208 < k)) ∧ (∀ k, k < 2147483648 → (nI k ≤ (208 : Int32) ↔ k ≤ 208)) ∧ (∀ k, k < 2147483648 → (nI k < (208 : Int32) ↔ k < 208)) ∧ (∀ k, k < 2147483648 → (nI k = (208 : Int32) ↔ k = 208)) ∧ (∀ k, k < 2147483648 → ((208 : Int32) = nI k ↔ 208 = k)) :=
  ⟨fun k h => nI_leL (by decide) h, fun k h => nI_ltL (by decide) h, fun k h => nI_Lle (by decide) h, fun k h => nI_Llt (by decide) h, fun k h => nI_eqL (by decide) h, fun k h => nI_Leq (by decide) h⟩
theorem NL_2080 : (∀ k, k < 2147483648 → ((2080 : Int32) ≤ nI k ↔ 2080 ≤ k)) ∧ (∀ k, k < 2147483648 → ((2080 : Int32) < nI k ↔ 2080 < k)) ∧ (∀ k, k < 2147483648 → (nI k ≤ (2080 : Int32) ↔ k ≤ 2080)) ∧ (∀ k, k < 2147483648 → (nI k < (2080 : Int32) ↔ k < 2080)) ∧ (∀ k, k < 2147483648 → (nI k = (2080 : Int32) ↔ k = 2080)) ∧ (∀ k, k < 2147483648 → ((2080 : Int32) = nI k ↔ 2080 = k)) :=
  ⟨fun k h => nI_leL (by decide) h, fun k h => nI_ltL (by decide) h, fun k h => nI_Lle (by decide) h, fun k h => nI_Llt (by decide) h, fun k h => nI_eqL (by decide) h, fun k h => nI_Leq (by decide) h⟩
theorem NL_10000 : (∀ k, k < 2147483648 → ((10000 : Int32) ≤ nI k ↔ 10000 ≤ k)) ∧ (∀ k, k < 2147483648 → ((10000 : Int32) < nI k ↔ 10000 < k)) ∧ (∀ k, k < 2147483648 → (nI k ≤ (10000 : Int32) ↔ k ≤ 10000)) ∧ (∀ k, k < 2147483648 → (nI k < (10000 : Int32) ↔ k < 10000)) ∧ (∀ k, k < 2147483648 → (nI k = (10000 : Int32) ↔ k = 10000)) ∧ (∀ k, k < 2147483648 → ((10000 : Int32) = nI k ↔ 10000 = k)) :=
  ⟨fun k h => nI_leL (by decide) h, fun k h => nI_ltL (by decide) h, fun k h => nI_Lle (by decide) h, fun k h => nI_Llt (by decide) h, fun k h => nI_eqL (by decide) h, fun k h => nI_Leq (by decide) h⟩
/-- fewer locals are known -/
theorem jW.mono {g : jG} {mt : jMt} {n : Nat} {post : Option Value → jM → Prop} {pc : Nat} {L L' : List (Nat × Value)} {st : List Value} {σ : jM} (k : jW g mt n post pc L' st σ) (h : ∀ q ∈ L', q ∈ L) : jW g mt n post pc L st σ := by
  intro p e s m as below meth c H locs ls X hP hS hl
  refine k p e s m as below meth c H locs ls X hP hS (lv_mono hl (fun q hq => ?_))
  obtain ⟨z, hz, rfl⟩ := List.mem_map.mp hq
  exact List.mem_map.mpr ⟨z, h z hz, rfl⟩
/-- the first k from k on, of d, that has p; -1 if none has -/
def ff (p : Nat → Bool) : Nat → Nat → Int32
  | 0, _ => -1
  | d + 1, k => if p k then nI k else ff p d (k + 1)
