/-! the walk of a stretch of a method, computed: jvc; right by jvc_ok -/
section JV
variable {g : jG} {mt : jMt} {n : Nat} {post : Option Value → jM → Prop}
theorem jst_ok {F : List (Nat × Nat × Nat × Nat)} {C2 : List (Nat × Int64)} {pc nx tg : Nat} {i : Instr} {k : Int32} {L : List (Nat × Value)} {st : List Value} {σ : jM} {K : Nat → List (Nat × Value) → List Value → jM → Prop} {Z : Prop}
    (hF : ∀ q ∈ F, jFok mt.1.cls q) (hC2 : ∀ q ∈ C2, Cond.constantLong mt.1.cls q.1 q.2 ∈ jGw)
    (hd : decode mt.2.1 pc = .ok (i, jln i)) (hn : nx = pc + jln i) (ht : jtgt pc tg i = true) (hk : jcs k i = true) (hc : ∀ j, (i = .ldc j ∨ i = .ldc_w j) → Cond.constant mt.1.cls j k ∈ jGw)
    (hK : ∀ pc' L' st' σ', K pc' L' st' σ' → jW g mt n post pc' L' st' σ') (hZ : Z → jW g mt n post pc L st σ)
    (h : jst F C2 mt.2.2.1 mt.2.2.2 post i nx tg k L st σ K Z) : jW g mt n post pc L st σ := by
  subst hn
  cases i with
  | iconst z => exact jr_iconst (by simpa [jcs] using hk) hd (hK _ _ _ _ h)
  | bipush z => exact jr_bipush (by simpa [jcs] using hk) hd (hK _ _ _ _ h)
  | sipush z => exact jr_sipush (by simpa [jcs] using hk) hd (hK _ _ _ _ h)
  | ldc j => exact jr_ldc (hc j (Or.inl rfl)) hd (hK _ _ _ _ h)
  | ldc_w j => exact jr_ldcw (hc j (Or.inr rfl)) hd (hK _ _ _ _ h)
  | lconst z =>
    match z, hd, h with
    | 0, hd, h => exact jr_lconst rfl hd (hK _ _ _ _ h)
    | 1, hd, h => exact jr_lconst rfl hd (hK _ _ _ _ h)
  | ldc2_w j =>
    dsimp only [jst] at h
    cases e : jc2 C2 j with
    | none => rw [e] at h; exact hZ h
    | some v => rw [e] at h; exact jr_ldc2 (hC2 _ (jc2_mem e)) hd (hK _ _ _ _ h)
  | iload j =>
    dsimp only [jst] at h
    split at h
    · rename_i x e; exact jr_iload e hd (hK _ _ _ _ h)
    · exact hZ h
  | iload_n j =>
    dsimp only [jst] at h
    split at h
    · rename_i x e; exact jr_iloadn e hd (hK _ _ _ _ h)
    · exact hZ h
  | lload j =>
    dsimp only [jst] at h
    split at h
    · rename_i x e; exact jr_lload e hd (hK _ _ _ _ h)
    · exact hZ h
  | lload_n j =>
    dsimp only [jst] at h
    split at h
    · rename_i x e; exact jr_lloadn e hd (hK _ _ _ _ h)
    · exact hZ h
  | aload j =>
    dsimp only [jst] at h
    split at h
    · rename_i x e; exact jr_aload e hd (hK _ _ _ _ h)
    · exact hZ h
  | aload_n j =>
    dsimp only [jst] at h
    split at h
    · rename_i x e; exact jr_aloadn e hd (hK _ _ _ _ h)
    · exact hZ h
  | istore j =>
    dsimp only [jst] at h
    split at h
    · cases e : Nat.blt j mt.2.2.1 with
      | true => rw [e] at h; exact jr_istore (by simpa using e) hd (hK _ _ _ _ h)
      | false => rw [e] at h; exact hZ h
    · exact hZ h
  | istore_n j =>
    dsimp only [jst] at h
    split at h
    · cases e : Nat.blt j.val mt.2.2.1 with
      | true => rw [e] at h; exact jr_istoren (by simpa using e) hd (hK _ _ _ _ h)
      | false => rw [e] at h; exact hZ h
    · exact hZ h
  | astore j =>
    dsimp only [jst] at h
    split at h
    · cases e : Nat.blt j mt.2.2.1 with
      | true => rw [e] at h; exact jr_astore (by simpa using e) hd (hK _ _ _ _ h)
      | false => rw [e] at h; exact hZ h
    · exact hZ h
  | astore_n j =>
    dsimp only [jst] at h
    split at h
    · cases e : Nat.blt j.val mt.2.2.1 with
      | true => rw [e] at h; exact jr_astoren (by simpa using e) hd (hK _ _ _ _ h)
      | false => rw [e] at h; exact hZ h
    · exact hZ h
  | lstore j =>
    dsimp only [jst] at h
    split at h
    · cases e : Nat.blt (j + 1) mt.2.2.1 with
      | true => rw [e] at h; exact jr_lstore (by simpa using e) hd (hK _ _ _ _ h)
      | false => rw [e] at h; exact hZ h
    · exact hZ h
  | lstore_n j =>
    dsimp only [jst] at h
    split at h
    · cases e : Nat.blt (j.val + 1) mt.2.2.1 with
      | true => rw [e] at h; exact jr_lstoren (by simpa using e) hd (hK _ _ _ _ h)
      | false => rw [e] at h; exact hZ h
    · exact hZ h
  | iinc j z =>
    dsimp only [jst] at h
    split at h
    · rename_i x ex
      cases e : Nat.blt j mt.2.2.1 with
      | true => rw [e] at h; exact jr_iinc (by simpa [jcs] using hk) ex (by simpa using e) hd (hK _ _ _ _ h)
      | false => rw [e] at h; exact hZ h
    · exact hZ h
  | iadd =>
    dsimp only [jst] at h
    split at h
    · exact jr_iadd hd (hK _ _ _ _ h)
    · exact hZ h
  | isub =>
    dsimp only [jst] at h
    split at h
    · exact jr_isub hd (hK _ _ _ _ h)
    · exact hZ h
  | imul =>
    dsimp only [jst] at h
    split at h
    · exact jr_imul hd (hK _ _ _ _ h)
    · exact hZ h
  | iand =>
    dsimp only [jst] at h
    split at h
    · exact jr_iand hd (hK _ _ _ _ h)
    · exact hZ h
  | ior =>
    dsimp only [jst] at h
    split at h
    · exact jr_ior hd (hK _ _ _ _ h)
    · exact hZ h
  | ixor =>
    dsimp only [jst] at h
    split at h
    · exact jr_ixor hd (hK _ _ _ _ h)
    · exact hZ h
  | ishl =>
    dsimp only [jst] at h
    split at h
    · exact jr_ishl hd (hK _ _ _ _ h)
    · exact hZ h
  | ishr =>
    dsimp only [jst] at h
    split at h
    · exact jr_ishr hd (hK _ _ _ _ h)
    · exact hZ h
  | iushr =>
    dsimp only [jst] at h
    split at h
    · exact jr_iushr hd (hK _ _ _ _ h)
    · exact hZ h
  | idiv =>
    dsimp only [jst] at h
    split at h
    · exact jr_idiv h.1 hd (hK _ _ _ _ h.2)
    · exact hZ h
  | irem =>
    dsimp only [jst] at h
    split at h
    · exact jr_irem h.1 hd (hK _ _ _ _ h.2)
    · exact hZ h
  | ineg =>
    dsimp only [jst] at h
    split at h
    · exact jr_ineg hd (hK _ _ _ _ h)
    · exact hZ h
  | i2l =>
    dsimp only [jst] at h
    split at h
    · exact jr_i2l hd (hK _ _ _ _ h)
    · exact hZ h
  | l2i =>
    dsimp only [jst] at h
    split at h
    · exact jr_l2i hd (hK _ _ _ _ h)
    · exact hZ h
  | i2b =>
    dsimp only [jst] at h
    split at h
    · exact jr_i2b hd (hK _ _ _ _ h)
    · exact hZ h
  | i2c =>
    dsimp only [jst] at h
    split at h
    · exact jr_i2c hd (hK _ _ _ _ h)
    · exact hZ h
  | i2d =>
    dsimp only [jst] at h
    split at h
    · exact jr_i2d hd (hK _ _ _ _ h)
    · exact hZ h
  | ddiv =>
    dsimp only [jst] at h
    split at h
    · exact jr_ddiv h.1 hd (hK _ _ _ _ h.2)
    · exact hZ h
  | ladd =>
    dsimp only [jst] at h
    split at h
    · exact jr_ladd hd (hK _ _ _ _ h)
    · exact hZ h
  | lmul =>
    dsimp only [jst] at h
    split at h
    · exact jr_lmul hd (hK _ _ _ _ h)
    · exact hZ h
  | ldiv =>
    dsimp only [jst] at h
    split at h
    · exact jr_ldiv h.1 hd (hK _ _ _ _ h.2)
    · exact hZ h
  | lrem =>
    dsimp only [jst] at h
    split at h
    · exact jr_lrem h.1 hd (hK _ _ _ _ h.2)
    · exact hZ h
  | lcmp =>
    dsimp only [jst] at h
    split at h
    · exact jr_lcmp hd (hK _ _ _ _ h)
    · exact hZ h
  | dup =>
    dsimp only [jst] at h
    split at h
    · rename_i v r
      cases e : v.category == 1 with
      | true => rw [e] at h; exact jr_dup (by simpa using e) hd (hK _ _ _ _ h)
      | false => rw [e] at h; exact hZ h
    · exact hZ h
  | dup2 =>
    dsimp only [jst] at h
    split at h
    · rename_i v w r
      cases e : (v.category == 1 && w.category == 1) with
      | true => rw [e] at h; exact jr_dup2 (by simp at e; exact e.1) (by simp at e; exact e.2) hd (hK _ _ _ _ h)
      | false => rw [e] at h; exact hZ h
    · exact hZ h
  | pop =>
    dsimp only [jst] at h
    split at h
    · rename_i v r
      cases e : v.category == 1 with
      | true => rw [e] at h; exact jr_pop (by simpa using e) hd (hK _ _ _ _ h)
      | false => rw [e] at h; exact hZ h
    · exact hZ h
  | ifCond cd o =>
    dsimp only [jst] at h
    split at h
    · refine jr_if hd (by simpa [jtgt] using ht) ?_
      cases cd <;> exact ⟨fun q => hK _ _ _ _ (h.1 q), fun q => hK _ _ _ _ (h.2 q)⟩
    · exact hZ h
  | if_icmp cd o =>
    dsimp only [jst] at h
    split at h
    · refine jr_icmp hd (by simpa [jtgt] using ht) ?_
      cases cd <;> exact ⟨fun q => hK _ _ _ _ (h.1 q), fun q => hK _ _ _ _ (h.2 q)⟩
    · exact hZ h
  | goto o => exact jr_goto hd (by simpa [jtgt] using ht) (hK _ _ _ _ h)
  | ifnonnull o =>
    dsimp only [jst] at h
    split at h
    · exact jr_ifnonnull hd (by simpa [jtgt] using ht) (hK _ _ _ _ h)
    · exact hZ h
  | ifnull o =>
    dsimp only [jst] at h
    split at h
    · exact jr_ifnull hd (hK _ _ _ _ h)
    · exact hZ h
  | getfield j =>
    dsimp only [jst] at h
    split at h
    · rename_i a r
      split at h
      · rename_i ci f tc e
        have hf := hF _ (jfl_mem e)
        split at h
        · cases ho : jobj a ci f 1 with
          | true => rw [ho] at h; exact jr_getl hf ho hd (hK _ _ _ _ h)
          | false => rw [ho] at h; exact hZ h
        · cases ho : jobj a ci f 2 with
          | true => rw [ho] at h; exact jr_getr hf ho hd (hK _ _ _ _ h)
          | false => rw [ho] at h; exact hZ h
        · cases ho : jobj a ci f 0 with
          | true => rw [ho] at h; exact jr_geti hf ho hd (hK _ _ _ _ h)
          | false => rw [ho] at h; exact hZ h
      · exact hZ h
    · exact hZ h
  | putfield j =>
    dsimp only [jst] at h
    split at h
    · rename_i x a r
      split at h
      · rename_i ci f tc e
        have hf := hF _ (jfl_mem e)
        split at h
        · cases ho : jobj a ci f 0 with
          | true => rw [ho] at h; exact jr_puti hf ho hd (hK _ _ _ _ h)
          | false => rw [ho] at h; exact hZ h
        · cases ho : jobj a ci f 0 with
          | true => rw [ho] at h; exact jr_putz h.1 hf ho hd (hK _ _ _ _ h.2)
          | false => rw [ho] at h; exact hZ h
        · exact hZ h
      · exact hZ h
    · rename_i x a r
      split at h
      · rename_i ci f tc e
        have hf := hF _ (jfl_mem e)
        split at h
        · cases ho : jobj a ci f 1 with
          | true => rw [ho] at h; exact jr_putl hf ho hd (hK _ _ _ _ h)
          | false => rw [ho] at h; exact hZ h
        · exact hZ h
      · exact hZ h
    · exact hZ h
  | iaload =>
    dsimp only [jst] at h
    split at h
    · rename_i j a r
      cases ho : jarr a 1 0 with
      | true => rw [ho] at h; exact jr_iald ho h.1 hd (hK _ _ _ _ h.2)
      | false => rw [ho] at h; exact hZ h
    · exact hZ h
  | baload =>
    dsimp only [jst] at h
    split at h
    · rename_i j a r
      cases ho : jarr a 1 1 with
      | true => rw [ho] at h; exact jr_bald ho h.1 hd (hK _ _ _ _ h.2)
      | false =>
        rw [ho] at h
        cases ho : jarr a 1 3 with
        | true => rw [ho] at h; exact jr_zald ho h.1 hd (hK _ _ _ _ h.2)
        | false => rw [ho] at h; exact hZ h
    · exact hZ h
  | caload =>
    dsimp only [jst] at h
    split at h
    · rename_i j a r
      cases ho : jarr a 1 2 with
      | true => rw [ho] at h; exact jr_cald ho h.1 hd (hK _ _ _ _ h.2)
      | false => rw [ho] at h; exact hZ h
    · exact hZ h
  | laload =>
    dsimp only [jst] at h
    split at h
    · rename_i j a r
      cases ho : jarr a 2 4 with
      | true => rw [ho] at h; exact jr_lald ho h.1 hd (hK _ _ _ _ h.2)
      | false => rw [ho] at h; exact hZ h
    · exact hZ h
  | aaload =>
    dsimp only [jst] at h
    split at h
    · rename_i j a r
      cases ho : jarr a 4 6 with
      | true => rw [ho] at h; exact jr_aald ho (Or.inl rfl) h.1 hd (hK _ _ _ _ h.2)
      | false =>
        rw [ho] at h
        cases ho : jarr a 4 7 with
        | true => rw [ho] at h; exact jr_aald ho (Or.inr rfl) h.1 hd (hK _ _ _ _ h.2)
        | false => rw [ho] at h; exact hZ h
    · exact hZ h
  | iastore =>
    dsimp only [jst] at h
    split at h
    · rename_i x j a r
      cases ho : jarr a 1 0 with
      | true => rw [ho] at h; exact jr_iast ho h.1 hd (hK _ _ _ _ h.2)
      | false => rw [ho] at h; exact hZ h
    · exact hZ h
  | bastore =>
    dsimp only [jst] at h
    split at h
    · rename_i x j a r
      cases ho : jarr a 1 1 with
      | true => rw [ho] at h; exact jr_bast ho h.1 hd (hK _ _ _ _ h.2)
      | false =>
        rw [ho] at h
        cases ho : jarr a 1 3 with
        | true => rw [ho] at h; exact jr_zast ho h.1 hd (hK _ _ _ _ h.2)
        | false => rw [ho] at h; exact hZ h
    · exact hZ h
  | castore =>
    dsimp only [jst] at h
    split at h
    · rename_i x j a r
      cases ho : jarr a 1 2 with
      | true => rw [ho] at h; exact jr_cast ho h.1 hd (hK _ _ _ _ h.2)
      | false => rw [ho] at h; exact hZ h
    · exact hZ h
  | lastore =>
    dsimp only [jst] at h
    split at h
    · rename_i x j a r
      cases ho : jarr a 2 4 with
      | true => rw [ho] at h; exact jr_last ho h.1 hd (hK _ _ _ _ h.2)
      | false => rw [ho] at h; exact hZ h
    · exact hZ h
  | arraylength =>
    dsimp only [jst] at h
    split at h
    · rename_i a r
      cases ho : jarr a 1 0 with
      | true => rw [ho] at h; exact jr_alen ho (by decide) (Or.inl rfl) hd (hK _ _ _ _ h)
      | false =>
        cases ho1 : jarr a 1 1 with
        | true => rw [ho, ho1] at h; exact jr_alen ho1 (by decide) (Or.inl rfl) hd (hK _ _ _ _ h)
        | false =>
          cases ho2 : jarr a 1 2 with
          | true => rw [ho, ho1, ho2] at h; exact jr_alen ho2 (by decide) (Or.inl rfl) hd (hK _ _ _ _ h)
          | false =>
            cases ho3 : jarr a 4 6 with
            | true => rw [ho, ho1, ho2, ho3] at h; exact jr_alen ho3 (by decide) (Or.inr rfl) hd (hK _ _ _ _ h)
            | false => rw [ho, ho1, ho2, ho3] at h; exact hZ h
    · exact hZ h
  | dconst z =>
    match z, hd, h with
    | 0, hd, h => exact jr_dconst0 hd (hK _ _ _ _ h)
    | 1, hd, h => exact hZ h
  | ireturn =>
    dsimp only [jst] at h
    split at h
    · split at h
      · rename_i e; exact jr_iret e h hd
      · rename_i e; exact jr_zret e h.1 h.2 hd
      · exact hZ h
    · exact hZ h
  | return_ =>
    dsimp only [jst] at h
    split at h
    · split at h
      · rename_i e; exact jr_vret e h hd
      · exact hZ h
    · exact hZ h
  | areturn =>
    dsimp only [jst] at h
    split at h
    · split at h
      · rename_i e; exact jr_aret e h hd
      · exact hZ h
    · exact hZ h
  | dreturn =>
    dsimp only [jst] at h
    split at h
    · split at h
      · rename_i e; exact jr_dret e h hd
      · exact hZ h
    · exact hZ h
  | _ => exact hZ h
abbrev jTb : Type := List (Nat × Instr × Nat × Nat × Int32)
def jtb : jTb → Nat → Option (Instr × Nat × Nat × Int32)
  | [], _ => none
  | (j, v) :: r, i => bif j == i then some v else jtb r i
theorem jtb_mem : ∀ {F : jTb} {i : Nat} {v : Instr × Nat × Nat × Int32}, jtb F i = some v → (i, v) ∈ F
  | [], _, _, h => by cases h
  | (j, w) :: r, i, v, h => by
    unfold jtb at h
    by_cases e : j = i
    · subst e
      simp at h
      subst h
      exact List.mem_cons_self
    · have e1 : (j == i) = false := by simpa using e
      rw [e1] at h
      exact List.mem_cons_of_mem _ (jtb_mem h)
def jel : List Nat → Nat → Bool
  | [], _ => false
  | j :: r, i => bif j == i then true else jel r i
/-- a row of a method's table, right -/
def jEok (b : ByteArray) (q : Nat × Instr × Nat × Nat × Int32) : Bool := decide (decode b q.1 = .ok (q.2.1, jln q.2.1)) && (q.2.2.1 == q.1 + jln q.2.1 && (jtgt q.1 q.2.2.2.1 q.2.1 && jcs q.2.2.2.2 q.2.1))
/-- what a method's walk stands on: its class's fields and long constants, its rows -/
def jT (mt : jMt) (F : List (Nat × Nat × Nat × Nat)) (C2 : List (Nat × Int64)) (tb : jTb) : Prop :=
  (∀ q ∈ F, jFok mt.1.cls q) ∧ (∀ q ∈ C2, Cond.constantLong mt.1.cls q.1 q.2 ∈ jGw) ∧ tb.all (jEok mt.2.1) = true ∧ ∀ q ∈ tb, ∀ j, (q.2.1 = .ldc j ∨ q.2.1 = .ldc_w j) → Cond.constant mt.1.cls j q.2.2.2.2 ∈ jGw
def jvc (F : List (Nat × Nat × Nat × Nat)) (C2 : List (Nat × Int64)) (ml : Nat) (ret : Option FieldType) (R : Option Value → jM → Prop) (tb : jTb) (stop : List Nat) (Q : Nat → List (Nat × Value) → List Value → jM → Prop) : Nat → Nat → List (Nat × Value) → List Value → jM → Prop
  | 0, pc, L, st, σ => Q pc L st σ
  | f + 1, pc, L, st, σ => match jtb tb pc with
    | none => Q pc L st σ
    | some (i, nx, tg, k) => jst F C2 ml ret R i nx tg k L st σ (fun pc' L' st' σ' => bif jel stop pc' then Q pc' L' st' σ' else jvc F C2 ml ret R tb stop Q f pc' L' st' σ') (Q pc L st σ)
theorem jvc_ok {F : List (Nat × Nat × Nat × Nat)} {C2 : List (Nat × Int64)} {tb : jTb} (hT : jT mt F C2 tb) (stop : List Nat) : ∀ (f pc : Nat) (L : List (Nat × Value)) (st : List Value) (σ : jM), jvc F C2 mt.2.2.1 mt.2.2.2 post tb stop (jW g mt n post) f pc L st σ → jW g mt n post pc L st σ
  | 0, _, _, _, _, h => h
  | f + 1, pc, L, st, σ, h => by
    unfold jvc at h
    split at h
    · exact h
    · rename_i i nx tg k e
      have hm := jtb_mem e
      have h1 := List.all_eq_true.mp hT.2.2.1 _ hm
      simp only [jEok, Bool.and_eq_true, decide_eq_true_eq, beq_iff_eq] at h1
      obtain ⟨a1, a2, a3, a4⟩ := h1
      refine jst_ok hT.1 hT.2.1 a1 a2 a3 a4 (fun j hj => hT.2.2.2 _ hm j hj) (fun pc' L' st' σ' hk => ?_) (fun z => z) h
      cases hs : jel stop pc' with
      | true => rw [hs] at hk; exact hk
      | false => rw [hs] at hk; exact jvc_ok hT stop f pc' L' st' σ' hk
end JV
