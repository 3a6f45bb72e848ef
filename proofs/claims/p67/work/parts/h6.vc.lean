/-! one instruction of the judgement DW, computed: dst; a stretch of a method with its calls: dvk. (by program) -/
abbrev dAl : Type := List (Nat × Nat × Nat)
def dal : dAl → Nat → Option (Nat × Nat)
  | [], _ => none
  | (j, v) :: r, i => bif j == i then some v else dal r i
def dst (z : dZ) (F : List (Nat × Nat × Nat × Nat)) (C2 : List (Nat × Int64)) (AL : dAl) (ml : Nat) (ret : Option FieldType) (R : Option Value → dM → Nat → Nat → Prop) (i : Instr) (pc nx tg : Nat) (k : Int32) (L : List (Nat × Value)) (st : List Value) (σ : dM) (c0 s0 : Nat) (K : Nat → List (Nat × Value) → List Value → dM → Nat → Nat → Prop) (Z : Prop) : Prop :=
  match i with
  | .iconst _ | .bipush _ | .sipush _ | .ldc _ | .ldc_w _ => K nx L (.int k :: st) σ c0 s0
  | .lconst n => K nx L (.long (bif n.val == 0 then 0 else 1) :: st) σ c0 s0
  | .ldc2_w j => match jc2 C2 j with
    | some v => K nx L (.long v :: st) σ c0 s0
    | none => Z
  | .iload j => match jlk L j with
    | some (.int x) => K nx L (.int x :: st) σ c0 s0
    | _ => Z
  | .iload_n j => match jlk L j.val with
    | some (.int x) => K nx L (.int x :: st) σ c0 s0
    | _ => Z
  | .lload j => match jlk L j with
    | some (.long x) => K nx L (.long x :: st) σ c0 s0
    | _ => Z
  | .lload_n j => match jlk L j.val with
    | some (.long x) => K nx L (.long x :: st) σ c0 s0
    | _ => Z
  | .aload j => match jlk L j with
    | some (.ref x) => K nx L (.ref x :: st) σ c0 s0
    | _ => Z
  | .aload_n j => match jlk L j.val with
    | some (.ref x) => K nx L (.ref x :: st) σ c0 s0
    | _ => Z
  | .istore j => match st with
    | .int x :: r => bif Nat.blt j ml then K nx (jins j (.int x) L) r σ c0 s0 else Z
    | _ => Z
  | .istore_n j => match st with
    | .int x :: r => bif Nat.blt j.val ml then K nx (jins j.val (.int x) L) r σ c0 s0 else Z
    | _ => Z
  | .astore j => match st with
    | .ref x :: r => bif Nat.blt j ml then K nx (jins j (.ref x) L) r σ c0 s0 else Z
    | _ => Z
  | .astore_n j => match st with
    | .ref x :: r => bif Nat.blt j.val ml then K nx (jins j.val (.ref x) L) r σ c0 s0 else Z
    | _ => Z
  | .lstore j => match st with
    | .long x :: r => bif Nat.blt (j + 1) ml then K nx (jins2 j (.long x) L) r σ c0 s0 else Z
    | _ => Z
  | .lstore_n j => match st with
    | .long x :: r => bif Nat.blt (j.val + 1) ml then K nx (jins2 j.val (.long x) L) r σ c0 s0 else Z
    | _ => Z
  | .iinc j _ => match jlk L j with
    | some (.int x) => bif Nat.blt j ml then K nx (jins j (.int (x + k)) L) st σ c0 s0 else Z
    | _ => Z
  | .iadd | .isub | .imul | .iand | .ior | .ixor | .ishl | .ishr | .iushr => match st with
    | .int y :: .int x :: r => match jbin i x y with
      | some z => K nx L (.int z :: r) σ c0 s0
      | none => Z
    | _ => Z
  | .idiv => match st with
    | .int y :: .int x :: r => ¬ y = 0 ∧ K nx L (.int (x / y) :: r) σ c0 s0
    | _ => Z
  | .irem => match st with
    | .int y :: .int x :: r => ¬ y = 0 ∧ K nx L (.int (x - x / y * y) :: r) σ c0 s0
    | _ => Z
  | .ineg => match st with
    | .int x :: r => K nx L (.int (-x) :: r) σ c0 s0
    | _ => Z
  | .i2l => match st with
    | .int x :: r => K nx L (.long x.toInt64 :: r) σ c0 s0
    | _ => Z
  | .l2i => match st with
    | .long x :: r => K nx L (.int x.toInt32 :: r) σ c0 s0
    | _ => Z
  | .i2b => match st with
    | .int x :: r => K nx L (.int x.toInt8.toInt32 :: r) σ c0 s0
    | _ => Z
  | .i2c => match st with
    | .int x :: r => K nx L (.int (x.toUInt32 % 65536).toInt32 :: r) σ c0 s0
    | _ => Z
  | .ladd => match st with
    | .long y :: .long x :: r => K nx L (.long (x + y) :: r) σ c0 s0
    | _ => Z
  | .lmul => match st with
    | .long y :: .long x :: r => K nx L (.long (x * y) :: r) σ c0 s0
    | _ => Z
  | .ldiv => match st with
    | .long y :: .long x :: r => ¬ y = 0 ∧ K nx L (.long (x / y) :: r) σ c0 s0
    | _ => Z
  | .lrem => match st with
    | .long y :: .long x :: r => ¬ y = 0 ∧ K nx L (.long (x - x / y * y) :: r) σ c0 s0
    | _ => Z
  | .lcmp => match st with
    | .long y :: .long x :: r => K nx L (.int (lg_cmp x y) :: r) σ c0 s0
    | _ => Z
  | .dup => match st with
    | v :: r => bif v.category == 1 then K nx L (v :: v :: r) σ c0 s0 else Z
    | _ => Z
  | .dup2 => match st with
    | v :: w :: r => bif v.category == 1 && w.category == 1 then K nx L (v :: w :: v :: w :: r) σ c0 s0 else Z
    | _ => Z
  | .pop => match st with
    | v :: r => bif v.category == 1 then K nx L r σ c0 s0 else Z
    | _ => Z
  | .ifCond c _ => match st with
    | .int x :: r => jcmp c x 0 (K tg L r σ c0 s0) (K nx L r σ c0 s0)
    | _ => Z
  | .if_icmp c _ => match st with
    | .int y :: .int x :: r => jcmp c x y (K tg L r σ c0 s0) (K nx L r σ c0 s0)
    | _ => Z
  | .goto _ => K tg L st σ c0 s0
  | .lsub => match st with
    | .long y :: .long x :: r => K nx L (.long (x - y) :: r) σ c0 s0
    | _ => Z
  | .aconst_null => K nx L (.null :: st) σ c0 s0
  | .ifnonnull _ => match st with
    | .ref _ :: r => K tg L r σ c0 s0
    | .null :: r => K nx L r σ c0 s0
    | _ => Z
  | .ifnull _ => match st with
    | .ref _ :: r => K nx L r σ c0 s0
    | .null :: r => K tg L r σ c0 s0
    | _ => Z
  | .getfield j => match st with
    | .ref a :: r => match jfl F j with
      | some (ci, f, tc) => match tc with
        | 1 => bif dobj a ci f 1 then DA σ a = true ∧ K nx L (.long (DL σ a f) :: r) σ c0 s0 else Z
        | 11 => bif dobj a ci f 1 then DA σ a = true ∧ K nx L (.long (DL σ a f) :: r) σ c0 s0 else Z
        | 2 => bif dobj a ci f 2 then DA σ a = true ∧ (match DR σ a f with | some v => K nx L (.ref v :: r) σ c0 s0 | none => K nx L (.null :: r) σ c0 s0) else Z
        | 12 => bif dobj a ci f 2 then DA σ a = true ∧ (match DR σ a f with | some v => K nx L (.ref v :: r) σ c0 s0 | none => K nx L (.null :: r) σ c0 s0) else Z
        | _ => bif dobj a ci f 0 then DA σ a = true ∧ K nx L (.int (DI σ a f) :: r) σ c0 s0 else Z
      | none => Z
    | _ => Z
  | .putfield j => match st with
    | .int x :: .ref a :: r => match jfl F j with
      | some (ci, f, tc) => match tc with
        | 0 => bif dobj a ci f 0 then DA σ a = true ∧ K nx L r (DuI σ a f x) c0 s0 else Z
        | 3 => bif dobj a ci f 0 then DA σ a = true ∧ (x = 0 ∨ x = 1) ∧ K nx L r (DuI σ a f x) c0 s0 else Z
        | _ => Z
      | none => Z
    | .long x :: .ref a :: r => match jfl F j with
      | some (ci, f, tc) => match tc with
        | 1 => bif dobj a ci f 1 then DA σ a = true ∧ K nx L r (DuL σ a f x) c0 s0 else Z
        | _ => Z
      | none => Z
    | .ref v :: .ref a :: r => match jfl F j with
      | some (ci, f, tc) => match tc with
        | 2 => bif dobj a ci f 2 then (DA σ a = true ∧ (v < 1000 ∨ (1000 ≤ v ∧ v < 2100 ∧ DA σ v = true))) ∧ K nx L r (DuR σ a f (some v)) c0 s0 else Z
        | _ => Z
      | none => Z
    | .null :: .ref a :: r => match jfl F j with
      | some (ci, f, tc) => match tc with
        | 2 => bif dobj a ci f 2 then DA σ a = true ∧ K nx L r (DuR σ a f none) c0 s0 else Z
        | _ => Z
      | none => Z
    | _ => Z
  | .iaload => match st with
    | .int j :: .ref a :: r => bif darr a 1 0 then (DA σ a = true ∧ jin j (DN σ a)) ∧ K nx L (.int (DI σ a j.toNatClampNeg) :: r) σ c0 s0 else Z
    | _ => Z
  | .baload => match st with
    | .int j :: .ref a :: r => bif darr a 1 1 then (DA σ a = true ∧ jin j (DN σ a)) ∧ K nx L (.int (DI σ a j.toNatClampNeg) :: r) σ c0 s0 else bif darr a 1 3 then (DA σ a = true ∧ jin j (DN σ a)) ∧ K nx L (.int (DI σ a j.toNatClampNeg) :: r) σ c0 s0 else Z
    | _ => Z
  | .laload => match st with
    | .int j :: .ref a :: r => bif darr a 2 4 then (DA σ a = true ∧ jin j (DN σ a)) ∧ K nx L (.long (DL σ a j.toNatClampNeg) :: r) σ c0 s0 else Z
    | _ => Z
  | .aaload => match st with
    | .int j :: .ref a :: r => bif darr a 4 6 || (darr a 4 8 || darr a 4 9) then (DA σ a = true ∧ jin j (DN σ a)) ∧ (match DR σ a j.toNatClampNeg with | some v => K nx L (.ref v :: r) σ c0 s0 | none => Z) else Z
    | _ => Z
  | .iastore => match st with
    | .int x :: .int j :: .ref a :: r => bif darr a 1 0 then (DA σ a = true ∧ jin j (DN σ a)) ∧ K nx L r (DuI σ a j.toNatClampNeg x) c0 s0 else Z
    | _ => Z
  | .bastore => match st with
    | .int x :: .int j :: .ref a :: r => bif darr a 1 1 then (DA σ a = true ∧ jin j (DN σ a)) ∧ K nx L r (DuI σ a j.toNatClampNeg (vp_nar .byte x)) c0 s0 else bif darr a 1 3 then (DA σ a = true ∧ jin j (DN σ a)) ∧ K nx L r (DuI σ a j.toNatClampNeg (vp_nar .boolean x)) c0 s0 else Z
    | _ => Z
  | .lastore => match st with
    | .long x :: .int j :: .ref a :: r => bif darr a 2 4 then (DA σ a = true ∧ jin j (DN σ a)) ∧ K nx L r (DuL σ a j.toNatClampNeg x) c0 s0 else Z
    | _ => Z
  | .arraylength => match st with
    | .ref a :: r => bif darr a 1 0 || (darr a 1 1 || (darr a 1 3 || (darr a 2 4 || (darr a 4 9 || darr a 4 6)))) then DA σ a = true ∧ K nx L (.int (nI (DN σ a)) :: r) σ c0 s0 else Z
    | _ => Z
  | .newarray ty => match st with
    | .int n9 :: r => match dal AL pc with
      | some (a, ch) => match ty with
        | .int => bif darr a 1 0 && (DnL a L && Dnr a r) then (DA σ a = false ∧ z.2.2.1 a = false ∧ (¬ n9 < 0 ∧ n9.toNatClampNeg ≤ ch ∧ ch ≤ 10000) ∧ c0 + 1 ≤ z.1.cells ∧ s0 + ch ≤ z.1.slots) ∧ K nx L (.ref a :: r) (Dnw σ a n9.toNatClampNeg) (c0 + 1) (s0 + ch) else Z
        | .boolean => bif darr a 1 3 && (DnL a L && Dnr a r) then (DA σ a = false ∧ z.2.2.1 a = false ∧ (¬ n9 < 0 ∧ n9.toNatClampNeg ≤ ch ∧ ch ≤ 10000) ∧ c0 + 1 ≤ z.1.cells ∧ s0 + ch ≤ z.1.slots) ∧ K nx L (.ref a :: r) (Dnw σ a n9.toNatClampNeg) (c0 + 1) (s0 + ch) else Z
        | .byte => bif darr a 1 1 && (DnL a L && Dnr a r) then (DA σ a = false ∧ z.2.2.1 a = false ∧ (¬ n9 < 0 ∧ n9.toNatClampNeg ≤ ch ∧ ch ≤ 10000) ∧ c0 + 1 ≤ z.1.cells ∧ s0 + ch ≤ z.1.slots) ∧ K nx L (.ref a :: r) (Dnw σ a n9.toNatClampNeg) (c0 + 1) (s0 + ch) else Z
        | .long => bif darr a 2 4 && (DnL a L && Dnr a r) then (DA σ a = false ∧ z.2.2.1 a = false ∧ (¬ n9 < 0 ∧ n9.toNatClampNeg ≤ ch ∧ ch ≤ 10000) ∧ c0 + 1 ≤ z.1.cells ∧ s0 + ch ≤ z.1.slots) ∧ K nx L (.ref a :: r) (Dnw σ a n9.toNatClampNeg) (c0 + 1) (s0 + ch) else Z
        | _ => Z
      | none => Z
    | _ => Z
  | .ireturn => match st with
    | [.int x] => match ret with
      | some .int => R (some (.int x)) σ c0 s0
      | some .boolean => (x = 0 ∨ x = 1) ∧ R (some (.int x)) σ c0 s0
      | _ => Z
    | _ => Z
  | .return_ => match st with
    | [] => match ret with
      | none => R none σ c0 s0
      | _ => Z
    | _ => Z
  | .areturn => match st with
    | [.ref a] => match ret with
      | some (.object _) => R (some (.ref a)) σ c0 s0
      | some (.array _) => R (some (.ref a)) σ c0 s0
      | _ => Z
    | _ => Z
  | _ => Z
section DV
variable {g : jG} {z : dZ} {mt : jMt} {n : Nat}
set_option maxHeartbeats 4000000 in
theorem dst_ok {F : List (Nat × Nat × Nat × Nat)} {C2 : List (Nat × Int64)} {AL : dAl} {R : Option Value → dM → Nat → Nat → Prop} {pc nx tg : Nat} {i : Instr} {k : Int32} {L : List (Nat × Value)} {st : List Value} {σ : dM} {c0 s0 : Nat} {K : Nat → List (Nat × Value) → List Value → dM → Nat → Nat → Prop} {Z : Prop}
    (hF : ∀ q ∈ F, dFok mt.1.cls q) (hC2 : ∀ q ∈ C2, Cond.constantLong mt.1.cls q.1 q.2 ∈ jGw) (hTy : ∀ ty : FieldType, ty ∈ [FieldType.int, .boolean, .byte, .long] → Cond.arrayClass ty ∈ jGw) (hR : dRok g z mt R)
    (hd : decode mt.2.1 pc = .ok (i, jln i)) (hn : nx = pc + jln i) (ht : jtgt pc tg i = true) (hk : jcs k i = true) (hc : ∀ j, (i = .ldc j ∨ i = .ldc_w j) → Cond.constant mt.1.cls j k ∈ jGw)
    (hK : ∀ pc' L' st' σ' c s, K pc' L' st' σ' c s → DW g z mt pc' L' st' σ' c s) (hZ : Z → DW g z mt pc L st σ c0 s0)
    (h : dst z F C2 AL mt.2.2.1 mt.2.2.2 R i pc nx tg k L st σ c0 s0 K Z) : DW g z mt pc L st σ c0 s0 := by
  subst hn
  cases i with
  | iconst z => exact dr_iconst (by simpa [jcs] using hk) hd (hK _ _ _ _ _ _ h)
  | bipush z => exact dr_bipush (by simpa [jcs] using hk) hd (hK _ _ _ _ _ _ h)
  | sipush z => exact dr_sipush (by simpa [jcs] using hk) hd (hK _ _ _ _ _ _ h)
  | ldc j => exact dr_ldc (hc j (Or.inl rfl)) hd (hK _ _ _ _ _ _ h)
  | ldc_w j => exact dr_ldcw (hc j (Or.inr rfl)) hd (hK _ _ _ _ _ _ h)
  | lconst z =>
    match z, hd, h with
    | 0, hd, h => exact dr_lconst rfl hd (hK _ _ _ _ _ _ h)
    | 1, hd, h => exact dr_lconst rfl hd (hK _ _ _ _ _ _ h)
  | ldc2_w j =>
    dsimp only [dst] at h
    cases e : jc2 C2 j with
    | none => rw [e] at h; exact hZ h
    | some v => rw [e] at h; exact dr_ldc2 (hC2 _ (jc2_mem e)) hd (hK _ _ _ _ _ _ h)
  | iload j =>
    dsimp only [dst] at h
    split at h
    · rename_i x e; exact dr_iload e hd (hK _ _ _ _ _ _ h)
    · exact hZ h
  | iload_n j =>
    dsimp only [dst] at h
    split at h
    · rename_i x e; exact dr_iloadn e hd (hK _ _ _ _ _ _ h)
    · exact hZ h
  | lload j =>
    dsimp only [dst] at h
    split at h
    · rename_i x e; exact dr_lload e hd (hK _ _ _ _ _ _ h)
    · exact hZ h
  | lload_n j =>
    dsimp only [dst] at h
    split at h
    · rename_i x e; exact dr_lloadn e hd (hK _ _ _ _ _ _ h)
    · exact hZ h
  | aload j =>
    dsimp only [dst] at h
    split at h
    · rename_i x e; exact dr_aload e hd (hK _ _ _ _ _ _ h)
    · exact hZ h
  | aload_n j =>
    dsimp only [dst] at h
    split at h
    · rename_i x e; exact dr_aloadn e hd (hK _ _ _ _ _ _ h)
    · exact hZ h
  | istore j =>
    dsimp only [dst] at h
    split at h
    · cases e : Nat.blt j mt.2.2.1 with
      | true => rw [e] at h; exact dr_istore (by simpa using e) hd (hK _ _ _ _ _ _ h)
      | false => rw [e] at h; exact hZ h
    · exact hZ h
  | istore_n j =>
    dsimp only [dst] at h
    split at h
    · cases e : Nat.blt j.val mt.2.2.1 with
      | true => rw [e] at h; exact dr_istoren (by simpa using e) hd (hK _ _ _ _ _ _ h)
      | false => rw [e] at h; exact hZ h
    · exact hZ h
  | astore j =>
    dsimp only [dst] at h
    split at h
    · cases e : Nat.blt j mt.2.2.1 with
      | true => rw [e] at h; exact dr_astore (by simpa using e) hd (hK _ _ _ _ _ _ h)
      | false => rw [e] at h; exact hZ h
    · exact hZ h
  | astore_n j =>
    dsimp only [dst] at h
    split at h
    · cases e : Nat.blt j.val mt.2.2.1 with
      | true => rw [e] at h; exact dr_astoren (by simpa using e) hd (hK _ _ _ _ _ _ h)
      | false => rw [e] at h; exact hZ h
    · exact hZ h
  | lstore j =>
    dsimp only [dst] at h
    split at h
    · cases e : Nat.blt (j + 1) mt.2.2.1 with
      | true => rw [e] at h; exact dr_lstore (by simpa using e) hd (hK _ _ _ _ _ _ h)
      | false => rw [e] at h; exact hZ h
    · exact hZ h
  | lstore_n j =>
    dsimp only [dst] at h
    split at h
    · cases e : Nat.blt (j.val + 1) mt.2.2.1 with
      | true => rw [e] at h; exact dr_lstoren (by simpa using e) hd (hK _ _ _ _ _ _ h)
      | false => rw [e] at h; exact hZ h
    · exact hZ h
  | iinc j z =>
    dsimp only [dst] at h
    split at h
    · rename_i x ex
      cases e : Nat.blt j mt.2.2.1 with
      | true => rw [e] at h; exact dr_iinc (by simpa [jcs] using hk) ex (by simpa using e) hd (hK _ _ _ _ _ _ h)
      | false => rw [e] at h; exact hZ h
    · exact hZ h
  | iadd =>
    dsimp only [dst] at h
    split at h
    · exact dr_iadd hd (hK _ _ _ _ _ _ h)
    · exact hZ h
  | isub =>
    dsimp only [dst] at h
    split at h
    · exact dr_isub hd (hK _ _ _ _ _ _ h)
    · exact hZ h
  | imul =>
    dsimp only [dst] at h
    split at h
    · exact dr_imul hd (hK _ _ _ _ _ _ h)
    · exact hZ h
  | iand =>
    dsimp only [dst] at h
    split at h
    · exact dr_iand hd (hK _ _ _ _ _ _ h)
    · exact hZ h
  | ior =>
    dsimp only [dst] at h
    split at h
    · exact dr_ior hd (hK _ _ _ _ _ _ h)
    · exact hZ h
  | ixor =>
    dsimp only [dst] at h
    split at h
    · exact dr_ixor hd (hK _ _ _ _ _ _ h)
    · exact hZ h
  | ishl =>
    dsimp only [dst] at h
    split at h
    · exact dr_ishl hd (hK _ _ _ _ _ _ h)
    · exact hZ h
  | ishr =>
    dsimp only [dst] at h
    split at h
    · exact dr_ishr hd (hK _ _ _ _ _ _ h)
    · exact hZ h
  | iushr =>
    dsimp only [dst] at h
    split at h
    · exact dr_iushr hd (hK _ _ _ _ _ _ h)
    · exact hZ h
  | idiv =>
    dsimp only [dst] at h
    split at h
    · exact dr_idiv h.1 hd (hK _ _ _ _ _ _ h.2)
    · exact hZ h
  | irem =>
    dsimp only [dst] at h
    split at h
    · exact dr_irem h.1 hd (hK _ _ _ _ _ _ h.2)
    · exact hZ h
  | ineg =>
    dsimp only [dst] at h
    split at h
    · exact dr_ineg hd (hK _ _ _ _ _ _ h)
    · exact hZ h
  | i2l =>
    dsimp only [dst] at h
    split at h
    · exact dr_i2l hd (hK _ _ _ _ _ _ h)
    · exact hZ h
  | l2i =>
    dsimp only [dst] at h
    split at h
    · exact dr_l2i hd (hK _ _ _ _ _ _ h)
    · exact hZ h
  | i2b =>
    dsimp only [dst] at h
    split at h
    · exact dr_i2b hd (hK _ _ _ _ _ _ h)
    · exact hZ h
  | i2c =>
    dsimp only [dst] at h
    split at h
    · exact dr_i2c hd (hK _ _ _ _ _ _ h)
    · exact hZ h
  | ladd =>
    dsimp only [dst] at h
    split at h
    · exact dr_ladd hd (hK _ _ _ _ _ _ h)
    · exact hZ h
  | lmul =>
    dsimp only [dst] at h
    split at h
    · exact dr_lmul hd (hK _ _ _ _ _ _ h)
    · exact hZ h
  | ldiv =>
    dsimp only [dst] at h
    split at h
    · exact dr_ldiv h.1 hd (hK _ _ _ _ _ _ h.2)
    · exact hZ h
  | lrem =>
    dsimp only [dst] at h
    split at h
    · exact dr_lrem h.1 hd (hK _ _ _ _ _ _ h.2)
    · exact hZ h
  | lcmp =>
    dsimp only [dst] at h
    split at h
    · exact dr_lcmp hd (hK _ _ _ _ _ _ h)
    · exact hZ h
  | dup =>
    dsimp only [dst] at h
    split at h
    · rename_i v r
      cases e : v.category == 1 with
      | true => rw [e] at h; exact dr_dup (by simpa using e) hd (hK _ _ _ _ _ _ h)
      | false => rw [e] at h; exact hZ h
    · exact hZ h
  | dup2 =>
    dsimp only [dst] at h
    split at h
    · rename_i v w r
      cases e : (v.category == 1 && w.category == 1) with
      | true => rw [e] at h; exact dr_dup2 (by simp at e; exact e.1) (by simp at e; exact e.2) hd (hK _ _ _ _ _ _ h)
      | false => rw [e] at h; exact hZ h
    · exact hZ h
  | pop =>
    dsimp only [dst] at h
    split at h
    · rename_i v r
      cases e : v.category == 1 with
      | true => rw [e] at h; exact dr_pop (by simpa using e) hd (hK _ _ _ _ _ _ h)
      | false => rw [e] at h; exact hZ h
    · exact hZ h
  | ifCond cd o =>
    dsimp only [dst] at h
    split at h
    · refine dr_if hd (by simpa [jtgt] using ht) ?_
      cases cd <;> exact ⟨fun q => hK _ _ _ _ _ _ (h.1 q), fun q => hK _ _ _ _ _ _ (h.2 q)⟩
    · exact hZ h
  | if_icmp cd o =>
    dsimp only [dst] at h
    split at h
    · refine dr_icmp hd (by simpa [jtgt] using ht) ?_
      cases cd <;> exact ⟨fun q => hK _ _ _ _ _ _ (h.1 q), fun q => hK _ _ _ _ _ _ (h.2 q)⟩
    · exact hZ h
  | goto o => exact dr_goto hd (by simpa [jtgt] using ht) (hK _ _ _ _ _ _ h)
  | lsub =>
    dsimp only [dst] at h
    split at h
    · exact dr_lsub hd (hK _ _ _ _ _ _ h)
    · exact hZ h
  | aconst_null => exact dr_null hd (hK _ _ _ _ _ _ h)
  | ifnonnull o =>
    dsimp only [dst] at h
    split at h
    · exact dr_ifnonnull hd (by simpa [jtgt] using ht) (hK _ _ _ _ _ _ h)
    · exact dr_ifnonnullN hd (hK _ _ _ _ _ _ h)
    · exact hZ h
  | ifnull o =>
    dsimp only [dst] at h
    split at h
    · exact dr_ifnull hd (hK _ _ _ _ _ _ h)
    · exact dr_ifnullN hd (by simpa [jtgt] using ht) (hK _ _ _ _ _ _ h)
    · exact hZ h
  | getfield j =>
    dsimp only [dst] at h
    split at h
    · rename_i a r
      split at h
      · rename_i ci f tc e
        have hf := hF _ (jfl_mem e)
        split at h
        · cases ho : dobj a ci f 1 with
          | true => rw [ho] at h; exact dr_getl hf ho h.1 hd (hK _ _ _ _ _ _ h.2)
          | false => rw [ho] at h; exact hZ h
        · cases ho : dobj a ci f 1 with
          | true => rw [ho] at h; exact dr_getl hf ho h.1 hd (hK _ _ _ _ _ _ h.2)
          | false => rw [ho] at h; exact hZ h
        · cases ho : dobj a ci f 2 with
          | true =>
            rw [ho] at h
            obtain ⟨h1, h2⟩ := h
            split at h2
            · rename_i v ev; exact dr_getr hf ho h1 ev hd (hK _ _ _ _ _ _ h2)
            · rename_i ev; exact dr_getn hf ho h1 ev hd (hK _ _ _ _ _ _ h2)
          | false => rw [ho] at h; exact hZ h
        · cases ho : dobj a ci f 2 with
          | true =>
            rw [ho] at h
            obtain ⟨h1, h2⟩ := h
            split at h2
            · rename_i v ev; exact dr_getr hf ho h1 ev hd (hK _ _ _ _ _ _ h2)
            · rename_i ev; exact dr_getn hf ho h1 ev hd (hK _ _ _ _ _ _ h2)
          | false => rw [ho] at h; exact hZ h
        · cases ho : dobj a ci f 0 with
          | true => rw [ho] at h; exact dr_geti hf ho h.1 hd (hK _ _ _ _ _ _ h.2)
          | false => rw [ho] at h; exact hZ h
      · exact hZ h
    · exact hZ h
  | putfield j =>
    dsimp only [dst] at h
    split at h
    · rename_i x a r
      split at h
      · rename_i ci f tc e
        have hf := hF _ (jfl_mem e)
        split at h
        · cases ho : dobj a ci f 0 with
          | true => rw [ho] at h; exact dr_puti hf ho h.1 hd (hK _ _ _ _ _ _ h.2)
          | false => rw [ho] at h; exact hZ h
        · cases ho : dobj a ci f 0 with
          | true => rw [ho] at h; exact dr_putz h.2.1 hf ho h.1 hd (hK _ _ _ _ _ _ h.2.2)
          | false => rw [ho] at h; exact hZ h
        · exact hZ h
      · exact hZ h
    · rename_i x a r
      split at h
      · rename_i ci f tc e
        have hf := hF _ (jfl_mem e)
        split at h
        · cases ho : dobj a ci f 1 with
          | true => rw [ho] at h; exact dr_putl hf ho h.1 hd (hK _ _ _ _ _ _ h.2)
          | false => rw [ho] at h; exact hZ h
        · exact hZ h
      · exact hZ h
    · rename_i v a r
      split at h
      · rename_i ci f tc e
        have hf := hF _ (jfl_mem e)
        split at h
        · cases ho : dobj a ci f 2 with
          | true => rw [ho] at h; exact dr_putr hf ho h.1.1 (h.1.2.imp id (fun q => Dal_hi q.1 q.2.1 q.2.2)) hd (hK _ _ _ _ _ _ h.2)
          | false => rw [ho] at h; exact hZ h
        · exact hZ h
      · exact hZ h
    · rename_i a r
      split at h
      · rename_i ci f tc e
        have hf := hF _ (jfl_mem e)
        split at h
        · cases ho : dobj a ci f 2 with
          | true => rw [ho] at h; exact dr_putn hf ho h.1 hd (hK _ _ _ _ _ _ h.2)
          | false => rw [ho] at h; exact hZ h
        · exact hZ h
      · exact hZ h
    · exact hZ h
  | iaload =>
    dsimp only [dst] at h
    split at h
    · rename_i j a r
      cases ho0 : darr a 1 0 with
      | true => rw [ho0] at h; exact dr_iald ho0 h.1.1 h.1.2 hd (hK _ _ _ _ _ _ h.2)
      | false =>
        rw [ho0] at h
        exact hZ h
    · exact hZ h
  | baload =>
    dsimp only [dst] at h
    split at h
    · rename_i j a r
      cases ho0 : darr a 1 1 with
      | true => rw [ho0] at h; exact dr_bald ho0 h.1.1 h.1.2 hd (hK _ _ _ _ _ _ h.2)
      | false =>
        rw [ho0] at h
        cases ho1 : darr a 1 3 with
        | true => rw [ho1] at h; exact dr_zald ho1 h.1.1 h.1.2 hd (hK _ _ _ _ _ _ h.2)
        | false =>
          rw [ho1] at h
          exact hZ h
    · exact hZ h
  | laload =>
    dsimp only [dst] at h
    split at h
    · rename_i j a r
      cases ho0 : darr a 2 4 with
      | true => rw [ho0] at h; exact dr_lald ho0 h.1.1 h.1.2 hd (hK _ _ _ _ _ _ h.2)
      | false =>
        rw [ho0] at h
        exact hZ h
    · exact hZ h
  | iastore =>
    dsimp only [dst] at h
    split at h
    · rename_i x j a r
      cases ho0 : darr a 1 0 with
      | true => rw [ho0] at h; exact dr_iast ho0 h.1.1 h.1.2 hd (hK _ _ _ _ _ _ h.2)
      | false =>
        rw [ho0] at h
        exact hZ h
    · exact hZ h
  | bastore =>
    dsimp only [dst] at h
    split at h
    · rename_i x j a r
      cases ho0 : darr a 1 1 with
      | true => rw [ho0] at h; exact dr_bast ho0 h.1.1 h.1.2 hd (hK _ _ _ _ _ _ h.2)
      | false =>
        rw [ho0] at h
        cases ho1 : darr a 1 3 with
        | true => rw [ho1] at h; exact dr_zast ho1 h.1.1 h.1.2 hd (hK _ _ _ _ _ _ h.2)
        | false =>
          rw [ho1] at h
          exact hZ h
    · exact hZ h
  | lastore =>
    dsimp only [dst] at h
    split at h
    · rename_i x j a r
      cases ho0 : darr a 2 4 with
      | true => rw [ho0] at h; exact dr_last ho0 h.1.1 h.1.2 hd (hK _ _ _ _ _ _ h.2)
      | false =>
        rw [ho0] at h
        exact hZ h
    · exact hZ h
  | aaload =>
    dsimp only [dst] at h
    split at h
    · rename_i j a r
      have key : ∀ t, (t = 6 ∨ t = 8 ∨ t = 9) → darr a 4 t = true → ((DA σ a = true ∧ jin j (DN σ a)) ∧ (match DR σ a j.toNatClampNeg with | some v => K (pc + jln .aaload) L (.ref v :: r) σ c0 s0 | none => Z)) → DW g z mt pc L (.int j :: .ref a :: r) σ c0 s0 := fun t ht9 ho h9 => by
        obtain ⟨h1, h2⟩ := h9
        split at h2
        · rename_i v ev; exact dr_aald ho ht9 h1.1 h1.2 ev hd (hK _ _ _ _ _ _ h2)
        · exact hZ h2
      cases ho : darr a 4 6 with
      | true => rw [ho] at h; exact key 6 (Or.inl rfl) ho h
      | false =>
        cases ho1 : darr a 4 8 with
        | true => rw [ho, ho1] at h; exact key 8 (Or.inr (Or.inl rfl)) ho1 h
        | false =>
          cases ho2 : darr a 4 9 with
          | true => rw [ho, ho1, ho2] at h; exact key 9 (Or.inr (Or.inr rfl)) ho2 h
          | false => rw [ho, ho1, ho2] at h; exact hZ h
    · exact hZ h
  | arraylength =>
    dsimp only [dst] at h
    split at h
    · rename_i a r
      cases ho0 : darr a 1 0 with
      | true => rw [ho0] at h; exact dr_alen ho0 (by decide) (Or.inl rfl) h.1 hd (hK _ _ _ _ _ _ h.2)
      | false =>
        cases ho1 : darr a 1 1 with
        | true => rw [ho0, ho1] at h; exact dr_alen ho1 (by decide) (Or.inl rfl) h.1 hd (hK _ _ _ _ _ _ h.2)
        | false =>
          cases ho2 : darr a 1 3 with
          | true => rw [ho0, ho1, ho2] at h; exact dr_alen ho2 (by decide) (Or.inl rfl) h.1 hd (hK _ _ _ _ _ _ h.2)
          | false =>
            cases ho3 : darr a 2 4 with
            | true => rw [ho0, ho1, ho2, ho3] at h; exact dr_alen ho3 (by decide) (Or.inr (Or.inl rfl)) h.1 hd (hK _ _ _ _ _ _ h.2)
            | false =>
              cases ho4 : darr a 4 9 with
              | true => rw [ho0, ho1, ho2, ho3, ho4] at h; exact dr_alen ho4 (by decide) (Or.inr (Or.inr rfl)) h.1 hd (hK _ _ _ _ _ _ h.2)
              | false =>
                cases ho5 : darr a 4 6 with
                | true => rw [ho0, ho1, ho2, ho3, ho4, ho5] at h; exact dr_alen ho5 (by decide) (Or.inr (Or.inr rfl)) h.1 hd (hK _ _ _ _ _ _ h.2)
                | false =>
                  rw [ho0, ho1, ho2, ho3, ho4, ho5] at h; exact hZ h
    · exact hZ h
  | newarray ty =>
    dsimp only [dst] at h
    split at h
    · rename_i n9 r
      split at h
      · rename_i a ch ea
        have key : ∀ {ti : Nat}, (∀ (b : Bool), (darr a 1 ti && (DnL a L && Dnr a r)) = b → b = true → darr a 1 ti = true ∧ DnL a L = true ∧ Dnr a r = true) := fun {ti} b hb hb2 => by
          rw [hb2] at hb
          simp only [Bool.and_eq_true] at hb
          exact hb
        split at h
        · cases hb : (darr a 1 0 && (DnL a L && Dnr a r)) with
          | true =>
            rw [hb] at h
            obtain ⟨⟨h1, h2, ⟨h3, h4, h5⟩, h6, h7⟩, h8⟩ := h
            obtain ⟨b1, b2, b3⟩ := key _ hb rfl
            exact dr_newI (atype := .int) b1 (by decide) rfl rfl (hTy .int (by simp)) h1 h2 h3 (Nat.le_trans h4 h5) h6 (by omega) b2 b3 hd (DW.wide (Nat.le_refl _) (Nat.add_le_add_left h4 _) (hK _ _ _ _ _ _ h8))
          | false => rw [hb] at h; exact hZ h
        · cases hb : (darr a 1 3 && (DnL a L && Dnr a r)) with
          | true =>
            rw [hb] at h
            obtain ⟨⟨h1, h2, ⟨h3, h4, h5⟩, h6, h7⟩, h8⟩ := h
            obtain ⟨b1, b2, b3⟩ := key _ hb rfl
            exact dr_newI (atype := .boolean) b1 (by decide) rfl rfl (hTy .boolean (by simp)) h1 h2 h3 (Nat.le_trans h4 h5) h6 (by omega) b2 b3 hd (DW.wide (Nat.le_refl _) (Nat.add_le_add_left h4 _) (hK _ _ _ _ _ _ h8))
          | false => rw [hb] at h; exact hZ h
        · cases hb : (darr a 1 1 && (DnL a L && Dnr a r)) with
          | true =>
            rw [hb] at h
            obtain ⟨⟨h1, h2, ⟨h3, h4, h5⟩, h6, h7⟩, h8⟩ := h
            obtain ⟨b1, b2, b3⟩ := key _ hb rfl
            exact dr_newI (atype := .byte) b1 (by decide) rfl rfl (hTy .byte (by simp)) h1 h2 h3 (Nat.le_trans h4 h5) h6 (by omega) b2 b3 hd (DW.wide (Nat.le_refl _) (Nat.add_le_add_left h4 _) (hK _ _ _ _ _ _ h8))
          | false => rw [hb] at h; exact hZ h
        · cases hb : (darr a 2 4 && (DnL a L && Dnr a r)) with
          | true =>
            rw [hb] at h
            obtain ⟨⟨h1, h2, ⟨h3, h4, h5⟩, h6, h7⟩, h8⟩ := h
            simp only [Bool.and_eq_true] at hb
            exact dr_newJ hb.1 (hTy .long (by simp)) h1 h2 h3 (Nat.le_trans h4 h5) h6 (by omega) hb.2.1 hb.2.2 hd (DW.wide (Nat.le_refl _) (Nat.add_le_add_left h4 _) (hK _ _ _ _ _ _ h8))
          | false => rw [hb] at h; exact hZ h
        · exact hZ h
      · exact hZ h
    · exact hZ h
  | ireturn =>
    dsimp only [dst] at h
    split at h
    · rename_i x
      split at h
      · rename_i e; exact hR (some (.int x)) .ireturn pc L σ c0 s0 hd (Or.inl e) h
      · rename_i e; exact hR (some (.int x)) .ireturn pc L σ c0 s0 hd (Or.inr (Or.inl ⟨e, h.1⟩)) h.2
      · exact hZ h
    · exact hZ h
  | return_ =>
    dsimp only [dst] at h
    split at h
    · split at h
      · rename_i e; exact hR none .return_ pc L σ c0 s0 hd e h
      · exact hZ h
    · exact hZ h
  | areturn =>
    dsimp only [dst] at h
    split at h
    · rename_i a
      split at h
      · rename_i n e; exact hR (some (.ref a)) .areturn pc L σ c0 s0 hd ⟨_, e, Or.inl ⟨_, rfl⟩⟩ h
      · rename_i n e; exact hR (some (.ref a)) .areturn pc L σ c0 s0 hd ⟨_, e, Or.inr ⟨_, rfl⟩⟩ h
      · exact hZ h
    · exact hZ h
  | _ => exact hZ h
/-- what a walk stands on -/
def dT (mt : jMt) (F : List (Nat × Nat × Nat × Nat)) (C2 : List (Nat × Int64)) (tb : jTb) : Prop :=
  (∀ q ∈ F, dFok mt.1.cls q) ∧ (∀ q ∈ C2, Cond.constantLong mt.1.cls q.1 q.2 ∈ jGw) ∧ tb.all (jEok mt.2.1) = true ∧ ∀ q ∈ tb, ∀ j, (q.2.1 = .ldc j ∨ q.2.1 = .ldc_w j) → Cond.constant mt.1.cls j q.2.2.2.2 ∈ jGw
theorem dT.of {mt : jMt} {F : List (Nat × Nat × Nat × Nat)} {C2 : List (Nat × Int64)} {cs : List (Nat × Int32)} {tb : jTb} (hF : ∀ q ∈ F, dFok mt.1.cls q) (hC : ∀ q ∈ C2, Cond.constantLong mt.1.cls q.1 q.2 ∈ jGw) (hk : ∀ q ∈ cs, Cond.constant mt.1.cls q.1 q.2 ∈ jGw)
    (h1 : tb.all (jEok mt.2.1) = true) (h2 : tb.all (jldB cs) = true) : dT mt F C2 tb :=
  ⟨hF, hC, h1, (jT.of (F := []) (mt := mt) (fun _ h => absurd h List.not_mem_nil) hC hk h1 h2).2.2.2⟩
/-! with calls: VC the class's (number, parameters and the object, its class, what it asks and gives), VD the law's and the JDK's by an object, SD static ones (cells, slots, names, what they ask and give) -/
abbrev dO : Type := List Value → dM → Prop × (Option Value → dM → Prop)
abbrev dVl : Type := List (Nat × Nat × Nat × Nat × Nat × Nat × Nat × List Nat × dO)
def dvl : dVl → Nat → Option (Nat × Nat × Nat × Nat × Nat × Nat × List Nat × dO)
  | [], _ => none
  | (j, v) :: r, i => bif j == i then some v else dvl r i
theorem dvl_mem : ∀ {F : dVl} {i : Nat} {v : Nat × Nat × Nat × Nat × Nat × Nat × List Nat × dO}, dvl F i = some v → (i, v) ∈ F
  | [], _, _, h => by cases h
  | (j, w) :: r, i, v, h => by
    unfold dvl at h
    by_cases e : j = i
    · subst e
      simp at h
      subst h
      exact List.mem_cons_self
    · have e1 : (j == i) = false := by simpa using e
      rw [e1] at h
      exact List.mem_cons_of_mem _ (dvl_mem h)
def dOk (g : jG) (h0 n mc ms : Nat) (tl : List Nat) (mt : jMt) (f : dO) : Prop := ∀ (args : List Value) (σ : dM), (f args σ).1 → dCon g h0 n mc ms tl mt args σ (f args σ).2
/-- an entry of VD: number, parameters + 1, class, depth, most locals, cells, slots, names -/
def dOv (g : jG) (h0 : Nat) (mt : jMt) (q : Nat × Nat × Nat × Nat × Nat × Nat × Nat × List Nat × dO) : Prop :=
  ∃ (mt' : jMt) (na : Nat) (T : u_T) (N : Nat), q.2.1 = na + 1 ∧ mt'.2.2.1 ≤ 40 ∧ Cond.methodLink mt.1.cls q.1 mt'.1 ∈ jGw ∧ jMv mt' na ∧ vwCl[q.2.2.1]? = some (mt'.1.cls, T, N) ∧ dOk g h0 q.2.2.2.1 q.2.2.2.2.2.1 q.2.2.2.2.2.2.1 q.2.2.2.2.2.2.2.1 mt' q.2.2.2.2.2.2.2.2
def dOs (g : jG) (h0 : Nat) (mt : jMt) (q : Nat × Nat × Nat × Nat × Nat × Nat × Nat × List Nat × dO) : Prop :=
  ∃ (mt' : jMt), mt'.2.2.1 ≤ 40 ∧ (Cond.methodLink mt.1.cls q.1 mt'.1 ∈ jGw ∨ ∃ host, Cond.methodLinkNest mt.1.cls q.1 mt'.1 host ∈ jNw) ∧ jMs mt' q.2.1 ∧ dOk g h0 q.2.2.2.1 q.2.2.2.2.2.1 q.2.2.2.2.2.2.1 q.2.2.2.2.2.2.2.1 mt' q.2.2.2.2.2.2.2.2
/-- an entry of VC, its depth told apart -/
def dOc (g : jG) (n : Nat) (mt : jMt) (q : Nat × Nat × Nat × jO) : Prop :=
  ∃ (mt' : jMt) (n' na : Nat) (T : u_T) (N : Nat), q.2.1 = na + 1 ∧ n' < n ∧ Cond.methodLink mt.1.cls q.1 mt'.1 ∈ jGw ∧ jMv mt' na ∧ vwCl[q.2.2.1]? = some (mt'.1.cls, T, N) ∧ jOk g n' mt' q.2.2.2
def Droom (z : dZ) (n mc ms c0 s0 : Nat) : Prop := n + 1 ≤ z.1.frames ∧ 64 * (n + 1) ≤ z.1.locals ∧ c0 + mc ≤ z.1.cells ∧ s0 + ms ≤ z.1.slots
def dvk (z : dZ) (nC : Nat) (F : List (Nat × Nat × Nat × Nat)) (C2 : List (Nat × Int64)) (AL : dAl) (VC : jOl) (VD SD : dVl) (ml : Nat) (ret : Option FieldType) (R : Option Value → dM → Nat → Nat → Prop) (tb : jTb) (stop : List Nat) (Q : Nat → List (Nat × Value) → List Value → dM → Nat → Nat → Prop) : Nat → Nat → List (Nat × Value) → List Value → dM → Nat → Nat → Prop
  | 0, pc, L, st, σ, c0, s0 => Q pc L st σ c0 s0
  | f + 1, pc, L, st, σ, c0, s0 => match jtb tb pc with
    | none => Q pc L st σ c0 s0
    | some (i, nx, tg, k) => match i with
      | .invokevirtual j => match jol VC j with
        | some (na, ci, o) => match (st.take na).reverse with
          | .ref a :: as => bif (as.length + 1 == na) && (jisO a ci && (Dlo as && Nat.ble (jcat (st.drop na)) 8)) then (Droom z nC 0 0 c0 s0 ∧ (o (.ref a :: as) (DS σ)).1) ∧ ∀ v τ, (o (.ref a :: as) (DS σ)).2 v τ → Dlo v.toList = true ∧ (bif jel stop nx then Q nx L (v.toList ++ st.drop na) (DuS σ τ) c0 s0 else dvk z nC F C2 AL VC VD SD ml ret R tb stop Q f nx L (v.toList ++ st.drop na) (DuS σ τ) c0 s0) else Q pc L st σ c0 s0
          | _ => Q pc L st σ c0 s0
        | none => match dvl VD j with
          | some (na, ci, n', _, mc, ms, tl, o) => match (st.take na).reverse with
            | .ref a :: as => bif (as.length + 1 == na) && (disO a ci && Nat.ble (jcat (st.drop na)) 8) then (Droom z n' mc ms c0 s0 ∧ Dfree z L (st.drop na) tl ∧ DA σ a = true ∧ (o (.ref a :: as) σ).1) ∧ ∀ v τ, (o (.ref a :: as) σ).2 v τ → (bif jel stop nx then Q nx L (v.toList ++ st.drop na) τ (c0 + mc) (s0 + ms) else dvk z nC F C2 AL VC VD SD ml ret R tb stop Q f nx L (v.toList ++ st.drop na) τ (c0 + mc) (s0 + ms)) else Q pc L st σ c0 s0
            | _ => Q pc L st σ c0 s0
          | none => Q pc L st σ c0 s0
      | .invokestatic j => match dvl SD j with
        | some (na, _, n', _, mc, ms, tl, o) => bif (((st.take na).reverse).length == na) && Nat.ble (jcat (st.drop na)) 8 then (Droom z n' mc ms c0 s0 ∧ Dfree z L (st.drop na) tl ∧ (o (st.take na).reverse σ).1) ∧ ∀ v τ, (o (st.take na).reverse σ).2 v τ → (bif jel stop nx then Q nx L (v.toList ++ st.drop na) τ (c0 + mc) (s0 + ms) else dvk z nC F C2 AL VC VD SD ml ret R tb stop Q f nx L (v.toList ++ st.drop na) τ (c0 + mc) (s0 + ms)) else Q pc L st σ c0 s0
        | none => Q pc L st σ c0 s0
      | i => dst z F C2 AL ml ret R i pc nx tg k L st σ c0 s0 (fun pc' L' st' σ' c s => bif jel stop pc' then Q pc' L' st' σ' c s else dvk z nC F C2 AL VC VD SD ml ret R tb stop Q f pc' L' st' σ' c s) (Q pc L st σ c0 s0)
set_option maxHeartbeats 4000000 in
theorem dvk_ok {F : List (Nat × Nat × Nat × Nat)} {C2 : List (Nat × Int64)} {tb : jTb} {AL : dAl} {R : Option Value → dM → Nat → Nat → Prop} {nC : Nat} (hT : dT mt F C2 tb) (hTy : ∀ ty : FieldType, ty ∈ [FieldType.int, .boolean, .byte, .long] → Cond.arrayClass ty ∈ jGw) (hR : dRok g z mt R) {VC : jOl} {VD SD : dVl} (hVC : ∀ q ∈ VC, dOc g (nC + 1) mt q) (hVD : ∀ q ∈ VD, dOv g z.2.2.2.2 mt q) (hSD : ∀ q ∈ SD, dOs g z.2.2.2.2 mt q) (stop : List Nat) :
    ∀ (f pc : Nat) (L : List (Nat × Value)) (st : List Value) (σ : dM) (c0 s0 : Nat), dvk z nC F C2 AL VC VD SD mt.2.2.1 mt.2.2.2 R tb stop (DW g z mt) f pc L st σ c0 s0 → DW g z mt pc L st σ c0 s0
  | 0, _, _, _, _, _, _, h => h
  | f + 1, pc, L, st, σ, c0, s0, h => by
    have step : ∀ pc' L' st' σ' c s, (bif jel stop pc' then DW g z mt pc' L' st' σ' c s else dvk z nC F C2 AL VC VD SD mt.2.2.1 mt.2.2.2 R tb stop (DW g z mt) f pc' L' st' σ' c s) → DW g z mt pc' L' st' σ' c s := fun pc' L' st' σ' c s hk => by
      cases hs : jel stop pc' with
      | true => rw [hs] at hk; exact hk
      | false => rw [hs] at hk; exact dvk_ok hT hTy hR hVC hVD hSD stop f pc' L' st' σ' c s hk
    have split9 : ∀ na, st = ((st.take na).reverse).reverse ++ st.drop na := fun na => by rw [List.reverse_reverse, List.take_append_drop]
    unfold dvk at h
    split at h
    · exact h
    · rename_i i nx tg k e
      have hm := jtb_mem e
      have h1 := List.all_eq_true.mp hT.2.2.1 _ hm
      simp only [jEok, Bool.and_eq_true, decide_eq_true_eq, beq_iff_eq] at h1
      obtain ⟨a1, a2, a3, a4⟩ := h1
      split at h
      · rename_i j
        have a2' : nx = pc + 3 := a2
        subst a2'
        split at h
        · rename_i na ci o eo
          split at h
          · rename_i a as ea
            cases hb : ((as.length + 1 == na) && (jisO a ci && (Dlo as && Nat.ble (jcat (st.drop na)) 8))) with
            | false => rw [hb] at h; exact h
            | true =>
              rw [hb] at h
              simp only [Bool.and_eq_true, beq_iff_eq] at hb
              obtain ⟨b1, b2, b3, b4⟩ := hb
              obtain ⟨mt', n', na', T, N, c1, c2, c3, c4, c5, c6⟩ := hVC _ (jol_mem eo)
              dsimp only at c1 c3 c5 c6
              obtain ⟨⟨hrm, hpre⟩, hnext⟩ := h
              have hst : st = as.reverse ++ .ref a :: st.drop na := by
                have h6 := split9 na
                rw [ea] at h6
                rw [List.reverse_cons, List.append_assoc] at h6
                exact h6
              have hml := c4.1.2.2.2
              exact dr_callC ⟨by have := hrm.1; omega, by have := hrm.2.1; omega, hrm.2.2.1, hrm.2.2.2⟩ a1 c3 c4 c5 b2 hst (by omega) (by rw [← jcat_sum]; exact Nat.le_of_ble_eq_true b4) b3 (c6 _ _ hpre) (fun v τ hp => ⟨(hnext v τ hp).1, step _ _ _ _ _ _ (hnext v τ hp).2⟩)
          · exact h
        · split at h
          · rename_i na ci n' ml9 mc ms tl o eo
            split at h
            · rename_i a as ea
              cases hb : ((as.length + 1 == na) && (disO a ci && Nat.ble (jcat (st.drop na)) 8)) with
              | false => rw [hb] at h; exact h
              | true =>
                rw [hb] at h
                simp only [Bool.and_eq_true, beq_iff_eq] at hb
                obtain ⟨b1, b2, b4⟩ := hb
                obtain ⟨mt', na', T, N, c1, c2, c3, c4, c5, c6⟩ := hVD _ (dvl_mem eo)
                dsimp only at c1 c3 c5 c6
                obtain ⟨⟨hrm, hfr, hA, hpre⟩, hnext⟩ := h
                have hst : st = as.reverse ++ .ref a :: st.drop na := by
                  have h6 := split9 na
                  rw [ea] at h6
                  rw [List.reverse_cons, List.append_assoc] at h6
                  exact h6
                exact dr_callV ⟨hrm.1, by have := hrm.2.1; omega, hrm.2.2.1, hrm.2.2.2⟩ hfr a1 c3 c4 c5 b2 hA hst (by omega) (by rw [← jcat_sum]; exact Nat.le_of_ble_eq_true b4) (c6 _ _ hpre) (fun v τ hp => step _ _ _ _ _ _ (hnext v τ hp))
            · exact h
          · exact h
      · rename_i j
        have a2' : nx = pc + 3 := a2
        subst a2'
        split at h
        · rename_i na ci n' ml9 mc ms tl o eo
          cases hb : ((((st.take na).reverse).length == na) && Nat.ble (jcat (st.drop na)) 8) with
          | false => rw [hb] at h; exact h
          | true =>
            rw [hb] at h
            simp only [Bool.and_eq_true, beq_iff_eq] at hb
            obtain ⟨b1, b4⟩ := hb
            obtain ⟨mt', c2, c3, c4, c6⟩ := hSD _ (dvl_mem eo)
            dsimp only at c3 c4 c6
            obtain ⟨⟨hrm, hfr, hpre⟩, hnext⟩ := h
            exact dr_callS ⟨hrm.1, by have := hrm.2.1; omega, hrm.2.2.1, hrm.2.2.2⟩ hfr a1 c3 c4 (split9 na) b1 (by rw [← jcat_sum]; exact Nat.le_of_ble_eq_true b4) (c6 _ _ hpre) (fun v τ hp => step _ _ _ _ _ _ (hnext v τ hp))
        · exact h
      · exact dst_ok hT.1 hT.2.1 hTy hR a1 a2 a3 a4 (fun j hj => hT.2.2.2 _ hm j hj) step (fun z => z) h
end DV
