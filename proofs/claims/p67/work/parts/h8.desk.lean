/-! contracts in the judgement DW: shapes of arguments, the desk's facts -/
def DkF (z : dZ) : List Nat → Prop
  | [] => True
  | a :: t => z.2.2.1 a = false ∧ DkF z t
theorem DkF.of {z : dZ} : ∀ {tl : List Nat}, (∀ a ∈ tl, z.2.2.1 a = false) → DkF z tl
  | [], _ => trivial
  | a :: t, h => ⟨h a List.mem_cons_self, DkF.of (fun b hb => h b (List.mem_cons_of_mem _ hb))⟩
/-- a contract out of a walk, its end kept as a name -/
theorem dCon.go {g : jG} {h0 n mc ms : Nat} {tl : List Nat} {mt : jMt} {args : List Value} {δ : dM} {S : Option Value → dM → Prop} (hy : plainFor mt.1 = true) (hlen : (lg_sl args).length ≤ mt.2.2.1)
    (k : ∀ (z : dZ), DkF z tl → Dcl0 δ → (z.1.frames = n ∧ z.1.locals = 64 * n ∧ z.1.cells = mc ∧ z.1.slots = ms) → ∀ post : Option Value → dM → Prop, (∀ v τ, S v τ → post v τ) → dRok g z mt (dRp mc ms post) → DW g z mt 0 (lv_args 0 args) [] δ 0 0) : dCon g h0 n mc ms tl mt args δ S :=
  dCon.of hy hlen (fun _ hkp hcl _ => k _ (DkF.of hkp) hcl ⟨rfl, rfl, rfl, rfl⟩ S (fun _ _ h => h) dRok_con)
theorem dm64 (a b : Nat) : 64 * a ≤ 64 * b ↔ a ≤ b := by omega
def doR (f : Nat → dM → Prop × (Option Value → dM → Prop)) : dO := fun args σ => match args with
  | [.ref a0] => f a0 σ
  | _ => (False, fun _ _ => False)
def doRI (f : Nat → Int32 → dM → Prop × (Option Value → dM → Prop)) : dO := fun args σ => match args with
  | [.ref a0, .int i1] => f a0 i1 σ
  | _ => (False, fun _ _ => False)
def doII (f : Int32 → Int32 → dM → Prop × (Option Value → dM → Prop)) : dO := fun args σ => match args with
  | [.int i0, .int i1] => f i0 i1 σ
  | _ => (False, fun _ _ => False)
def doRII (f : Nat → Int32 → Int32 → dM → Prop × (Option Value → dM → Prop)) : dO := fun args σ => match args with
  | [.ref a0, .int i1, .int i2] => f a0 i1 i2 σ
  | _ => (False, fun _ _ => False)
def doRIII (f : Nat → Int32 → Int32 → Int32 → dM → Prop × (Option Value → dM → Prop)) : dO := fun args σ => match args with
  | [.ref a0, .int i1, .int i2, .int i3] => f a0 i1 i2 i3 σ
  | _ => (False, fun _ _ => False)
def doRIRR (f : Nat → Int32 → Nat → Nat → dM → Prop × (Option Value → dM → Prop)) : dO := fun args σ => match args with
  | [.ref a0, .int i1, .ref a2, .ref a3] => f a0 i1 a2 a3 σ
  | _ => (False, fun _ _ => False)
def doRRRI (f : Nat → Nat → Nat → Int32 → dM → Prop × (Option Value → dM → Prop)) : dO := fun args σ => match args with
  | [.ref a0, .ref a1, .ref a2, .int i3] => f a0 a1 a2 i3 σ
  | _ => (False, fun _ _ => False)
section DOK
variable {g : jG} {h0 n mc ms : Nat} {tl : List Nat} {mt : jMt}
theorem doR_ok {f : Nat → dM → Prop × (Option Value → dM → Prop)} (h : ∀ (a0 : Nat) (σ : dM), (f a0 σ).1 → dCon g h0 n mc ms tl mt [.ref a0] σ (f a0 σ).2) : dOk g h0 n mc ms tl mt (doR f) := by
  intro args σ hp
  unfold doR at hp ⊢
  split at hp
  · exact h _ σ hp
  · exact hp.elim
theorem doRI_ok {f : Nat → Int32 → dM → Prop × (Option Value → dM → Prop)} (h : ∀ (a0 : Nat) (i1 : Int32) (σ : dM), (f a0 i1 σ).1 → dCon g h0 n mc ms tl mt [.ref a0, .int i1] σ (f a0 i1 σ).2) : dOk g h0 n mc ms tl mt (doRI f) := by
  intro args σ hp
  unfold doRI at hp ⊢
  split at hp
  · exact h _ _ σ hp
  · exact hp.elim
theorem doII_ok {f : Int32 → Int32 → dM → Prop × (Option Value → dM → Prop)} (h : ∀ (i0 i1 : Int32) (σ : dM), (f i0 i1 σ).1 → dCon g h0 n mc ms tl mt [.int i0, .int i1] σ (f i0 i1 σ).2) : dOk g h0 n mc ms tl mt (doII f) := by
  intro args σ hp
  unfold doII at hp ⊢
  split at hp
  · exact h _ _ σ hp
  · exact hp.elim
theorem doRII_ok {f : Nat → Int32 → Int32 → dM → Prop × (Option Value → dM → Prop)} (h : ∀ (a0 : Nat) (i1 i2 : Int32) (σ : dM), (f a0 i1 i2 σ).1 → dCon g h0 n mc ms tl mt [.ref a0, .int i1, .int i2] σ (f a0 i1 i2 σ).2) : dOk g h0 n mc ms tl mt (doRII f) := by
  intro args σ hp
  unfold doRII at hp ⊢
  split at hp
  · exact h _ _ _ σ hp
  · exact hp.elim
theorem doRIII_ok {f : Nat → Int32 → Int32 → Int32 → dM → Prop × (Option Value → dM → Prop)} (h : ∀ (a0 : Nat) (i1 i2 i3 : Int32) (σ : dM), (f a0 i1 i2 i3 σ).1 → dCon g h0 n mc ms tl mt [.ref a0, .int i1, .int i2, .int i3] σ (f a0 i1 i2 i3 σ).2) : dOk g h0 n mc ms tl mt (doRIII f) := by
  intro args σ hp
  unfold doRIII at hp ⊢
  split at hp
  · exact h _ _ _ _ σ hp
  · exact hp.elim
theorem doRIRR_ok {f : Nat → Int32 → Nat → Nat → dM → Prop × (Option Value → dM → Prop)} (h : ∀ (a0 : Nat) (i1 : Int32) (a2 a3 : Nat) (σ : dM), (f a0 i1 a2 a3 σ).1 → dCon g h0 n mc ms tl mt [.ref a0, .int i1, .ref a2, .ref a3] σ (f a0 i1 a2 a3 σ).2) : dOk g h0 n mc ms tl mt (doRIRR f) := by
  intro args σ hp
  unfold doRIRR at hp ⊢
  split at hp
  · exact h _ _ _ _ σ hp
  · exact hp.elim
theorem doRRRI_ok {f : Nat → Nat → Nat → Int32 → dM → Prop × (Option Value → dM → Prop)} (h : ∀ (a0 a1 a2 : Nat) (i3 : Int32) (σ : dM), (f a0 a1 a2 i3 σ).1 → dCon g h0 n mc ms tl mt [.ref a0, .ref a1, .ref a2, .int i3] σ (f a0 a1 a2 i3 σ).2) : dOk g h0 n mc ms tl mt (doRRRI f) := by
  intro args σ hp
  unfold doRRRI at hp ⊢
  split at hp
  · exact h _ _ _ _ σ hp
  · exact hp.elim
end DOK
/-- a row of ints, or of longs, laid anew -/
def DrI (δ : dM) (a : Nat) (f : Nat → Int32) : dM := (δ.1, fun i j => if i = a then f j else δ.2.1 i j, δ.2.2)
def DrJ (δ : dM) (a : Nat) (f : Nat → Int64) : dM := (δ.1, δ.2.1, fun i j => if i = a then f j else δ.2.2.1 i j, δ.2.2.2)
section DRow
variable (δ : dM) (a b i j k : Nat) (f h : Nat → Int32) (u w : Nat → Int64) (x : Int32) (y : Int64)
theorem DrI_S : DS (DrI δ a f) = DS δ := rfl
theorem DrI_I : DI (DrI δ a f) i j = if i = a then f j else DI δ i j := rfl
theorem DrI_L : DL (DrI δ a f) = DL δ := rfl
theorem DrI_R : DR (DrI δ a f) = DR δ := rfl
theorem DrI_N : DN (DrI δ a f) = DN δ := rfl
theorem DrI_A : DA (DrI δ a f) = DA δ := rfl
theorem DrJ_S : DS (DrJ δ a u) = DS δ := rfl
theorem DrJ_I : DI (DrJ δ a u) = DI δ := rfl
theorem DrJ_L : DL (DrJ δ a u) i j = if i = a then u j else DL δ i j := rfl
theorem DrJ_R : DR (DrJ δ a u) = DR δ := rfl
theorem DrJ_N : DN (DrJ δ a u) = DN δ := rfl
theorem DrJ_A : DA (DrJ δ a u) = DA δ := rfl
theorem DuI_rI : DuI (DrI δ a f) a k x = DrI δ a (fun j => if j = k then x else f j) := by
  unfold DuI DrI
  refine Prod.ext rfl (Prod.ext ?_ rfl)
  funext i j
  by_cases c : i = a
  · by_cases d : j = k
    · simp [c, d]
    · simp [c, d]
  · simp [c]
theorem DuL_rJ : DuL (DrJ δ a u) a k y = DrJ δ a (fun j => if j = k then y else u j) := by
  unfold DuL DrJ
  refine Prod.ext rfl (Prod.ext rfl (Prod.ext ?_ rfl))
  funext i j
  by_cases c : i = a
  · by_cases d : j = k
    · simp [c, d]
    · simp [c, d]
  · simp [c]
theorem DrI_self : DrI δ a (DI δ a) = δ := by
  refine Prod.ext rfl (Prod.ext ?_ rfl)
  funext i j
  show (if i = a then DI δ a j else δ.2.1 i j) = δ.2.1 i j
  by_cases c : i = a
  · rw [if_pos c, c]; rfl
  · rw [if_neg c]
theorem DrJ_self : DrJ δ a (DL δ a) = δ := by
  refine Prod.ext rfl (Prod.ext rfl (Prod.ext ?_ rfl))
  funext i j
  show (if i = a then DL δ a j else δ.2.2.1 i j) = δ.2.2.1 i j
  by_cases c : i = a
  · rw [if_pos c, c]; rfl
  · rw [if_neg c]
theorem DrI_rI : DrI (DrI δ a f) a h = DrI δ a h := by
  refine Prod.ext rfl (Prod.ext ?_ rfl)
  funext i j
  show (if i = a then h j else if i = a then f j else δ.2.1 i j) = if i = a then h j else δ.2.1 i j
  by_cases c : i = a
  · rw [if_pos c, if_pos c]
  · rw [if_neg c, if_neg c, if_neg c]
end DRow
/-- the first k places by F, behind them nothing -/
def fillI (F : Nat → Int32) (k : Nat) : Nat → Int32 := fun j => if j < k then F j else 0
def fillL (F : Nat → Int64) (k : Nat) : Nat → Int64 := fun j => if j < k then F j else 0
theorem fillI_0 {δ : dM} {a n : Nat} (F : Nat → Int32) : Dnw δ a n = DrI (Dnw δ a n) a (fillI F 0) := by
  conv => lhs; rw [← DrI_self (Dnw δ a n) a]
  congr 1
  funext j
  rw [Dnw_I, if_pos rfl]
  rfl
theorem fillL_0 {δ : dM} {a n : Nat} (F : Nat → Int64) : Dnw δ a n = DrJ (Dnw δ a n) a (fillL F 0) := by
  conv => lhs; rw [← DrJ_self (Dnw δ a n) a]
  congr 1
  funext j
  rw [Dnw_L, if_pos rfl]
  rfl
theorem fillI_s {δ : dM} {a k : Nat} {F : Nat → Int32} {x : Int32} (h : x = F k) : DuI (DrI δ a (fillI F k)) a k x = DrI δ a (fillI F (k + 1)) := by
  rw [DuI_rI]
  congr 1
  funext j
  unfold fillI
  by_cases c : j = k
  · rw [if_pos c, if_pos (by omega), c, h]
  · rw [if_neg c]
    by_cases d : j < k
    · rw [if_pos d, if_pos (by omega)]
    · rw [if_neg d, if_neg (by omega)]
theorem fillL_s {δ : dM} {a k : Nat} {F : Nat → Int64} {x : Int64} (h : x = F k) : DuL (DrJ δ a (fillL F k)) a k x = DrJ δ a (fillL F (k + 1)) := by
  rw [DuL_rJ]
  congr 1
  funext j
  unfold fillL
  by_cases c : j = k
  · rw [if_pos c, if_pos (by omega), c, h]
  · rw [if_neg c]
    by_cases d : j < k
    · rw [if_pos d, if_pos (by omega)]
    · rw [if_neg d, if_neg (by omega)]
theorem fillI_lt {F : Nat → Int32} {k j : Nat} (h : j < k) : fillI F k j = F j := if_pos h
theorem fillI_ge {F : Nat → Int32} {k j : Nat} (h : k ≤ j) : fillI F k j = 0 := if_neg (by omega)
theorem fillL_lt {F : Nat → Int64} {k j : Nat} (h : j < k) : fillL F k j = F j := if_pos h
/-! the ids: 1000 the desk; 1100 state, 1101 income, 1102 room, 1103 payment, 1104 stake, 1105 asked, 1106 choice, 1107 best, 1108 and 1109 such as are being made, 1110.. the values, 1115.. how far, 1120.. results; 1200.. who refuses, 1210 who lives; 1300 paid, 1310.. what is left; 1400 values, 1401 how far; 1500 who refuses; 1900 the plans, 2000 their row -/
theorem G_d : darr 1100 1 0 = true ∧ darr 1101 1 0 = true ∧ darr 1102 1 0 = true ∧ darr 1103 1 0 = true ∧ darr 1104 1 0 = true ∧ darr 1105 1 0 = true ∧ darr 1106 1 0 = true ∧ darr 1107 1 0 = true ∧ darr 1108 1 0 = true ∧ darr 1109 1 0 = true ∧ darr 1120 1 0 = true ∧ darr 1121 1 0 = true ∧ darr 1122 1 0 = true ∧ darr 1123 1 0 = true ∧ darr 1124 1 0 = true ∧ darr 1125 1 0 = true ∧ darr 1126 1 0 = true ∧ darr 1127 1 0 = true ∧ darr 1128 1 0 = true ∧ darr 1129 1 0 = true ∧ darr 1130 1 0 = true ∧ darr 1131 1 0 = true ∧ darr 1132 1 0 = true ∧ darr 1133 1 0 = true ∧ darr 1134 1 0 = true ∧ darr 1135 1 0 = true ∧ darr 1136 1 0 = true ∧ darr 1137 1 0 = true ∧ darr 1138 1 0 = true ∧ darr 1139 1 0 = true ∧ darr 1210 1 3 = true ∧ darr 1210 1 1 = false ∧ darr 1300 2 4 = true ∧ darr 1310 2 4 = true ∧ darr 1311 2 4 = true ∧ darr 1312 2 4 = true ∧ darr 1313 2 4 = true ∧ darr 1400 4 6 = true ∧ darr 1401 4 6 = true ∧ darr 1500 4 8 = true ∧ darr 1500 4 6 = false ∧ dobj 1000 12 0 2 = true ∧ dobj 1000 12 1 0 = true ∧ dobj 1000 12 2 0 = true ∧ dobj 1000 12 3 2 = true ∧ dobj 1000 12 4 2 = true ∧ dobj 1000 12 5 2 = true ∧ dobj 1000 12 6 2 = true ∧ dobj 1000 12 7 2 = true ∧ dobj 1000 12 8 2 = true ∧ dobj 1000 12 9 2 = true ∧ dobj 1000 12 10 2 = true ∧ dobj 1000 12 11 2 = true ∧ dobj 1000 12 12 0 = true ∧ dobj 1000 12 13 0 = true ∧ dobj 1000 12 14 0 = true ∧ dobj 1000 12 15 0 = true ∧ dobj 1000 12 16 0 = true ∧ dobj 1000 12 17 0 = true ∧ dobj 1000 12 18 1 = true ∧ dobj 1000 12 19 0 = true ∧ dobj 1000 12 20 2 = true ∧ dobj 1000 12 21 2 = true ∧ dobj 1000 12 22 0 = true ∧ dobj 1000 12 23 0 = true ∧ dobj 1000 12 24 2 = true ∧ disO 1000 12 = true := ⟨by decide +kernel, by decide +kernel, by decide +kernel, by decide +kernel, by decide +kernel, by decide +kernel, by decide +kernel, by decide +kernel, by decide +kernel, by decide +kernel, by decide +kernel, by decide +kernel, by decide +kernel, by decide +kernel, by decide +kernel, by decide +kernel, by decide +kernel, by decide +kernel, by decide +kernel, by decide +kernel, by decide +kernel, by decide +kernel, by decide +kernel, by decide +kernel, by decide +kernel, by decide +kernel, by decide +kernel, by decide +kernel, by decide +kernel, by decide +kernel, by decide +kernel, by decide +kernel, by decide +kernel, by decide +kernel, by decide +kernel, by decide +kernel, by decide +kernel, by decide +kernel, by decide +kernel, by decide +kernel, by decide +kernel, by decide +kernel, by decide +kernel, by decide +kernel, by decide +kernel, by decide +kernel, by decide +kernel, by decide +kernel, by decide +kernel, by decide +kernel, by decide +kernel, by decide +kernel, by decide +kernel, by decide +kernel, by decide +kernel, by decide +kernel, by decide +kernel, by decide +kernel, by decide +kernel, by decide +kernel, by decide +kernel, by decide +kernel, by decide +kernel, by decide +kernel, by decide +kernel, by decide +kernel, by decide +kernel⟩
theorem G_x0 : jisO 0 11 = true := by decide +kernel
/-- the desk of N people and M rooms -/
def dk (δ : dM) (N M : Nat) : Prop :=
  ((1 ≤ N ∧ N ≤ 5) ∧ 1 ≤ M ∧ M ≤ 4) ∧
  (DI δ 1000 1 = nI M ∧ DI δ 1000 2 = nI N) ∧
  (DA δ 1000 = true ∧ DA δ 1100 = true ∧ DA δ 1101 = true ∧ DA δ 1102 = true ∧ DA δ 1103 = true ∧ DA δ 1104 = true ∧ DA δ 1300 = true ∧ DA δ 1400 = true ∧ DA δ 1500 = true ∧ DA δ 1900 = true) ∧
  (DR δ 1000 0 = some 0 ∧ DR δ 1000 3 = some 1100 ∧ DR δ 1000 4 = some 1101 ∧ DR δ 1000 5 = some 1400 ∧ DR δ 1000 6 = some 1500 ∧ DR δ 1000 7 = some 1102 ∧ DR δ 1000 8 = some 1103 ∧ DR δ 1000 9 = some 1300 ∧ DR δ 1000 10 = some 1104 ∧ DR δ 1000 11 = some 1900) ∧
  (DN δ 1100 = N ∧ DN δ 1101 = N ∧ DN δ 1102 = N ∧ DN δ 1103 = N ∧ DN δ 1104 = N ∧ DN δ 1300 = N ∧ DN δ 1400 = N ∧ DN δ 1500 = N) ∧
  ∀ p, p < N → (DR δ 1400 p = some (1110 + p) ∧ DA δ (1110 + p) = true ∧ DN δ (1110 + p) = M) ∧ (DR δ 1500 p = some (1200 + p) ∧ DA δ (1200 + p) = true ∧ DN δ (1200 + p) = M) ∧ ∀ r, DI δ (1200 + p) r = 0 ∨ DI δ (1200 + p) r = 1
theorem dk_f {δ : dM} {N M : Nat} (h : dk δ N M) : (DI δ 1000 1 = nI M ∧ DI δ 1000 2 = nI N) ∧
  (DA δ 1000 = true ∧ DA δ 1100 = true ∧ DA δ 1101 = true ∧ DA δ 1102 = true ∧ DA δ 1103 = true ∧ DA δ 1104 = true ∧ DA δ 1300 = true ∧ DA δ 1400 = true ∧ DA δ 1500 = true ∧ DA δ 1900 = true) ∧
  (DR δ 1000 0 = some 0 ∧ DR δ 1000 3 = some 1100 ∧ DR δ 1000 4 = some 1101 ∧ DR δ 1000 5 = some 1400 ∧ DR δ 1000 6 = some 1500 ∧ DR δ 1000 7 = some 1102 ∧ DR δ 1000 8 = some 1103 ∧ DR δ 1000 9 = some 1300 ∧ DR δ 1000 10 = some 1104 ∧ DR δ 1000 11 = some 1900) ∧
  (DN δ 1100 = N ∧ DN δ 1101 = N ∧ DN δ 1102 = N ∧ DN δ 1103 = N ∧ DN δ 1104 = N ∧ DN δ 1300 = N ∧ DN δ 1400 = N ∧ DN δ 1500 = N) := ⟨h.2.1, h.2.2.1, h.2.2.2.1, h.2.2.2.2.1⟩
/-- the row of a person's values, and of what it refuses -/
theorem dk_v {δ : dM} {N M p : Nat} (h : dk δ N M) (hp : p < N) : DR δ 1400 p = some (1110 + p) ∧ DA δ (1110 + p) = true ∧ DN δ (1110 + p) = M ∧ darr (1110 + p) 1 0 = true := by
  have hN := h.1.1.2
  obtain ⟨h1, h2, h3⟩ := (h.2.2.2.2.2 p hp).1
  have key : ∀ q, q < 5 → darr (1110 + q) 1 0 = true := by decide +kernel
  exact ⟨h1, h2, h3, key p (by omega)⟩
theorem dk_r {δ : dM} {N M p : Nat} (h : dk δ N M) (hp : p < N) : DR δ 1500 p = some (1200 + p) ∧ DA δ (1200 + p) = true ∧ DN δ (1200 + p) = M ∧ darr (1200 + p) 1 3 = true ∧ darr (1200 + p) 1 1 = false := by
  have hN := h.1.1.2
  obtain ⟨h1, h2, h3⟩ := (h.2.2.2.2.2 p hp).2.1
  have key : ∀ q, q < 5 → darr (1200 + q) 1 3 = true ∧ darr (1200 + q) 1 1 = false := by decide +kernel
  exact ⟨h1, h2, h3, (key p (by omega)).1, (key p (by omega)).2⟩
theorem jinN {N p : Nat} (h : p < N) (hN : N < 1000) : jin (nI p) N := by
  unfold jin
  rw [nI_toInt (by omega)]
  omega
/-- the greatest of it and 0 -/
def dkC (δ : dM) (N : Nat) : Prop := DR δ 1000 20 = some 1106 ∧ DA δ 1106 = true ∧ DN δ 1106 = N
def dkB (δ : dM) (N : Nat) : Prop := DR δ 1000 21 = some 1107 ∧ DA δ 1107 = true ∧ DN δ 1107 = N
/-- who has a room has one of the flat's -/
def dkH (δ : dM) (N M : Nat) : Prop := ∀ p, p < N → ¬ DI δ 1102 p < 0 → jin (DI δ 1102 p) M
/-- the first k of two rows: the first place that differs is lower in the first -/
def lxl (f h : Nat → Int32) : Nat → Nat → Bool
  | 0, _ => false
  | d + 1, k => if f k = h k then lxl f h d (k + 1) else decide (f k < h k)
def bR (δ : dM) (p : Nat) : Nat := (DI δ 1107 p).toNatClampNeg
/-- the gap -/
def gpD (δ : dM) (p q : Nat) : Int32 := 120 * (DI δ (1110 + p) (bR δ q) - DI δ (1110 + p) (bR δ p))
def prGap (σ : dM) (x y : Int32) : Prop := ∃ N M p q, dk σ N M ∧ dkB σ N ∧ x = nI p ∧ y = nI q ∧ p < N ∧ q < N ∧ jin (DI σ 1107 p) M ∧ jin (DI σ 1107 q) M
def hR_ (δ : dM) (p : Nat) : Nat := (DI δ 1102 p).toNatClampNeg
/-- the envy of p for q -/
def evD (δ : dM) (p q : Nat) : Int32 := if DI δ 1102 p < 0 then -1 else if DI δ 1102 q < 0 then -1 else if p = q then 0 else if DI δ (1200 + p) (hR_ δ q) = 0 then
  (if DI δ (1110 + p) (hR_ δ q) - DI δ 1103 q - DI δ (1110 + p) (hR_ δ p) + DI δ 1103 p ≤ 0 then 0 else DI δ (1110 + p) (hR_ δ q) - DI δ 1103 q - DI δ (1110 + p) (hR_ δ p) + DI δ 1103 p) else 0
def prEnv (σ : dM) (x y : Int32) : Prop := ∃ N M p q, dk σ N M ∧ dkH σ N M ∧ x = nI p ∧ y = nI q ∧ p < N ∧ q < N
def evA (δ : dM) (N : Nat) : Nat → Int32 := sm (fun p => sm (fun q => if evD δ p q ≤ 0 then 0 else evD δ p q) N)
def prD (σ : dM) : Prop := ∃ N M, dk σ N M
def prL (σ : dM) : Prop := ∃ N M, dk σ N M ∧ dkC σ N ∧ dkB σ N
def prHs (σ : dM) : Prop := ∃ N M, dk σ N M ∧ dkH σ N M
