/-! Split: what is left goes to the greatest remainders (s: the object, its row behind it) -/
def spF (s : Nat) : Prop := jisO s 9 = true ∧ jobj s 9 0 2 = true ∧ jref s 0 = s + 1 ∧ jarr (s + 1) 2 4 = true ∧ jlen (s + 1) = 6
def arF (p : Nat) : Prop := jarr p 1 0 = true ∧ jlen p = 6
theorem spF_all : spF 280 ∧ spF 286 ∧ spF 318 := ⟨⟨by decide +kernel, by decide +kernel, by decide +kernel, by decide +kernel, by decide +kernel⟩, ⟨by decide +kernel, by decide +kernel, by decide +kernel, by decide +kernel, by decide +kernel⟩, ⟨by decide +kernel, by decide +kernel, by decide +kernel, by decide +kernel, by decide +kernel⟩⟩
theorem arF_all : arF 275 ∧ arF 277 ∧ arF 278 ∧ arF 279 ∧ arF 283 ∧ arF 284 ∧ arF 285 ∧ arF 303 ∧ arF 304 ∧ arF 274 := ⟨⟨by decide +kernel, by decide +kernel⟩, ⟨by decide +kernel, by decide +kernel⟩, ⟨by decide +kernel, by decide +kernel⟩, ⟨by decide +kernel, by decide +kernel⟩, ⟨by decide +kernel, by decide +kernel⟩, ⟨by decide +kernel, by decide +kernel⟩, ⟨by decide +kernel, by decide +kernel⟩, ⟨by decide +kernel, by decide +kernel⟩, ⟨by decide +kernel, by decide +kernel⟩, ⟨by decide +kernel, by decide +kernel⟩⟩
theorem hoB_tP {r : Nat → Int} : ∀ k, (∃ i, i ≤ k ∧ 0 ≤ r i) → hoB r (k + 1) = some (tP r k)
  | 0, ⟨i, hi, h⟩ => by
    have e : i = 0 := by omega
    subst e
    simp only [hoB, tP]
    rw [if_pos h]
  | k + 1, ⟨i, hi, h⟩ => by
    show (match hoB r (k + 1) with | none => if 0 ≤ r (k + 1) then some (k + 1) else none | some b => if 0 ≤ r (k + 1) ∧ r b < r (k + 1) then some (k + 1) else some b) = some (tP r (k + 1))
    obtain ⟨p1, p2⟩ := tP_ok r k
    by_cases hx : ∃ i, i ≤ k ∧ 0 ≤ r i
    · rw [hoB_tP k hx]
      obtain ⟨j, j1, j2⟩ := hx
      have := p2 j j1
      simp only [tP]
      by_cases c : r (tP r k) < r (k + 1)
      · rw [if_pos c, if_pos ⟨by omega, c⟩]
      · rw [if_neg c, if_neg (fun z => c z.2)]
    · have hn : hoB r (k + 1) = none := by
        rcases e : hoB r (k + 1) with _ | b
        · rfl
        · have := hoB_lt e
          exact absurd ⟨b, by omega, this.2⟩ hx
      have hk : 0 ≤ r (k + 1) := by
        by_cases e : i = k + 1
        · rw [← e]; exact h
        · exact absurd ⟨i, by omega, h⟩ hx
      have hp : r (tP r k) < 0 := by
        by_cases q : r (tP r k) < 0
        · exact q
        · exact absurd ⟨tP r k, p1, by omega⟩ hx
      rw [hn]
      simp only [tP]
      rw [if_pos hk, if_pos (by omega)]
theorem hoN_ex {r : Nat → Int} : ∀ {m : Nat}, 0 < hoN r m → ∃ i, i < m ∧ 0 ≤ r i
  | 0, h => by
    have : hoN r 0 = 0 := rfl
    omega
  | m + 1, h => by
    by_cases c : 0 ≤ r m
    · exact ⟨m, by omega, c⟩
    · have e : hoN r (m + 1) = hoN r m := by
        unfold hoN
        simp only [cn]
        rw [if_neg (by simpa using c)]
        rfl
      rw [e] at h
      obtain ⟨i, h1, h2⟩ := hoN_ex h
      exact ⟨i, by omega, h2⟩
def gvA (p a j : Nat) : Bool := a == p && Nat.ble j 5
def gvB (s a : Nat) : Bool := a == s + 1
theorem gvA_i (p : Nat) {j : Nat} (h : j < 6) : gvA p p j = true := by
  unfold gvA
  rw [jble]
  simp; omega
theorem gvB_i (s : Nat) : gvB s (s + 1) = true := by
  unfold gvB
  simp
def rmI (σ : jM) (s i : Nat) : Int := (σ.2.1 (s + 1) i).toInt
def oX9_giveLeft : jO := joRIIR fun s x y p σ => (spF s ∧ arF p ∧ ∃ L m, x = nI L ∧ y = nI m ∧ L ≤ m ∧ m ≤ 6 ∧ L ≤ hoN (rmI σ s) m, fun v τ => v = none ∧ jfr (gvA p) (gvB s) σ τ ∧ ∀ i, i < 6 → τ.1 p i = if i < y.toNatClampNeg then hoS y.toNatClampNeg x.toNatClampNeg (rmI σ s) (σ.1 p) i else σ.1 p i)
set_option maxRecDepth 100000 in
set_option maxHeartbeats 4000000 in
theorem CGl_max (g : jG) (n : Nat) {post : Option Value → jM → Prop} {σ : jM} {s p m L d : Nat} (hs : spF s) (hm : m + 1 ≤ 6) (r : Nat → Int) (hr : ∀ i, i < m + 1 → (σ.2.1 (s + 1) i).toInt = r i)
    (k : jW g mX9_giveLeft n post 55 [(0, .ref s), (1, .int (nI L)), (2, .int (nI (m + 1))), (3, .ref p), (4, .int (nI d)), (5, .int (nI (tP r m)))] [] σ) : jW g mX9_giveLeft n post 21 [(0, .ref s), (1, .int (nI L)), (2, .int (nI (m + 1))), (3, .ref p), (4, .int (nI d)), (5, .int 0), (6, .int 1)] [] σ := by
  obtain ⟨f1, f2, f3, f4, f5⟩ := hs
  have key := jloop (P := fun k => jW g mX9_giveLeft n post 21 [(0, .ref s), (1, .int (nI L)), (2, .int (nI (m + 1))), (3, .ref p), (4, .int (nI d)), (5, .int (nI (tP r k))), (6, .int (nI (k + 1)))] [] σ) (N := m) (by
    have hle : nI (m + 1) ≤ nI (m + 1) := nI_le (Nat.le_refl _) (by omega)
    refine jvk_ok TX9_giveLeft (V := []) (S := []) (fun _ h => absurd h List.not_mem_nil) (fun _ h => absurd h List.not_mem_nil) [21, 55] 20 _ _ _ _ ?_
    simp (maxSteps := 1000000) [↓Bool.cond_eq_ite, -Prod.forall, -Prod.exists, -Prod.mk.injEq, jvk, tX9_giveLeft, jtb, jol, jst, jlk, jcmp, jbin, jfl, fX9, jc2, lX9, jcat, jel, lv_args, Value.category, jins, jsrt, jins2, jble, jblt, jf3, List.filter_cons, List.filter_nil, G_prop, G_settle, -Int32.not_le, -Int32.not_lt, -Int64.not_le, -Int64.not_lt, i3lt, i6lt, hle]
    try simp (disch := omega) [-Prod.forall, -Prod.exists, -Prod.mk.injEq, -Int32.not_le, -Int32.not_lt, -Int64.not_le, -Int64.not_lt, i3lt, i6lt, hle]
    exact jW.mono k (by simp)) (fun k hk ih => by
    have hlt : ¬ nI (m + 1) ≤ nI (k + 1) := nI_ge (by omega) (by omega)
    obtain ⟨p1, -⟩ := tP_ok r k
    have j1 : jin (nI (k + 1)) 6 ∧ (nI (k + 1)).toNatClampNeg = k + 1 := ⟨jin_nI (by omega) (by decide), nI_clamp (by omega)⟩
    have j2 : jin (nI (tP r k)) 6 ∧ (nI (tP r k)).toNatClampNeg = tP r k := ⟨jin_nI (by omega) (by decide), nI_clamp (by omega)⟩
    have e1 := hr (k + 1) (by omega)
    have e2 := hr (tP r k) (by omega)
    simp only [tP] at ih
    by_cases c : r (tP r k) < r (k + 1)
    · have c1 : ¬ σ.2.1 (s + 1) (k + 1) ≤ σ.2.1 (s + 1) (tP r k) := fun z => by
        rw [Int64.le_iff_toInt_le, e1, e2] at z
        omega
      rw [if_pos c] at ih
      refine jvk_ok TX9_giveLeft (V := []) (S := []) (fun _ h => absurd h List.not_mem_nil) (fun _ h => absurd h List.not_mem_nil) [21, 55] 40 _ _ _ _ ?_
      simp (maxSteps := 1000000) [↓Bool.cond_eq_ite, -Prod.forall, -Prod.exists, -Prod.mk.injEq, jvk, tX9_giveLeft, jtb, jol, jst, jlk, jcmp, jbin, jfl, fX9, jc2, lX9, jcat, jel, lv_args, Value.category, jins, jsrt, jins2, jble, jblt, jf3, List.filter_cons, List.filter_nil, G_prop, G_settle, -Int32.not_le, -Int32.not_lt, -Int64.not_le, -Int64.not_lt, i3lt, i6lt, hlt, f1, f2, f3, f4, f5, j1, j2, c1, lg_cmp_le, nI_1]
      try simp (disch := omega) [-Prod.forall, -Prod.exists, -Prod.mk.injEq, -Int32.not_le, -Int32.not_lt, -Int64.not_le, -Int64.not_lt, i3lt, i6lt, hlt, f1, f2, f3, f4, f5, j1, j2, c1, lg_cmp_le, nI_1]
      exact ih
    · have c1 : σ.2.1 (s + 1) (k + 1) ≤ σ.2.1 (s + 1) (tP r k) := by
        rw [Int64.le_iff_toInt_le, e1, e2]
        omega
      rw [if_neg c] at ih
      refine jvk_ok TX9_giveLeft (V := []) (S := []) (fun _ h => absurd h List.not_mem_nil) (fun _ h => absurd h List.not_mem_nil) [21, 55] 40 _ _ _ _ ?_
      simp (maxSteps := 1000000) [↓Bool.cond_eq_ite, -Prod.forall, -Prod.exists, -Prod.mk.injEq, jvk, tX9_giveLeft, jtb, jol, jst, jlk, jcmp, jbin, jfl, fX9, jc2, lX9, jcat, jel, lv_args, Value.category, jins, jsrt, jins2, jble, jblt, jf3, List.filter_cons, List.filter_nil, G_prop, G_settle, -Int32.not_le, -Int32.not_lt, -Int64.not_le, -Int64.not_lt, i3lt, i6lt, hlt, f1, f2, f3, f4, f5, j1, j2, c1, lg_cmp_le, nI_1]
      try simp (disch := omega) [-Prod.forall, -Prod.exists, -Prod.mk.injEq, -Int32.not_le, -Int32.not_lt, -Int64.not_le, -Int64.not_lt, i3lt, i6lt, hlt, f1, f2, f3, f4, f5, j1, j2, c1, lg_cmp_le, nI_1]
      exact ih)
  have e1 : nI (0 + 1) = 1 := rfl
  have e2 : nI (tP r 0) = 0 := nI_0
  rw [e1, e2] at key
  exact key
set_option maxRecDepth 100000 in
set_option maxHeartbeats 4000000 in
theorem CX9_giveLeft (g : jG) (n : Nat) : jOk g (n + 0) mX9_giveLeft oX9_giveLeft := by
  refine joRIIR_ok ?_
  rintro s _ _ p σ ⟨hs, hpp, L, m, rfl, rfl, hLm, hm6, hL⟩
  have hs' := hs
  obtain ⟨f1, f2, f3, f4, f5⟩ := hs
  obtain ⟨g1, g2⟩ := hpp
  have ecL : (nI L).toNatClampNeg = L := nI_clamp (by omega)
  have ecm : (nI m).toNatClampNeg = m := nI_clamp (by omega)
  refine jCon.ofP (by decide +kernel) (by simp [lg_sl, Value.category]) (fun post hp => ?_)
  refine jvk_ok TX9_giveLeft (V := []) (S := []) (fun _ h => absurd h List.not_mem_nil) (fun _ h => absurd h List.not_mem_nil) [3] 20 _ _ _ _ ?_
  simp (maxSteps := 1000000) [↓Bool.cond_eq_ite, -Prod.forall, -Prod.exists, -Prod.mk.injEq, jvk, tX9_giveLeft, jtb, jol, jst, jlk, jcmp, jbin, jfl, fX9, jc2, lX9, jcat, jel, lv_args, Value.category, jins, jsrt, jins2, jble, jblt, jf3, List.filter_cons, List.filter_nil, G_prop, G_settle, -Int32.not_le, -Int32.not_lt, -Int64.not_le, -Int64.not_lt, i3lt, i6lt]
  try simp (disch := omega) [-Prod.forall, -Prod.exists, -Prod.mk.injEq, -Int32.not_le, -Int32.not_lt, -Int64.not_le, -Int64.not_lt, i3lt, i6lt]
  rw [ecL, ecm] at hp
  have key : ∀ (d k : Nat) (τ : jM) (r : Nat → Int) (S : Nat → Int32), k + d = L → d ≤ hoN r m → jfr (gvA p) (gvB s) σ τ → (∀ i, i < m → (τ.2.1 (s + 1) i).toInt = r i) → (∀ i, i < 6 → τ.1 p i = if i < m then S i else σ.1 p i) → (∀ i, i < m → hoS m d r S i = hoS m L (rmI σ s) (σ.1 p) i) → jW g mX9_giveLeft n post 3 [(0, .ref s), (1, .int (nI L)), (2, .int (nI m)), (3, .ref p), (4, .int (nI k))] [] τ := by
    intro d
    induction d with
    | zero =>
      intro k τ r S hk _ f hr hS he
      have hle : nI L ≤ nI k := nI_le (by omega) (by omega)
      refine jvk_ok TX9_giveLeft (V := []) (S := []) (fun _ h => absurd h List.not_mem_nil) (fun _ h => absurd h List.not_mem_nil) [3, 21] 20 _ _ _ _ ?_
      simp (maxSteps := 1000000) [↓Bool.cond_eq_ite, -Prod.forall, -Prod.exists, -Prod.mk.injEq, jvk, tX9_giveLeft, jtb, jol, jst, jlk, jcmp, jbin, jfl, fX9, jc2, lX9, jcat, jel, lv_args, Value.category, jins, jsrt, jins2, jble, jblt, jf3, List.filter_cons, List.filter_nil, G_prop, G_settle, -Int32.not_le, -Int32.not_lt, -Int64.not_le, -Int64.not_lt, i3lt, i6lt, hle]
      try simp (disch := omega) [-Prod.forall, -Prod.exists, -Prod.mk.injEq, -Int32.not_le, -Int32.not_lt, -Int64.not_le, -Int64.not_lt, i3lt, i6lt, hle]
      refine hp _ _ ⟨rfl, f, fun i hi => ?_⟩
      rw [hS i hi]
      by_cases c : i < m
      · rw [if_pos c, if_pos c]; exact he i c
      · rw [if_neg c, if_neg c]
    | succ d ih =>
      intro k τ r S hk hd f hr hS he
      have hlt : ¬ nI L ≤ nI k := nI_ge (by omega) (by omega)
      have hlt2 : ¬ nI m ≤ nI k := nI_ge (by omega) (by omega)
      obtain ⟨i0, hi0, hi1⟩ := hoN_ex (r := r) (m := m) (by omega)
      obtain ⟨q, rfl⟩ : ∃ q, m = q + 1 := ⟨m - 1, by omega⟩
      have hB := hoB_tP (r := r) q ⟨i0, by omega, hi1⟩
      have hb := hoB_lt hB
      have j2 : jin (nI (tP r q)) 6 ∧ (nI (tP r q)).toNatClampNeg = tP r q := ⟨jin_nI (by omega) (by decide), nI_clamp (by omega)⟩
      have hu := hoN_upd hb.2 (q + 1)
      rw [if_pos hb.1] at hu
      have k1 := ih (k + 1) (jupL (jup τ p (tP r q) (τ.1 p (tP r q) + 1)) (s + 1) (tP r q) (-1)) (hoU r (tP r q)) (hoA S (tP r q)) (by omega) (by omega) ((f.up _ (gvA_i p (by omega))).upL _ (gvB_i s)) (fun i hi => by
        rw [jupL_2]
        unfold hoU
        by_cases e : i = tP r q
        · rw [if_pos ⟨rfl, e⟩, if_pos e]; rfl
        · rw [if_neg (fun z => e z.2), if_neg e]; exact hr i hi) (fun i hi => by
        rw [jupL_1, jup_1]
        by_cases e : i = tP r q
        · subst e
          rw [if_pos ⟨rfl, rfl⟩, if_pos hb.1, hoA, if_pos rfl, hS _ hi, if_pos hb.1]
        · rw [if_neg (fun z => e z.2), hS i hi]
          unfold hoA
          rw [if_neg e]) (fun i hi => by
        rw [← he i hi]
        simp only [hoS, hB])
      refine jvk_ok TX9_giveLeft (V := []) (S := []) (fun _ h => absurd h List.not_mem_nil) (fun _ h => absurd h List.not_mem_nil) [3, 21] 20 _ _ _ _ ?_
      simp (maxSteps := 1000000) [↓Bool.cond_eq_ite, -Prod.forall, -Prod.exists, -Prod.mk.injEq, jvk, tX9_giveLeft, jtb, jol, jst, jlk, jcmp, jbin, jfl, fX9, jc2, lX9, jcat, jel, lv_args, Value.category, jins, jsrt, jins2, jble, jblt, jf3, List.filter_cons, List.filter_nil, G_prop, G_settle, -Int32.not_le, -Int32.not_lt, -Int64.not_le, -Int64.not_lt, i3lt, i6lt, hlt, hlt2]
      try simp (disch := omega) [-Prod.forall, -Prod.exists, -Prod.mk.injEq, -Int32.not_le, -Int32.not_lt, -Int64.not_le, -Int64.not_lt, i3lt, i6lt, hlt, hlt2]
      refine CGl_max g n hs' hm6 r hr ?_
      refine jvk_ok TX9_giveLeft (V := []) (S := []) (fun _ h => absurd h List.not_mem_nil) (fun _ h => absurd h List.not_mem_nil) [3] 40 _ _ _ _ ?_
      simp (maxSteps := 1000000) [↓Bool.cond_eq_ite, -Prod.forall, -Prod.exists, -Prod.mk.injEq, jvk, tX9_giveLeft, jtb, jol, jst, jlk, jcmp, jbin, jfl, fX9, jc2, lX9, jcat, jel, lv_args, Value.category, jins, jsrt, jins2, jble, jblt, jf3, List.filter_cons, List.filter_nil, G_prop, G_settle, -Int32.not_le, -Int32.not_lt, -Int64.not_le, -Int64.not_lt, i3lt, i6lt, f1, f2, f3, f4, f5, g1, g2, j2, nI_1]
      try simp (disch := omega) [-Prod.forall, -Prod.exists, -Prod.mk.injEq, -Int32.not_le, -Int32.not_lt, -Int64.not_le, -Int64.not_lt, i3lt, i6lt, f1, f2, f3, f4, f5, g1, g2, j2, nI_1]
      exact jW.mono k1 (by simp)
  have k0 := key L 0 σ (rmI σ s) (σ.1 p) (by omega) hL jfr.rfl (fun i _ => rfl) (fun i _ => by split <;> rfl) (fun i _ => rfl)
  rw [nI_0] at k0
  exact k0
/-! Split: prices in whole units -/
theorem fd_eq {x : Int} (hx : -1000000000 ≤ x ∧ x ≤ 1000000000) : fd120 (iI x) = iI (x / 120) ∧ fm120 (iI x) = iI (x % 120) := by
  have h0 := tdiv_120 x
  have e1 : iI x / 120 = iI (x.tdiv 120) := iI_tdiv (y := 120) ⟨by omega, by omega⟩ (by decide)
  have e2 : iI (x.tdiv 120) * 120 = iI (x.tdiv 120 * 120) := iI_mul _ 120
  have e3 : iI (x.tdiv 120) - 1 = iI (x.tdiv 120 - 1) := iI_sub _ 1
  have e4 : iI x - iI (x.tdiv 120 * 120) = iI (x - x.tdiv 120 * 120) := iI_sub _ _
  have e5 : iI (x - x.tdiv 120 * 120) + 120 = iI (x - x.tdiv 120 * 120 + 120) := iI_add _ 120
  have hb : x.tdiv 120 ≤ 1000000000 ∧ -1000000000 ≤ x.tdiv 120 ∧ x.tdiv 120 * 120 ≤ 1000000000 ∧ -1000000000 ≤ x.tdiv 120 * 120 := by
    by_cases h : 0 ≤ x
    · rw [h0.1 h]; omega
    · rw [h0.2 (by omega)]; omega
  have sgn : (iI x ^^^ 120) < 0 ↔ x < 0 := by
    rw [← iI_lt (x := x) (y := 0) ⟨by omega, by omega⟩ (by decide)]
    have z : ∀ y : Int32, (y ^^^ 120) < 0 ↔ y < 0 := fun y => by
      have a1 : ∀ w : Int32, w < 0 ↔ w.toBitVec.msb = true := fun w => by
        rw [Int32.lt_iff_toInt_lt, Int32.toInt_zero, ← Int32.toInt_toBitVec, BitVec.msb_eq_toInt]
        simp
      rw [a1, a1]
      have : (y ^^^ 120).toBitVec = y.toBitVec ^^^ (120 : Int32).toBitVec := rfl
      rw [this, BitVec.msb_xor]
      have : (120 : Int32).toBitVec.msb = false := by decide
      rw [this]
      simp
    exact z _
  have eq1 : iI (x.tdiv 120 * 120) = iI x ↔ x.tdiv 120 * 120 = x := iI_eq ⟨by omega, by omega⟩ ⟨by omega, by omega⟩
  have eq2 : iI (x - x.tdiv 120 * 120) = 0 ↔ x - x.tdiv 120 * 120 = 0 := iI_eq (y := 0) ⟨by omega, by omega⟩ (by decide)
  unfold fd120 fm120
  rw [e1, e2, e3, e4, e5]
  by_cases h : 0 ≤ x
  · have hn : ¬ (iI x ^^^ 120) < 0 := fun z => by have := sgn.mp z; omega
    rw [if_neg (fun z => hn z.1), if_neg (fun z => hn z.1), h0.1 h]
    exact ⟨rfl, by congr 1; omega⟩
  · have hn : (iI x ^^^ 120) < 0 := sgn.mpr (by omega)
    have h2 := h0.2 (by omega)
    by_cases c : x.tdiv 120 * 120 = x
    · rw [if_neg (fun z => z.2 (eq1.mpr c)), if_neg (fun z => z.2 (eq2.mpr (by omega)))]
      exact ⟨by congr 1; rw [h2] at c ⊢; omega, by congr 1; rw [h2] at c ⊢; omega⟩
    · rw [if_pos ⟨hn, fun z => c (eq1.mp z)⟩, if_pos ⟨hn, fun z => c (by have := eq2.mp z; omega)⟩]
      exact ⟨by congr 1; rw [h2] at c ⊢; omega, by congr 1; rw [h2] at c ⊢; omega⟩
/-- units of prices f that are A in all -/
def tuL (A : Int) (f : Nat → Int) (m : Nat) : Int := A - sI (fun i => f i / 120) m
def tuS (A : Int) (f : Nat → Int) (m : Nat) : Nat → Int32 := hoS m (tuL A f m).toNat (fun i => f i % 120) (fun i => iI (f i / 120))
def ivI (σ : jM) (q i : Nat) : Int := (σ.1 q i).toInt
def oX9_toUnits : jO := joRIRIR fun s x q y p σ => (spF s ∧ arF p ∧ arF q ∧ p ≠ q ∧ ∃ (A m : Nat), x = nI A ∧ A ≤ 99999 ∧ y = nI m ∧ m ≤ 6 ∧ (∀ i, i < m → -100000000 ≤ ivI σ q i ∧ ivI σ q i ≤ 100000000) ∧ 0 ≤ tuL A (ivI σ q) m ∧ tuL A (ivI σ q) m ≤ m, fun v τ => v = none ∧ jfr (gvA p) (gvB s) σ τ ∧ ∀ i, i < y.toNatClampNeg → τ.1 p i = tuS x.toNatClampNeg (ivI σ q) y.toNatClampNeg i)
set_option maxRecDepth 100000 in
set_option maxHeartbeats 4000000 in
theorem CX9_toUnits (g : jG) (n : Nat) : jOk g (n + 1) mX9_toUnits oX9_toUnits := by
  refine joRIRIR_ok ?_
  rintro s _ q _ p σ ⟨hs, hpp, hqq, hpq, A, m, rfl, hA, rfl, hm6, hb, hl0, hlm⟩
  have hs' := hs
  have hpp' := hpp
  obtain ⟨f1, f2, f3, f4, f5⟩ := hs
  obtain ⟨g1, g2⟩ := hpp
  obtain ⟨g3, g4⟩ := hqq
  have ecA : (nI A).toNatClampNeg = A := nI_clamp (by omega)
  have ecm : (nI m).toNatClampNeg = m := nI_clamp (by omega)
  have hqp : ¬ q = p := fun z => hpq z.symm
  refine jCon.ofP (by decide +kernel) (by simp [lg_sl, Value.category]) (fun post hp => ?_)
  refine jvk_ok TX9_toUnits (V := [(15, 4, 9, oX9_giveLeft)]) (S := [(19, 2, 0, oJ9_floorDiv_7cf53), (25, 2, 0, oJ9_floorMod_7cf53)]) (List.forall_mem_cons.mpr ⟨⟨mX9_giveLeft, n + 0, 3, TX9, 1, rfl, by omega, kX9_15, WX9_giveLeft, rfl, CX9_giveLeft g (n)⟩, (fun _ h => absurd h List.not_mem_nil)⟩) (List.forall_mem_cons.mpr ⟨⟨mJ9_floorDiv_7cf53, n + 0, by omega, Or.inl kX9_19, WJ9_floorDiv_7cf53, CJ9_floorDiv_7cf53 g (n)⟩, (List.forall_mem_cons.mpr ⟨⟨mJ9_floorMod_7cf53, n + 0, by omega, Or.inl kX9_25, WJ9_floorMod_7cf53, CJ9_floorMod_7cf53 g (n)⟩, (fun _ h => absurd h List.not_mem_nil)⟩)⟩) [6] 20 _ _ _ _ ?_
  simp (maxSteps := 1000000) [↓Bool.cond_eq_ite, -Prod.forall, -Prod.exists, -Prod.mk.injEq, jvk, tX9_toUnits, jtb, jol, jst, jlk, jcmp, jbin, jfl, fX9, jc2, lX9, jcat, jel, lv_args, Value.category, jins, jsrt, jins2, jble, jblt, jf3, List.filter_cons, List.filter_nil, G_prop, G_settle, oJ9_floorDiv_7cf53, oJ9_floorMod_7cf53, oX9_giveLeft, joII, joRIIR, -Int32.not_le, -Int32.not_lt, -Int64.not_le, -Int64.not_lt, i3lt, i6lt]
  try simp (disch := omega) [-Prod.forall, -Prod.exists, -Prod.mk.injEq, -Int32.not_le, -Int32.not_lt, -Int64.not_le, -Int64.not_lt, i3lt, i6lt]
  rw [ecA, ecm] at hp
  have key := jloop (P := fun k => ∀ τ : jM, jfr (gvA p) (gvB s) σ τ → (∀ i, i < k → τ.1 p i = iI (ivI σ q i / 120) ∧ τ.2.1 (s + 1) i = lI (ivI σ q i % 120)) → jW g mX9_toUnits (n + 1) post 6 [(0, .ref s), (1, .int (nI A)), (2, .ref q), (3, .int (nI m)), (4, .ref p), (5, .int (iI ((A : Int) - sI (fun i => ivI σ q i / 120) k))), (6, .int (nI k))] [] τ) (N := m) (fun τ f h => by
    have hle : nI m ≤ nI m := nI_le (Nat.le_refl _) (by omega)
    have elf : iI ((A : Int) - sI (fun i => ivI σ q i / 120) m) = nI (tuL A (ivI σ q) m).toNat := by
      rw [← iI_nat]
      congr 1
      unfold tuL at hl0 ⊢
      omega
    have er : ∀ i, i < m → rmI τ s i = ivI σ q i % 120 := fun i hi => by
      unfold rmI
      rw [(h i hi).2, lI_toInt ⟨by omega, by omega⟩]
    have hall : hoN (rmI τ s) m = m := hoN_all (fun i hi => by rw [er i hi]; omega)
    have hpre : ∃ L, nI (tuL A (ivI σ q) m).toNat = nI L ∧ ∃ x, nI m = nI x ∧ L ≤ x ∧ x ≤ 6 ∧ L ≤ hoN (rmI τ s) x := ⟨_, rfl, m, rfl, by omega, hm6, by rw [hall]; omega⟩
    rw [elf]
    refine jvk_ok TX9_toUnits (V := [(15, 4, 9, oX9_giveLeft)]) (S := [(19, 2, 0, oJ9_floorDiv_7cf53), (25, 2, 0, oJ9_floorMod_7cf53)]) (List.forall_mem_cons.mpr ⟨⟨mX9_giveLeft, n + 0, 3, TX9, 1, rfl, by omega, kX9_15, WX9_giveLeft, rfl, CX9_giveLeft g (n)⟩, (fun _ h => absurd h List.not_mem_nil)⟩) (List.forall_mem_cons.mpr ⟨⟨mJ9_floorDiv_7cf53, n + 0, by omega, Or.inl kX9_19, WJ9_floorDiv_7cf53, CJ9_floorDiv_7cf53 g (n)⟩, (List.forall_mem_cons.mpr ⟨⟨mJ9_floorMod_7cf53, n + 0, by omega, Or.inl kX9_25, WJ9_floorMod_7cf53, CJ9_floorMod_7cf53 g (n)⟩, (fun _ h => absurd h List.not_mem_nil)⟩)⟩) [6, 68] 30 _ _ _ _ ?_
    simp (maxSteps := 1000000) [↓Bool.cond_eq_ite, -Prod.forall, -Prod.exists, -Prod.mk.injEq, jvk, tX9_toUnits, jtb, jol, jst, jlk, jcmp, jbin, jfl, fX9, jc2, lX9, jcat, jel, lv_args, Value.category, jins, jsrt, jins2, jble, jblt, jf3, List.filter_cons, List.filter_nil, G_prop, G_settle, oJ9_floorDiv_7cf53, oJ9_floorMod_7cf53, oX9_giveLeft, joII, joRIIR, -Int32.not_le, -Int32.not_lt, -Int64.not_le, -Int64.not_lt, i3lt, i6lt, hle, f1, hs', hpp', hpre]
    try simp (disch := omega) [-Prod.forall, -Prod.exists, -Prod.mk.injEq, -Int32.not_le, -Int32.not_lt, -Int64.not_le, -Int64.not_lt, i3lt, i6lt, hle, f1, hs', hpp', hpre]
    intro v1 τ1 hv1 f1' h1
    subst hv1
    refine jvk_ok TX9_toUnits (V := [(15, 4, 9, oX9_giveLeft)]) (S := [(19, 2, 0, oJ9_floorDiv_7cf53), (25, 2, 0, oJ9_floorMod_7cf53)]) (List.forall_mem_cons.mpr ⟨⟨mX9_giveLeft, n + 0, 3, TX9, 1, rfl, by omega, kX9_15, WX9_giveLeft, rfl, CX9_giveLeft g (n)⟩, (fun _ h => absurd h List.not_mem_nil)⟩) (List.forall_mem_cons.mpr ⟨⟨mJ9_floorDiv_7cf53, n + 0, by omega, Or.inl kX9_19, WJ9_floorDiv_7cf53, CJ9_floorDiv_7cf53 g (n)⟩, (List.forall_mem_cons.mpr ⟨⟨mJ9_floorMod_7cf53, n + 0, by omega, Or.inl kX9_25, WJ9_floorMod_7cf53, CJ9_floorMod_7cf53 g (n)⟩, (fun _ h => absurd h List.not_mem_nil)⟩)⟩) [] 10 _ _ _ _ ?_
    simp (maxSteps := 1000000) [↓Bool.cond_eq_ite, -Prod.forall, -Prod.exists, -Prod.mk.injEq, jvk, tX9_toUnits, jtb, jol, jst, jlk, jcmp, jbin, jfl, fX9, jc2, lX9, jcat, jel, lv_args, Value.category, jins, jsrt, jins2, jble, jblt, jf3, List.filter_cons, List.filter_nil, G_prop, G_settle, oJ9_floorDiv_7cf53, oJ9_floorMod_7cf53, oX9_giveLeft, joII, joRIIR, -Int32.not_le, -Int32.not_lt, -Int64.not_le, -Int64.not_lt, i3lt, i6lt]
    try simp (disch := omega) [-Prod.forall, -Prod.exists, -Prod.mk.injEq, -Int32.not_le, -Int32.not_lt, -Int64.not_le, -Int64.not_lt, i3lt, i6lt]
    refine hp _ _ ⟨rfl, f.tr f1', fun i hi => ?_⟩
    rw [h1 i (by omega), ecm, if_pos hi, nI_clamp (by omega)]
    exact hoS_congr _ _ _ _ _ (fun j hj => ⟨er j hj, (h j hj).1⟩) i hi) (fun k hk ih τ f h => by
    have hlt : ¬ nI m ≤ nI k := nI_ge hk (by omega)
    have jk : jin (nI k) 6 ∧ (nI k).toNatClampNeg = k := ⟨jin_nI (by omega) (by decide), nI_clamp (by omega)⟩
    have hbk := hb k hk
    have eq : τ.1 q k = iI (ivI σ q k) := by
      rw [f.2.2 q k (by unfold gvA; simp [hqp])]
      exact (iI_of _).symm
    obtain ⟨d1, d2⟩ := fd_eq (x := ivI σ q k) (by omega)
    have eL : (iI (ivI σ q k % 120)).toInt64 = lI (ivI σ q k % 120) := by
      have e1 : ivI σ q k % 120 = ((ivI σ q k % 120).toNat : Int) := by omega
      rw [e1, iI_nat, lI_nat]
      exact nI_l (by omega)
    have eq2 : ∀ z, (jup τ p k z).1 q k = iI (ivI σ q k) := fun z => by rw [jup_1, if_neg (fun w => hqp w.1), eq]
    simp only [sI] at ih
    have eA : (A : Int) - (sI (fun i => ivI σ q i / 120) k + ivI σ q k / 120) = (A : Int) - sI (fun i => ivI σ q i / 120) k - ivI σ q k / 120 := by omega
    rw [eA] at ih
    have k1 := ih (jupL (jup τ p k (iI (ivI σ q k / 120))) (s + 1) k (lI (ivI σ q k % 120))) ((f.up _ (gvA_i p (by omega))).upL _ (gvB_i s)) (fun i hi => by
      rw [jupL_1, jupL_2, jup_1]
      by_cases e : i = k
      · subst e
        exact ⟨if_pos ⟨rfl, rfl⟩, if_pos ⟨rfl, rfl⟩⟩
      · rw [if_neg (fun z => e z.2), if_neg (fun z => e z.2)]
        exact h i (by omega))
    have e9 : (jupL (jup τ p k (iI (ivI σ q k / 120))) (s + 1) k (lI (ivI σ q k % 120))).1 p k = iI (ivI σ q k / 120) := by rw [jupL_1, jup_s]
    refine jvk_ok TX9_toUnits (V := [(15, 4, 9, oX9_giveLeft)]) (S := [(19, 2, 0, oJ9_floorDiv_7cf53), (25, 2, 0, oJ9_floorMod_7cf53)]) (List.forall_mem_cons.mpr ⟨⟨mX9_giveLeft, n + 0, 3, TX9, 1, rfl, by omega, kX9_15, WX9_giveLeft, rfl, CX9_giveLeft g (n)⟩, (fun _ h => absurd h List.not_mem_nil)⟩) (List.forall_mem_cons.mpr ⟨⟨mJ9_floorDiv_7cf53, n + 0, by omega, Or.inl kX9_19, WJ9_floorDiv_7cf53, CJ9_floorDiv_7cf53 g (n)⟩, (List.forall_mem_cons.mpr ⟨⟨mJ9_floorMod_7cf53, n + 0, by omega, Or.inl kX9_25, WJ9_floorMod_7cf53, CJ9_floorMod_7cf53 g (n)⟩, (fun _ h => absurd h List.not_mem_nil)⟩)⟩) [6, 68] 60 _ _ _ _ ?_
    simp (maxSteps := 1000000) [↓Bool.cond_eq_ite, -Prod.forall, -Prod.exists, -Prod.mk.injEq, jvk, tX9_toUnits, jtb, jol, jst, jlk, jcmp, jbin, jfl, fX9, jc2, lX9, jcat, jel, lv_args, Value.category, jins, jsrt, jins2, jble, jblt, jf3, List.filter_cons, List.filter_nil, G_prop, G_settle, oJ9_floorDiv_7cf53, oJ9_floorMod_7cf53, oX9_giveLeft, joII, joRIIR, -Int32.not_le, -Int32.not_lt, -Int64.not_le, -Int64.not_lt, i3lt, i6lt, hlt, f1, f2, f3, f4, f5, g1, g2, g3, g4, jk, eq, eq2, d1, d2, eL, e9, iI_sub, nI_1]
    try simp (disch := omega) [-Prod.forall, -Prod.exists, -Prod.mk.injEq, -Int32.not_le, -Int32.not_lt, -Int64.not_le, -Int64.not_lt, i3lt, i6lt, hlt, f1, f2, f3, f4, f5, g1, g2, g3, g4, jk, eq, eq2, d1, d2, eL, e9, iI_sub, nI_1]
    exact k1)
  have k0 := key σ jfr.rfl (fun i hi => by omega)
  have e0 : iI ((A : Int) - sI (fun i => ivI σ q i / 120) 0) = nI A := by
    rw [← iI_nat]
    congr 1 <;> simp [sI]
  rw [nI_0, e0] at k0
  exact k0
/-! Split: an amount by weights -/
def wtN (σ : jM) (q i : Nat) : Nat := (σ.1 q i).toNatClampNeg
def oX9_byWeights : jO := joRIRIR fun s x q y p σ => (spF s ∧ arF p ∧ arF q ∧ p ≠ q ∧ ∃ (A m : Nat), x = nI A ∧ A ≤ 99999 ∧ y = nI m ∧ m ≤ 6 ∧ (∀ i, i < m → 0 ≤ σ.1 q i), fun v τ => v = none ∧ jfr (gvA p) (gvB s) σ τ ∧ ∀ i, i < y.toNatClampNeg → τ.1 p i = spS x.toNatClampNeg (wtN σ q) y.toNatClampNeg i)
set_option maxRecDepth 100000 in
set_option maxHeartbeats 4000000 in
theorem CX9_byWeights (g : jG) (n : Nat) : jOk g (n + 1) mX9_byWeights oX9_byWeights := by
  refine joRIRIR_ok ?_
  rintro s _ q _ p σ ⟨hs, hpp, hqq, hpq, A, m, rfl, hA, rfl, hm6, hw⟩
  have hs' := hs
  have hpp' := hpp
  obtain ⟨f1, f2, f3, f4, f5⟩ := hs
  obtain ⟨g1, g2⟩ := hpp
  obtain ⟨g3, g4⟩ := hqq
  have ecA : (nI A).toNatClampNeg = A := nI_clamp (by omega)
  have ecA2 : (nI A).toInt64 = lN A := nI_l (by omega)
  have ecm : (nI m).toNatClampNeg = m := nI_clamp (by omega)
  have ecm2 : (nI m).toInt64 = lN m := nI_l (by omega)
  have hqp : ¬ q = p := fun z => hpq z.symm
  have hwn : ∀ i, i < m → σ.1 q i = nI (wtN σ q i) ∧ wtN σ q i < 2147483648 := fun i hi => by
    obtain ⟨j, h1, h2⟩ := nI_of (x := σ.1 q i) (by have := hw i hi; grind)
    unfold wtN
    rw [h2, nI_clamp h1]
    exact ⟨rfl, h1⟩
  have hsum : ∀ k, k ≤ m → smN (wtN σ q) k ≤ 2147483648 * k := fun k hk => smN_le _ (fun i hi => by have := (hwn i (by omega)).2; omega)
  have hsm := hsum m (Nat.le_refl _)
  refine jCon.ofP (by decide +kernel) (by simp [lg_sl, Value.category]) (fun post hp => ?_)
  refine jvk_ok TX9_byWeights (V := [(15, 4, 9, oX9_giveLeft)]) (S := []) (List.forall_mem_cons.mpr ⟨⟨mX9_giveLeft, n + 0, 3, TX9, 1, rfl, by omega, kX9_15, WX9_giveLeft, rfl, CX9_giveLeft g (n)⟩, (fun _ h => absurd h List.not_mem_nil)⟩) (fun _ h => absurd h List.not_mem_nil) [6] 20 _ _ _ _ ?_
  simp (maxSteps := 1000000) [↓Bool.cond_eq_ite, -Prod.forall, -Prod.exists, -Prod.mk.injEq, jvk, tX9_byWeights, jtb, jol, jst, jlk, jcmp, jbin, jfl, fX9, jc2, lX9, jcat, jel, lv_args, Value.category, jins, jsrt, jins2, jble, jblt, jf3, List.filter_cons, List.filter_nil, G_prop, G_settle, oX9_giveLeft, joRIIR, -Int32.not_le, -Int32.not_lt, -Int64.not_le, -Int64.not_lt, i3lt, i6lt]
  try simp (disch := omega) [-Prod.forall, -Prod.exists, -Prod.mk.injEq, -Int32.not_le, -Int32.not_lt, -Int64.not_le, -Int64.not_lt, i3lt, i6lt]
  rw [ecA, ecm] at hp
  have l2 : ∀ e : Nat, 0 < m → e = (if smN (wtN σ q) m = 0 then 1 else 0) → jW g mX9_byWeights (n + 1) post 70 [(0, .ref s), (1, .int (nI A)), (2, .ref q), (3, .int (nI m)), (4, .ref p), (7, .int (nI e)), (8, .long (lN (spA (wtN σ q) m))), (10, .int (nI A)), (11, .int 0)] [] σ := by
    intro e hm he
    obtain ⟨s1, s2, s3⟩ := sp_le A (wtN σ q) hm
    have sA : spA (wtN σ q) m < 2147483648 * 11 := by unfold spA; split <;> omega
    have enz : ¬ lN (spA (wtN σ q) m) = 0 := fun z => by
      have := (pk_lEQ (b := 0) (by omega) (by omega)).mp z
      omega
    have key := jloop (P := fun k => ∀ τ : jM, jfr (gvA p) (gvB s) σ τ → (∀ i, i < k → τ.1 p i = nI (spP A (wtN σ q) m i) ∧ τ.2.1 (s + 1) i = lN (spR A (wtN σ q) m i)) → jW g mX9_byWeights (n + 1) post 70 [(0, .ref s), (1, .int (nI A)), (2, .ref q), (3, .int (nI m)), (4, .ref p), (7, .int (nI e)), (8, .long (lN (spA (wtN σ q) m))), (10, .int (nI (A - smN (spP A (wtN σ q) m) k))), (11, .int (nI k))] [] τ) (N := m) (fun τ f h => by
      have hle : nI m ≤ nI m := nI_le (Nat.le_refl _) (by omega)
      have er : ∀ i, i < m → rmI τ s i = (spR A (wtN σ q) m i : Int) := fun i hi => by
        have hlt := Nat.mod_lt (A * spW (wtN σ q) m i) s1
        have hlt2 : spR A (wtN σ q) m i < spA (wtN σ q) m := hlt
        unfold rmI
        rw [(h i hi).2, pk_lT (by omega)]
      have hall : hoN (rmI τ s) m = m := hoN_all (fun i hi => by rw [er i hi]; omega)
      have hlE : A - smN (spP A (wtN σ q) m) m = spL A (wtN σ q) m := rfl
      have hpre : ∃ L, nI (spL A (wtN σ q) m) = nI L ∧ ∃ x, nI m = nI x ∧ L ≤ x ∧ x ≤ 6 ∧ L ≤ hoN (rmI τ s) x := ⟨_, rfl, m, rfl, by omega, hm6, by rw [hall]; omega⟩
      rw [hlE]
      refine jvk_ok TX9_byWeights (V := [(15, 4, 9, oX9_giveLeft)]) (S := []) (List.forall_mem_cons.mpr ⟨⟨mX9_giveLeft, n + 0, 3, TX9, 1, rfl, by omega, kX9_15, WX9_giveLeft, rfl, CX9_giveLeft g (n)⟩, (fun _ h => absurd h List.not_mem_nil)⟩) (fun _ h => absurd h List.not_mem_nil) [70, 143] 30 _ _ _ _ ?_
      simp (maxSteps := 1000000) [↓Bool.cond_eq_ite, -Prod.forall, -Prod.exists, -Prod.mk.injEq, jvk, tX9_byWeights, jtb, jol, jst, jlk, jcmp, jbin, jfl, fX9, jc2, lX9, jcat, jel, lv_args, Value.category, jins, jsrt, jins2, jble, jblt, jf3, List.filter_cons, List.filter_nil, G_prop, G_settle, oX9_giveLeft, joRIIR, -Int32.not_le, -Int32.not_lt, -Int64.not_le, -Int64.not_lt, i3lt, i6lt, hle, f1, hs', hpp', hpre]
      try simp (disch := omega) [-Prod.forall, -Prod.exists, -Prod.mk.injEq, -Int32.not_le, -Int32.not_lt, -Int64.not_le, -Int64.not_lt, i3lt, i6lt, hle, f1, hs', hpp', hpre]
      intro v1 τ1 hv1 f1' h1
      subst hv1
      refine jvk_ok TX9_byWeights (V := [(15, 4, 9, oX9_giveLeft)]) (S := []) (List.forall_mem_cons.mpr ⟨⟨mX9_giveLeft, n + 0, 3, TX9, 1, rfl, by omega, kX9_15, WX9_giveLeft, rfl, CX9_giveLeft g (n)⟩, (fun _ h => absurd h List.not_mem_nil)⟩) (fun _ h => absurd h List.not_mem_nil) [] 10 _ _ _ _ ?_
      simp (maxSteps := 1000000) [↓Bool.cond_eq_ite, -Prod.forall, -Prod.exists, -Prod.mk.injEq, jvk, tX9_byWeights, jtb, jol, jst, jlk, jcmp, jbin, jfl, fX9, jc2, lX9, jcat, jel, lv_args, Value.category, jins, jsrt, jins2, jble, jblt, jf3, List.filter_cons, List.filter_nil, G_prop, G_settle, oX9_giveLeft, joRIIR, -Int32.not_le, -Int32.not_lt, -Int64.not_le, -Int64.not_lt, i3lt, i6lt]
      try simp (disch := omega) [-Prod.forall, -Prod.exists, -Prod.mk.injEq, -Int32.not_le, -Int32.not_lt, -Int64.not_le, -Int64.not_lt, i3lt, i6lt]
      refine hp _ _ ⟨rfl, f.tr f1', fun i hi => ?_⟩
      rw [h1 i (by omega), ecm, if_pos hi, nI_clamp (by omega)]
      exact hoS_congr _ _ _ _ _ (fun j hj => ⟨er j hj, (h j hj).1⟩) i hi) (fun k hk ih τ f h => by
      have hlt : ¬ nI m ≤ nI k := nI_ge hk (by omega)
      have jk : jin (nI k) 6 ∧ (nI k).toNatClampNeg = k := ⟨jin_nI (by omega) (by decide), nI_clamp (by omega)⟩
      have eq : τ.1 q k = nI (wtN σ q k) := by
        rw [f.2.2 q k (by unfold gvA; simp [hqp])]
        exact (hwn k hk).1
      have hWb : spW (wtN σ q) m k < 2147483648 := by
        have := (hwn k hk).2
        unfold spW
        split <;> omega
      have hprod : A * spW (wtN σ q) m k ≤ 99999 * 2147483648 := Nat.mul_le_mul hA (by omega)
      have eWl : (nI (spW (wtN σ q) m k)).toInt64 = lN (spW (wtN σ q) m k) := nI_l (by omega)
      have eW : lN A * lN (spW (wtN σ q) m k) = lN (A * spW (wtN σ q) m k) := lN_mul _ _
      have eD : lN (A * spW (wtN σ q) m k) / lN (spA (wtN σ q) m) = lN (spP A (wtN σ q) m k) := pk_lDiv (by omega) s1 (by omega)
      have eR : lN (A * spW (wtN σ q) m k) - lN (spP A (wtN σ q) m k) * lN (spA (wtN σ q) m) = lN (spR A (wtN σ q) m k) := by
        rw [← eD]
        exact pk_lRem (by omega) s1 (by omega)
      have hps : smN (spP A (wtN σ q) m) (k + 1) ≤ A := Nat.le_trans (smN_part (by omega)) s2
      simp only [smN] at hps
      have eS : nI (A - smN (spP A (wtN σ q) m) k) - nI (spP A (wtN σ q) m k) = nI (A - (smN (spP A (wtN σ q) m) k + spP A (wtN σ q) m k)) := by
        rw [pk_sub (by omega), Nat.sub_sub]
      simp only [smN] at ih
      have k1 := ih (jupL (jup τ p k (nI (spP A (wtN σ q) m k))) (s + 1) k (lN (spR A (wtN σ q) m k))) ((f.up _ (gvA_i p (by omega))).upL _ (gvB_i s)) (fun i hi => by
        rw [jupL_1, jupL_2, jup_1]
        by_cases e : i = k
        · subst e
          exact ⟨if_pos ⟨rfl, rfl⟩, if_pos ⟨rfl, rfl⟩⟩
        · rw [if_neg (fun z => e z.2), if_neg (fun z => e z.2)]
          exact h i (by omega))
      have e9 : (jupL (jup τ p k (nI (spP A (wtN σ q) m k))) (s + 1) k (lN (spR A (wtN σ q) m k))).1 p k = nI (spP A (wtN σ q) m k) := by rw [jupL_1, jup_s]
      by_cases hz : smN (wtN σ q) m = 0
      · rw [if_pos hz] at he
        subst he
        have e1W : spW (wtN σ q) m k = 1 := by unfold spW; rw [if_pos hz]
        have e1 : (1 : Int32) = nI (spW (wtN σ q) m k) := by rw [e1W]; rfl
        have c1 : ¬ nI 1 = 0 := by decide
        refine jvk_ok TX9_byWeights (V := [(15, 4, 9, oX9_giveLeft)]) (S := []) (List.forall_mem_cons.mpr ⟨⟨mX9_giveLeft, n + 0, 3, TX9, 1, rfl, by omega, kX9_15, WX9_giveLeft, rfl, CX9_giveLeft g (n)⟩, (fun _ h => absurd h List.not_mem_nil)⟩) (fun _ h => absurd h List.not_mem_nil) [91] 20 _ _ _ _ ?_
        simp (maxSteps := 1000000) [↓Bool.cond_eq_ite, -Prod.forall, -Prod.exists, -Prod.mk.injEq, jvk, tX9_byWeights, jtb, jol, jst, jlk, jcmp, jbin, jfl, fX9, jc2, lX9, jcat, jel, lv_args, Value.category, jins, jsrt, jins2, jble, jblt, jf3, List.filter_cons, List.filter_nil, G_prop, G_settle, oX9_giveLeft, joRIIR, -Int32.not_le, -Int32.not_lt, -Int64.not_le, -Int64.not_lt, i3lt, i6lt, hlt, ecA2, c1]
        try simp (disch := omega) [-Prod.forall, -Prod.exists, -Prod.mk.injEq, -Int32.not_le, -Int32.not_lt, -Int64.not_le, -Int64.not_lt, i3lt, i6lt, hlt, ecA2, c1]
        rw [e1]
        refine jvk_ok TX9_byWeights (V := [(15, 4, 9, oX9_giveLeft)]) (S := []) (List.forall_mem_cons.mpr ⟨⟨mX9_giveLeft, n + 0, 3, TX9, 1, rfl, by omega, kX9_15, WX9_giveLeft, rfl, CX9_giveLeft g (n)⟩, (fun _ h => absurd h List.not_mem_nil)⟩) (fun _ h => absurd h List.not_mem_nil) [70, 143] 60 _ _ _ _ ?_
        simp (maxSteps := 1000000) [↓Bool.cond_eq_ite, -Prod.forall, -Prod.exists, -Prod.mk.injEq, jvk, tX9_byWeights, jtb, jol, jst, jlk, jcmp, jbin, jfl, fX9, jc2, lX9, jcat, jel, lv_args, Value.category, jins, jsrt, jins2, jble, jblt, jf3, List.filter_cons, List.filter_nil, G_prop, G_settle, oX9_giveLeft, joRIIR, -Int32.not_le, -Int32.not_lt, -Int64.not_le, -Int64.not_lt, i3lt, i6lt, eWl, eW, f1, f2, f3, f4, f5, g1, g2, jk, enz, eD, eR, lN_i, e9, eS, nI_1]
        try simp (disch := omega) [-Prod.forall, -Prod.exists, -Prod.mk.injEq, -Int32.not_le, -Int32.not_lt, -Int64.not_le, -Int64.not_lt, i3lt, i6lt, eWl, eW, f1, f2, f3, f4, f5, g1, g2, jk, enz, eD, eR, lN_i, e9, eS, nI_1]
        exact jW.mono k1 (by simp)
      · rw [if_neg hz] at he
        subst he
        have e1W : spW (wtN σ q) m k = wtN σ q k := by unfold spW; rw [if_neg hz]
        have eq' : τ.1 q k = nI (spW (wtN σ q) m k) := by rw [eq, e1W]
        have c1 : nI 0 = 0 := nI_0
        rw [c1] at k1
        refine jvk_ok TX9_byWeights (V := [(15, 4, 9, oX9_giveLeft)]) (S := []) (List.forall_mem_cons.mpr ⟨⟨mX9_giveLeft, n + 0, 3, TX9, 1, rfl, by omega, kX9_15, WX9_giveLeft, rfl, CX9_giveLeft g (n)⟩, (fun _ h => absurd h List.not_mem_nil)⟩) (fun _ h => absurd h List.not_mem_nil) [91] 20 _ _ _ _ ?_
        simp (maxSteps := 1000000) [↓Bool.cond_eq_ite, -Prod.forall, -Prod.exists, -Prod.mk.injEq, jvk, tX9_byWeights, jtb, jol, jst, jlk, jcmp, jbin, jfl, fX9, jc2, lX9, jcat, jel, lv_args, Value.category, jins, jsrt, jins2, jble, jblt, jf3, List.filter_cons, List.filter_nil, G_prop, G_settle, oX9_giveLeft, joRIIR, -Int32.not_le, -Int32.not_lt, -Int64.not_le, -Int64.not_lt, i3lt, i6lt, hlt, ecA2, c1, g3, g4, jk, eq']
        try simp (disch := omega) [-Prod.forall, -Prod.exists, -Prod.mk.injEq, -Int32.not_le, -Int32.not_lt, -Int64.not_le, -Int64.not_lt, i3lt, i6lt, hlt, ecA2, c1, g3, g4, jk, eq']
        refine jvk_ok TX9_byWeights (V := [(15, 4, 9, oX9_giveLeft)]) (S := []) (List.forall_mem_cons.mpr ⟨⟨mX9_giveLeft, n + 0, 3, TX9, 1, rfl, by omega, kX9_15, WX9_giveLeft, rfl, CX9_giveLeft g (n)⟩, (fun _ h => absurd h List.not_mem_nil)⟩) (fun _ h => absurd h List.not_mem_nil) [70, 143] 60 _ _ _ _ ?_
        simp (maxSteps := 1000000) [↓Bool.cond_eq_ite, -Prod.forall, -Prod.exists, -Prod.mk.injEq, jvk, tX9_byWeights, jtb, jol, jst, jlk, jcmp, jbin, jfl, fX9, jc2, lX9, jcat, jel, lv_args, Value.category, jins, jsrt, jins2, jble, jblt, jf3, List.filter_cons, List.filter_nil, G_prop, G_settle, oX9_giveLeft, joRIIR, -Int32.not_le, -Int32.not_lt, -Int64.not_le, -Int64.not_lt, i3lt, i6lt, eWl, eW, f1, f2, f3, f4, f5, g1, g2, jk, enz, eD, eR, lN_i, e9, eS, nI_1]
        try simp (disch := omega) [-Prod.forall, -Prod.exists, -Prod.mk.injEq, -Int32.not_le, -Int32.not_lt, -Int64.not_le, -Int64.not_lt, i3lt, i6lt, eWl, eW, f1, f2, f3, f4, f5, g1, g2, jk, enz, eD, eR, lN_i, e9, eS, nI_1]
        exact jW.mono k1 (by simp))
    have k0 := key σ jfr.rfl (fun i hi => by omega)
    have z0 : A - smN (spP A (wtN σ q) m) 0 = A := rfl
    rw [z0, nI_0] at k0
    exact k0
  have key := jloop (P := fun k => jW g mX9_byWeights (n + 1) post 6 [(0, .ref s), (1, .int (nI A)), (2, .ref q), (3, .int (nI m)), (4, .ref p), (5, .long (lN (smN (wtN σ q) k))), (7, .int (nI k))] [] σ) (N := m) (by
    have hle : nI m ≤ nI m := nI_le (Nat.le_refl _) (by omega)
    by_cases hm : m = 0
    · subst hm
      have z0 : lN (smN (wtN σ q) 0) = 0 := rfl
      have z1 : lN 0 = 0 := rfl
      have z2 : (0 : Int64) ≤ 0 := by decide
      have z3 : nI 0 = 0 := nI_0
      refine jvk_ok TX9_byWeights (V := [(15, 4, 9, oX9_giveLeft)]) (S := []) (List.forall_mem_cons.mpr ⟨⟨mX9_giveLeft, n + 0, 3, TX9, 1, rfl, by omega, kX9_15, WX9_giveLeft, rfl, CX9_giveLeft g (n)⟩, (fun _ h => absurd h List.not_mem_nil)⟩) (fun _ h => absurd h List.not_mem_nil) [6, 70] 60 _ _ _ _ ?_
      simp (maxSteps := 1000000) [↓Bool.cond_eq_ite, -Prod.forall, -Prod.exists, -Prod.mk.injEq, jvk, tX9_byWeights, jtb, jol, jst, jlk, jcmp, jbin, jfl, fX9, jc2, lX9, jcat, jel, lv_args, Value.category, jins, jsrt, jins2, jble, jblt, jf3, List.filter_cons, List.filter_nil, G_prop, G_settle, oX9_giveLeft, joRIIR, -Int32.not_le, -Int32.not_lt, -Int64.not_le, -Int64.not_lt, i3lt, i6lt, hle, z0, z1, z2, z3, ecm2, lg_cmp_eq, lg_cmp_le]
      try simp (disch := omega) [-Prod.forall, -Prod.exists, -Prod.mk.injEq, -Int32.not_le, -Int32.not_lt, -Int64.not_le, -Int64.not_lt, i3lt, i6lt, hle, z0, z1, z2, z3, ecm2, lg_cmp_eq, lg_cmp_le]
      exact hp _ _ ⟨rfl, jfr.rfl, fun i hi => by omega⟩
    · by_cases hz : smN (wtN σ q) m = 0
      · have e0 : lN (smN (wtN σ q) m) = 0 := by rw [hz]; rfl
        have eA : spA (wtN σ q) m = m := by unfold spA; rw [if_pos hz]
        have l0 : ¬ lN m ≤ 0 := fun z => by
          have := (pk_lLE (b := 0) (by omega) (by omega)).mp z
          omega
        have k1 := l2 1 (by omega) (by rw [if_pos hz])
        rw [eA] at k1
        have z1 : nI 1 = 1 := rfl
        rw [z1] at k1
        refine jvk_ok TX9_byWeights (V := [(15, 4, 9, oX9_giveLeft)]) (S := []) (List.forall_mem_cons.mpr ⟨⟨mX9_giveLeft, n + 0, 3, TX9, 1, rfl, by omega, kX9_15, WX9_giveLeft, rfl, CX9_giveLeft g (n)⟩, (fun _ h => absurd h List.not_mem_nil)⟩) (fun _ h => absurd h List.not_mem_nil) [6, 70] 60 _ _ _ _ ?_
        simp (maxSteps := 1000000) [↓Bool.cond_eq_ite, -Prod.forall, -Prod.exists, -Prod.mk.injEq, jvk, tX9_byWeights, jtb, jol, jst, jlk, jcmp, jbin, jfl, fX9, jc2, lX9, jcat, jel, lv_args, Value.category, jins, jsrt, jins2, jble, jblt, jf3, List.filter_cons, List.filter_nil, G_prop, G_settle, oX9_giveLeft, joRIIR, -Int32.not_le, -Int32.not_lt, -Int64.not_le, -Int64.not_lt, i3lt, i6lt, hle, e0, ecm2, l0, lg_cmp_eq, lg_cmp_le]
        try simp (disch := omega) [-Prod.forall, -Prod.exists, -Prod.mk.injEq, -Int32.not_le, -Int32.not_lt, -Int64.not_le, -Int64.not_lt, i3lt, i6lt, hle, e0, ecm2, l0, lg_cmp_eq, lg_cmp_le]
        exact jW.mono k1 (by simp)
      · have e0 : ¬ lN (smN (wtN σ q) m) = 0 := fun z => by
          have := (pk_lEQ (b := 0) (by omega) (by omega)).mp z
          omega
        have eA : spA (wtN σ q) m = smN (wtN σ q) m := by unfold spA; rw [if_neg hz]
        have l0 : ¬ lN (smN (wtN σ q) m) ≤ 0 := fun z => by
          have := (pk_lLE (b := 0) (by omega) (by omega)).mp z
          omega
        have k1 := l2 0 (by omega) (by rw [if_neg hz])
        rw [eA, nI_0] at k1
        refine jvk_ok TX9_byWeights (V := [(15, 4, 9, oX9_giveLeft)]) (S := []) (List.forall_mem_cons.mpr ⟨⟨mX9_giveLeft, n + 0, 3, TX9, 1, rfl, by omega, kX9_15, WX9_giveLeft, rfl, CX9_giveLeft g (n)⟩, (fun _ h => absurd h List.not_mem_nil)⟩) (fun _ h => absurd h List.not_mem_nil) [6, 70] 60 _ _ _ _ ?_
        simp (maxSteps := 1000000) [↓Bool.cond_eq_ite, -Prod.forall, -Prod.exists, -Prod.mk.injEq, jvk, tX9_byWeights, jtb, jol, jst, jlk, jcmp, jbin, jfl, fX9, jc2, lX9, jcat, jel, lv_args, Value.category, jins, jsrt, jins2, jble, jblt, jf3, List.filter_cons, List.filter_nil, G_prop, G_settle, oX9_giveLeft, joRIIR, -Int32.not_le, -Int32.not_lt, -Int64.not_le, -Int64.not_lt, i3lt, i6lt, hle, e0, l0, lg_cmp_eq, lg_cmp_le]
        try simp (disch := omega) [-Prod.forall, -Prod.exists, -Prod.mk.injEq, -Int32.not_le, -Int32.not_lt, -Int64.not_le, -Int64.not_lt, i3lt, i6lt, hle, e0, l0, lg_cmp_eq, lg_cmp_le]
        exact jW.mono k1 (by simp)) (fun k hk ih => by
    have hlt : ¬ nI m ≤ nI k := nI_ge hk (by omega)
    have jk : jin (nI k) 6 ∧ (nI k).toNatClampNeg = k := ⟨jin_nI (by omega) (by decide), nI_clamp (by omega)⟩
    have eq := (hwn k hk).1
    have el : (nI (wtN σ q k)).toInt64 = lN (wtN σ q k) := nI_l (by have := (hwn k hk).2; omega)
    simp only [smN] at ih
    refine jvk_ok TX9_byWeights (V := [(15, 4, 9, oX9_giveLeft)]) (S := []) (List.forall_mem_cons.mpr ⟨⟨mX9_giveLeft, n + 0, 3, TX9, 1, rfl, by omega, kX9_15, WX9_giveLeft, rfl, CX9_giveLeft g (n)⟩, (fun _ h => absurd h List.not_mem_nil)⟩) (fun _ h => absurd h List.not_mem_nil) [6, 70] 60 _ _ _ _ ?_
    simp (maxSteps := 1000000) [↓Bool.cond_eq_ite, -Prod.forall, -Prod.exists, -Prod.mk.injEq, jvk, tX9_byWeights, jtb, jol, jst, jlk, jcmp, jbin, jfl, fX9, jc2, lX9, jcat, jel, lv_args, Value.category, jins, jsrt, jins2, jble, jblt, jf3, List.filter_cons, List.filter_nil, G_prop, G_settle, oX9_giveLeft, joRIIR, -Int32.not_le, -Int32.not_lt, -Int64.not_le, -Int64.not_lt, i3lt, i6lt, hlt, g3, g4, jk, eq, el, lN_add, nI_1]
    try simp (disch := omega) [-Prod.forall, -Prod.exists, -Prod.mk.injEq, -Int32.not_le, -Int32.not_lt, -Int64.not_le, -Int64.not_lt, i3lt, i6lt, hlt, g3, g4, jk, eq, el, lN_add, nI_1]
    exact ih)
  have z0 : lN (smN (wtN σ q) 0) = 0 := rfl
  rw [z0, nI_0] at key
  exact key
