/-! weighted walks; where no cycle gains, the longest walks are short -/
def wk (E : Nat → Nat → Prop) : Nat → List Nat → Prop
  | _, [] => True
  | x, y :: t => E x y ∧ wk E y t
def ws (w : Nat → Nat → Int) : Nat → List Nat → Int
  | _, [] => 0
  | x, y :: t => w x y + ws w y t
def we : Nat → List Nat → Nat
  | x, [] => x
  | _, y :: t => we y t
theorem wk_app (E : Nat → Nat → Prop) : ∀ (x : Nat) (a b : List Nat), wk E x (a ++ b) ↔ wk E x a ∧ wk E (we x a) b
  | x, [], b => by simp [wk, we]
  | x, y :: a, b => by
    simp only [List.cons_append, wk, we, wk_app E y a b, and_assoc]
theorem ws_app (w : Nat → Nat → Int) : ∀ (x : Nat) (a b : List Nat), ws w x (a ++ b) = ws w x a + ws w (we x a) b
  | x, [], b => by simp [ws, we]
  | x, y :: a, b => by
    simp only [List.cons_append, ws, we, ws_app w y a b]
    omega
theorem we_app : ∀ (x : Nat) (a b : List Nat), we x (a ++ b) = we (we x a) b
  | _, [], _ => rfl
  | _, y :: a, b => we_app y a b
theorem nd_split : ∀ l : List Nat, ¬ l.Nodup → ∃ a b c y, l = a ++ y :: (b ++ y :: c)
  | [], h => absurd List.nodup_nil h
  | z :: t, h => by
    by_cases hz : z ∈ t
    · obtain ⟨b, c, e⟩ := List.append_of_mem hz
      exact ⟨[], b, c, z, by rw [e]; rfl⟩
    · have h2 : ¬ t.Nodup := fun q => h (List.nodup_cons.mpr ⟨hz, q⟩)
      obtain ⟨a, b, c, y, e⟩ := nd_split t h2
      exact ⟨z :: a, b, c, y, by rw [e]; rfl⟩
theorem nd_len : ∀ (m : Nat) (l : List Nat), l.Nodup → (∀ x ∈ l, x < m) → l.length ≤ m
  | 0, l, _, h => by
    rcases l with _ | ⟨x, t⟩
    · exact Nat.le_refl _
    · have := h x List.mem_cons_self
      omega
  | m + 1, l, hn, h => by
    by_cases hm : m ∈ l
    · have h1 := nd_len m (l.erase m) (hn.erase m) (fun x hx => by
        have := (hn.mem_erase_iff).mp hx
        have := h x this.2
        omega)
      have h2 := List.length_erase_of_mem hm
      omega
    · have := nd_len m l hn (fun x hx => by
        have := h x hx
        have : x ≠ m := fun q => hm (q ▸ hx)
        omega)
      omega
section WALK
variable {E : Nat → Nat → Prop} {w : Nat → Nat → Int}
theorem w_cut {x : Nat} {a b c : List Nat} {y : Nat} (h : wk E x (a ++ y :: (b ++ y :: c))) : wk E y (b ++ [y]) ∧ we y (b ++ [y]) = y ∧ wk E x (a ++ y :: c) ∧ we x (a ++ y :: c) = we x (a ++ y :: (b ++ y :: c)) ∧ ws w x (a ++ y :: (b ++ y :: c)) = ws w x (a ++ y :: c) + ws w y (b ++ [y]) := by
  rw [wk_app] at h
  simp only [wk] at h
  rw [wk_app] at h
  simp only [wk] at h
  simp only [wk_app, we_app, ws_app, wk, we, ws]
  refine ⟨⟨h.2.2.1, h.2.2.2.1, trivial⟩, trivial, ⟨h.1, h.2.1, h.2.2.2.2⟩, trivial, ?_⟩
  omega
theorem cl_all (hC : ∀ x l, l.Nodup → wk E x l → we x l = x → ws w x l ≤ 0) : ∀ (n x : Nat) (l : List Nat), l.length ≤ n → wk E x l → we x l = x → ws w x l ≤ 0
  | 0, x, l, hl, _, _ => by
    rcases l with _ | ⟨y, t⟩
    · exact Int.le_refl _
    · simp at hl
  | n + 1, x, l, hl, hw, he => by
    by_cases hn : l.Nodup
    · exact hC x l hn hw he
    · obtain ⟨a, b, c, y, e⟩ := nd_split l hn
      subst e
      obtain ⟨h1, h2, h3, h4, h5⟩ := w_cut (w := w) hw
      simp only [List.length_append, List.length_cons] at hl
      have i1 := cl_all hC n y (b ++ [y]) (by simp; omega) h1 h2
      have i2 := cl_all hC n x (a ++ y :: c) (by simp; omega) h3 (h4.trans he)
      omega
theorem w_dom (hC : ∀ x l, wk E x l → we x l = x → ws w x l ≤ 0) : ∀ (n x : Nat) (l : List Nat), l.length ≤ n → wk E x l → ∃ l', wk E x l' ∧ we x l' = we x l ∧ ws w x l ≤ ws w x l' ∧ (x :: l').Nodup
  | 0, x, l, hl, _ => by
    rcases l with _ | ⟨y, t⟩
    · exact ⟨[], trivial, rfl, Int.le_refl _, by simp⟩
    · simp at hl
  | n + 1, x, l, hl, hw => by
    by_cases hx : x ∈ l
    · obtain ⟨b, c, e⟩ := List.append_of_mem hx
      have e2 : l = (b ++ [x]) ++ c := by rw [e]; simp
      rw [e2] at hl hw ⊢
      rw [wk_app] at hw
      have e3 : we x (b ++ [x]) = x := by rw [we_app]; rfl
      rw [we_app, ws_app, e3]
      rw [e3] at hw
      have h0 := hC x (b ++ [x]) hw.1 e3
      obtain ⟨l', i1, i2, i3, i4⟩ := w_dom hC n x c (by simp only [List.length_append, List.length_cons, List.length_nil] at hl; omega) hw.2
      exact ⟨l', i1, i2, by omega, i4⟩
    · by_cases hn : l.Nodup
      · exact ⟨l, hw, rfl, Int.le_refl _, List.nodup_cons.mpr ⟨hx, hn⟩⟩
      · obtain ⟨a, b, c, y, e⟩ := nd_split l hn
        subst e
        obtain ⟨h1, h2, h3, h4, h5⟩ := w_cut (w := w) hw
        have h0 := hC y _ h1 h2
        obtain ⟨l', i1, i2, i3, i4⟩ := w_dom hC n x (a ++ y :: c) (by simp only [List.length_append, List.length_cons] at hl ⊢; omega) h3
        exact ⟨l', i1, i2.trans h4, by omega, i4⟩
/-- the same walk backwards -/
def wr : Nat → List Nat → List Nat
  | _, [] => []
  | x, y :: t => wr y t ++ [x]
theorem wr_ok : ∀ (x : Nat) (l : List Nat), we (we x l) (wr x l) = x ∧ (wk (fun p q => E q p) (we x l) (wr x l) ↔ wk E x l) ∧ ws (fun p q => w q p) (we x l) (wr x l) = ws w x l
  | x, [] => ⟨rfl, Iff.rfl, rfl⟩
  | x, y :: t => by
    obtain ⟨h1, h2, h3⟩ := wr_ok y t
    simp only [wr, we, wk, ws, we_app, wk_app, ws_app, h1, h2, h3]
    refine ⟨trivial, ⟨fun q => ⟨q.2.1, q.1⟩, fun q => ⟨q.2, q.1, trivial⟩⟩, by omega⟩
theorem cl_rev (hC : ∀ x l, wk E x l → we x l = x → ws w x l ≤ 0) (x : Nat) (l : List Nat) (h : wk (fun p q => E q p) x l) (he : we x l = x) : ws (fun p q => w q p) x l ≤ 0 := by
  obtain ⟨h1, h2, h3⟩ := wr_ok (E := fun p q => E q p) (w := fun p q => w q p) x l
  rw [he] at h1 h2 h3
  rw [← h3]
  exact hC x _ (h2.mpr h) h1
end WALK
/-! the longest walks of at most k steps that end at q -/
def mx (f : Nat → Int) (e : Nat → Bool) (z : Int) : Nat → Int
  | 0 => z
  | k + 1 => if e k = true ∧ mx f e z k < f k then f k else mx f e z k
theorem mx_ge (f : Nat → Int) (e : Nat → Bool) (z : Int) : ∀ k, z ≤ mx f e z k ∧ ∀ p, p < k → e p = true → f p ≤ mx f e z k
  | 0 => ⟨Int.le_refl _, fun p h => by omega⟩
  | k + 1 => by
    obtain ⟨h1, h2⟩ := mx_ge f e z k
    simp only [mx]
    by_cases h : e k = true ∧ mx f e z k < f k
    · rw [if_pos h]
      refine ⟨by omega, fun p hp he => ?_⟩
      by_cases e1 : p = k
      · subst e1; exact Int.le_refl _
      · have := h2 p (by omega) he
        omega
    · rw [if_neg h]
      refine ⟨h1, fun p hp he => ?_⟩
      by_cases e1 : p = k
      · subst e1
        have : ¬ mx f e z p < f p := fun q => h ⟨he, q⟩
        omega
      · exact h2 p (by omega) he
theorem mx_is (f : Nat → Int) (e : Nat → Bool) (z : Int) : ∀ k, mx f e z k = z ∨ ∃ p, p < k ∧ e p = true ∧ mx f e z k = f p
  | 0 => Or.inl rfl
  | k + 1 => by
    simp only [mx]
    by_cases h : e k = true ∧ mx f e z k < f k
    · rw [if_pos h]
      exact Or.inr ⟨k, by omega, h.1, rfl⟩
    · rw [if_neg h]
      rcases mx_is f e z k with h1 | ⟨p, h1, h2, h3⟩
      · exact Or.inl h1
      · exact Or.inr ⟨p, by omega, h2, h3⟩
def wF (m : Nat) (e : Nat → Nat → Bool) (w : Nat → Nat → Int) : Nat → Nat → Int
  | 0, _ => 0
  | k + 1, q => mx (fun p => wF m e w k p + w p q) (fun p => e p q) (wF m e w k q) m
def eE (m : Nat) (e : Nat → Nat → Bool) (p q : Nat) : Prop := p < m ∧ q < m ∧ e p q = true
/-- nobody below m is passed by -/
def sol (m : Nat) (e : Nat → Nat → Bool) (w : Nat → Nat → Int) (x : Nat → Int) : Prop := (∀ q, q < m → 0 ≤ x q) ∧ ∀ p q, p < m → q < m → e p q = true → x p + w p q ≤ x q
theorem wF_le {m : Nat} {e : Nat → Nat → Bool} {w : Nat → Nat → Int} {x : Nat → Int} (h : sol m e w x) : ∀ k q, q < m → wF m e w k q ≤ x q
  | 0, q, hq => h.1 q hq
  | k + 1, q, hq => by
    simp only [wF]
    rcases mx_is (fun p => wF m e w k p + w p q) (fun p => e p q) (wF m e w k q) m with h1 | ⟨p, h1, h2, h3⟩
    · rw [h1]; exact wF_le h k q hq
    · rw [h3]
      have := wF_le h k p h1
      have := h.2 p q h1 hq h2
      try dsimp only
      omega
theorem wF_mono (m : Nat) (e : Nat → Nat → Bool) (w : Nat → Nat → Int) (k q : Nat) : wF m e w k q ≤ wF m e w (k + 1) q := (mx_ge _ _ _ m).1
theorem wF_nn (m : Nat) (e : Nat → Nat → Bool) (w : Nat → Nat → Int) : ∀ k q, 0 ≤ wF m e w k q
  | 0, _ => Int.le_refl _
  | k + 1, q => Int.le_trans (wF_nn m e w k q) (wF_mono m e w k q)
theorem wF_step {m : Nat} {e : Nat → Nat → Bool} {w : Nat → Nat → Int} {k p q : Nat} (hp : p < m) (he : e p q = true) : wF m e w k p + w p q ≤ wF m e w (k + 1) q := (mx_ge (fun p => wF m e w k p + w p q) (fun p => e p q) (wF m e w k q) m).2 p hp he
theorem wF_ge {m : Nat} {e : Nat → Nat → Bool} {w : Nat → Nat → Int} : ∀ (k x : Nat) (l : List Nat), x < m → wk (eE m e) x l → l.length ≤ k → ws w x l ≤ wF m e w k (we x l)
  | 0, x, l, _, _, hl => by
    rcases l with _ | ⟨y, t⟩
    · exact Int.le_refl _
    · simp at hl
  | k + 1, x, l, hx, hw, hl => by
    rcases List.eq_nil_or_concat l with e1 | ⟨a, y, e1⟩
    · subst e1
      exact wF_nn m e w (k + 1) x
    · rw [List.concat_eq_append] at e1
      subst e1
      rw [wk_app] at hw
      simp only [wk] at hw
      have i := wF_ge (w := w) k x a hx hw.1 (by simp at hl; omega)
      have := wF_step (w := w) (k := k) hw.2.1.1 hw.2.1.2.2
      simp only [we_app, ws_app, we, ws]
      omega
theorem wF_is {m : Nat} {e : Nat → Nat → Bool} {w : Nat → Nat → Int} : ∀ (k q : Nat), q < m → ∃ x l, x < m ∧ wk (eE m e) x l ∧ we x l = q ∧ ws w x l = wF m e w k q
  | 0, q, hq => ⟨q, [], hq, trivial, rfl, rfl⟩
  | k + 1, q, hq => by
    simp only [wF]
    rcases mx_is (fun p => wF m e w k p + w p q) (fun p => e p q) (wF m e w k q) m with h1 | ⟨p, h1, h2, h3⟩
    · rw [h1]; exact wF_is k q hq
    · rw [h3]
      obtain ⟨x, l, i1, i2, i3, i4⟩ := wF_is (e := e) (w := w) k p h1
      refine ⟨x, l ++ [q], i1, ?_, by rw [we_app]; rfl, by rw [ws_app, i3, i4]; simp [ws]⟩
      rw [wk_app, i3]
      exact ⟨i2, ⟨h1, hq, h2⟩, trivial⟩
theorem wk_mem {m : Nat} {e : Nat → Nat → Bool} : ∀ (x : Nat) (l : List Nat), wk (eE m e) x l → ∀ y ∈ l, y < m
  | _, [], _, y, hy => absurd hy List.not_mem_nil
  | _, z :: t, h, y, hy => by
    rcases List.mem_cons.mp hy with rfl | hy
    · exact h.1.2.1
    · exact wk_mem z t h.2 y hy
theorem wF_sol {m : Nat} {e : Nat → Nat → Bool} {w : Nat → Nat → Int} (hm : m ≤ 6) (hC : ∀ x l, wk (eE m e) x l → we x l = x → ws w x l ≤ 0) : sol m e w (wF m e w 5) := by
  refine ⟨fun q _ => wF_nn m e w 5 q, fun p q hp hq he => ?_⟩
  obtain ⟨x, l, i1, i2, i3, i4⟩ := wF_is (e := e) (w := w) 5 p hp
  have hw : wk (eE m e) x (l ++ [q]) := by
    rw [wk_app, i3]
    exact ⟨i2, ⟨hp, hq, he⟩, trivial⟩
  obtain ⟨l', j1, j2, j3, j4⟩ := w_dom hC _ x (l ++ [q]) (Nat.le_refl _) hw
  have h1 := nd_len m (x :: l') j4 (fun y hy => by
    rcases List.mem_cons.mp hy with rfl | hy
    · exact i1
    · exact wk_mem x l' j1 y hy)
  simp only [List.length_cons] at h1
  have h2 := wF_ge (w := w) 5 x l' i1 j1 (by omega)
  rw [j2, we_app] at h2
  simp only [we] at h2
  rw [ws_app, i3, i4] at j3
  simp only [ws] at j3
  omega
/-! rooms given on along a cycle -/
def sI (f : Nat → Int) : Nat → Int
  | 0 => 0
  | n + 1 => sI f n + f n
theorem sI_congr {f h : Nat → Int} : ∀ (n : Nat), (∀ j, j < n → f j = h j) → sI f n = sI h n
  | 0, _ => rfl
  | n + 1, q => by
    simp only [sI]
    rw [sI_congr n (fun j hj => q j (by omega)), q n (by omega)]
theorem sI_upd {f h : Nat → Int} {x : Nat} : ∀ (n : Nat), x < n → (∀ j, j < n → j ≠ x → f j = h j) → sI f n = sI h n + f x - h x
  | 0, hx, _ => by omega
  | n + 1, hx, q => by
    simp only [sI]
    by_cases e : x = n
    · subst e
      rw [sI_congr (f := f) (h := h) x (fun j hj => q j (by omega) (by omega))]
      omega
    · rw [sI_upd n (by omega) (fun j hj hx => q j (by omega) hx), q n (by omega) (by omega)]
      omega
def swp (b : Nat → Nat) (x y : Nat) : Nat → Nat := fun j => if j = x then b y else if j = y then b x else b j
def sS : Nat → List Nat → (Nat → Nat) → Nat → Nat
  | _, [], b => b
  | x, y :: t, b => sS y t (swp b x y)
def cS (F : Nat → Nat → Int) (b : Nat → Nat) : Nat → List Nat → Nat → Int
  | x, [], r => F x r - F x (b x)
  | x, y :: t, r => F x (b y) - F x (b x) + cS F b y t r
theorem sI_swp (F : Nat → Nat → Int) (b : Nat → Nat) {x y m : Nat} (hx : x < m) (hy : y < m) (hxy : x ≠ y) : sI (fun j => F j (swp b x y j)) m = sI (fun j => F j (b j)) m - F x (b x) - F y (b y) + F x (b y) + F y (b x) := by
  have h1 := sI_upd (f := fun j => F j (swp b x y j)) (h := fun j => F j (if j = y then b x else b j)) (x := x) m hx (fun j _ hj => by simp [swp, hj])
  have h2 := sI_upd (f := fun j => F j (if j = y then b x else b j)) (h := fun j => F j (b j)) (x := y) m hy (fun j _ hj => by simp [hj])
  have e1 : swp b x y x = b y := if_pos rfl
  have e2 : (if x = y then b x else b x) = b x := by rw [if_neg hxy]
  have e3 : (if y = y then b x else b y) = b x := if_pos rfl
  rw [e1, e2] at h1
  rw [e3] at h2
  omega
theorem cS_chg (F : Nat → Nat → Int) {b b' : Nat → Nat} : ∀ (y : Nat) (t : List Nat) (r : Nat), (∀ z ∈ t, b' z = b z) → cS F b' y t r = cS F b y t r + F y (b y) - F y (b' y)
  | y, [], r, _ => by simp only [cS]; omega
  | y, z :: s, r, h => by
    simp only [cS]
    have h1 := h z List.mem_cons_self
    rw [cS_chg F z s r (fun u hu => h u (List.mem_cons_of_mem _ hu)), h1]
    omega
theorem cS_sum (F : Nat → Nat → Int) (m : Nat) : ∀ (x : Nat) (l : List Nat) (b : Nat → Nat), (x :: l).Nodup → (∀ z ∈ x :: l, z < m) → sI (fun j => F j (sS x l b j)) m = sI (fun j => F j (b j)) m + cS F b x l (b x)
  | x, [], b, _, _ => by simp only [sS, cS]; omega
  | x, y :: t, b, hn, hm => by
    have hn1 := List.nodup_cons.mp hn
    have hn2 := List.nodup_cons.mp hn1.2
    have hxy : x ≠ y := fun q => hn1.1 (q ▸ List.mem_cons_self)
    have ih := cS_sum F m y t (swp b x y) hn1.2 (fun z hz => hm z (List.mem_cons_of_mem _ hz))
    have e1 : swp b x y y = b x := by simp [swp, hxy.symm]
    have h2 := sI_swp F b (hm x List.mem_cons_self) (hm y (List.mem_cons_of_mem _ List.mem_cons_self)) hxy
    have h3 := cS_chg F (b := b) (b' := swp b x y) y t (b x) (fun z hz => by
      have z1 : z ≠ x := fun q => hn1.1 (q ▸ List.mem_cons_of_mem _ hz)
      have z2 : z ≠ y := fun q => hn2.1 (q ▸ hz)
      simp [swp, z1, z2])
    rw [e1] at ih h3
    simp only [sS, cS]
    omega
def okc (Ok : Nat → Nat → Prop) (b : Nat → Nat) : Nat → List Nat → Nat → Prop
  | x, [], r => Ok x r
  | x, y :: t, r => Ok x (b y) ∧ okc Ok b y t r
theorem okc_congr {Ok : Nat → Nat → Prop} {b b' : Nat → Nat} : ∀ (y : Nat) (t : List Nat) (r : Nat), (∀ z ∈ t, b' z = b z) → okc Ok b y t r → okc Ok b' y t r
  | _, [], _, _, h => h
  | y, z :: s, r, hb, h => by
    simp only [okc] at h ⊢
    rw [hb z List.mem_cons_self]
    exact ⟨h.1, okc_congr z s r (fun u hu => hb u (List.mem_cons_of_mem _ hu)) h.2⟩
theorem sS_ok {Ok : Nat → Nat → Prop} (m : Nat) : ∀ (x : Nat) (l : List Nat) (b : Nat → Nat), (x :: l).Nodup → (∀ z ∈ x :: l, z < m) → (∀ i j, i < m → j < m → b i = b j → i = j) → (∀ j, j < m → j ≠ x → Ok j (b j)) → okc Ok b x l (b x) → (∀ i j, i < m → j < m → sS x l b i = sS x l b j → i = j) ∧ ∀ j, j < m → Ok j (sS x l b j)
  | x, [], b, _, _, hi, ho, hc => ⟨hi, fun j hj => by
      by_cases e : j = x
      · subst e; exact hc
      · exact ho j hj e⟩
  | x, y :: t, b, hn, hm, hi, ho, hc => by
    have hn1 := List.nodup_cons.mp hn
    have hn2 := List.nodup_cons.mp hn1.2
    have hxy : x ≠ y := fun q => hn1.1 (q ▸ List.mem_cons_self)
    have hx := hm x List.mem_cons_self
    have hy := hm y (List.mem_cons_of_mem _ List.mem_cons_self)
    have e1 : swp b x y y = b x := by simp [swp, hxy.symm]
    refine sS_ok m y t (swp b x y) hn1.2 (fun z hz => hm z (List.mem_cons_of_mem _ hz)) ?_ ?_ ?_
    · intro i j h1 h2 h3
      simp only [swp] at h3
      have c1 := hi i j h1 h2
      have c2 := hi i x h1 hx
      have c3 := hi i y h1 hy
      have c4 := hi x j hx h2
      have c5 := hi y j hy h2
      have c6 := hi x y hx hy
      grind
    · intro j hj hjy
      simp only [swp]
      by_cases e : j = x
      · subst e
        rw [if_pos rfl]
        exact hc.1
      · rw [if_neg e, if_neg hjy]
        exact ho j hj e
    · rw [e1]
      refine okc_congr y t (b x) (fun z hz => ?_) hc.2
      have z1 : z ≠ x := fun q => hn1.1 (q ▸ List.mem_cons_of_mem _ hz)
      have z2 : z ≠ y := fun q => hn2.1 (q ▸ hz)
      simp [swp, z1, z2]
/-- what the room of another is worth more -/
def gw (F : Nat → Nat → Int) (a : Nat → Nat) (p q : Nat) : Int := 120 * (F p (a q) - F p (a p))
theorem ws_cS (F : Nat → Nat → Int) (a : Nat → Nat) : ∀ (x : Nat) (l : List Nat) (z : Nat), ws (gw F a) x (l ++ [z]) = 120 * cS F a x l (a z)
  | x, [], z => by simp only [List.nil_append, ws, cS, gw]; omega
  | x, y :: t, z => by
    simp only [List.cons_append, ws, cS, ws_cS F a y t z, gw]
    omega
theorem wk_okc {E Ok : Nat → Nat → Prop} {a : Nat → Nat} (h : ∀ p q, E p q → Ok p (a q)) : ∀ (x : Nat) (l : List Nat) (z : Nat), wk E x (l ++ [z]) → okc Ok a x l (a z)
  | x, [], z, hw => h _ _ hw.1
  | x, y :: t, z, hw => ⟨h _ _ hw.1, wk_okc h y t z hw.2⟩
/-- where the choice is the best, no cycle gains -/
theorem best_cl {m : Nat} {e : Nat → Nat → Bool} {F : Nat → Nat → Int} {Ok : Nat → Nat → Prop} {a : Nat → Nat} (hi : ∀ i j, i < m → j < m → a i = a j → i = j) (ho : ∀ j, j < m → Ok j (a j)) (he : ∀ p q, p < m → q < m → e p q = true → Ok p (a q))
    (hb : ∀ b : Nat → Nat, (∀ i j, i < m → j < m → b i = b j → i = j) → (∀ j, j < m → Ok j (b j)) → sI (fun j => F j (b j)) m ≤ sI (fun j => F j (a j)) m) (x : Nat) (l : List Nat) (hw : wk (eE m e) x l) (hl : we x l = x) : ws (gw F a) x l ≤ 0 := by
  refine cl_all (fun x l hn hw hl => ?_) _ x l (Nat.le_refl _) hw hl
  rcases List.eq_nil_or_concat l with e1 | ⟨t, y, e1⟩
  · subst e1; exact Int.le_refl _
  · rw [List.concat_eq_append] at e1
    subst e1
    rw [we_app] at hl
    have hl : y = x := hl
    subst hl
    have hnd : (y :: t).Nodup := by
      have := List.nodup_append.mp hn
      refine List.nodup_cons.mpr ⟨fun q => ?_, this.1⟩
      exact this.2.2 y q y (by simp) rfl
    have hm : ∀ z ∈ y :: t, z < m := fun z hz => wk_mem y _ hw z (by
      rcases List.mem_cons.mp hz with rfl | hz
      · simp
      · simp [hz])
    have hok := wk_okc (Ok := Ok) (a := a) (fun p q h => he p q h.1 h.2.1 h.2.2) y t y hw
    obtain ⟨j1, j2⟩ := sS_ok m y t a hnd hm hi (fun j hj _ => ho j hj) hok
    have h1 := hb _ j1 j2
    have h2 := cS_sum F m y t a hnd hm
    rw [ws_cS]
    omega
