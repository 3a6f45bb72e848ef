/-! newborn: History's constructor -/
def kH (g : jG) (k : Nat) : va_W := (jad g 57, .inr (3, [.ref (jad g 58), .int 0, .int 0])) :: (jad g 58, .inl (jta g 7, 10, .inr (.inr (.inr (.inr (fun j => if j < k then some (jad g (59 + 20 * j)) else none)))))) :: kR g s0 59 (20 * k)
theorem kH_U (g : jG) (k : Nat) : kUw g 57 (59 + 20 * k) (kH g k) := by
  refine ⟨by unfold kH; rw [List.length_cons, List.length_cons, kR_len]; omega, fun i q h => ?_⟩
  unfold kH at h
  match i, h with
  | 0, h =>
    cases h
    rfl
  | 1, h =>
    cases h
    rfl
  | i + 2, h =>
    rw [List.getElem?_cons_succ, List.getElem?_cons_succ] at h
    obtain ⟨-, rfl⟩ := kR_inv h
    show jad g (59 + i) = jad g (57 + (i + 2))
    congr 1
    omega
theorem kU.eq {g : jG} {h0 : Nat} {rm : Room} {mt : jMt} {me : Nat} {T : lwT} {c0 s0 pc : Nat} {L : List (Nat × Value)} {r : List Value} {t : Nat} {w w' : va_W} (e : w = w') (k : kU g h0 rm mt me T c0 s0 pc L r t w') : kU g h0 rm mt me T c0 s0 pc L r t w := by
  subst e
  exact k
theorem kU.imp {g : jG} {h0 : Nat} {rm : Room} {mt : jMt} {me : Nat} {T : lwT} {c0 s0 pc : Nat} {L : List (Nat × Value)} {r : List Value} {t : Nat} {w w' : va_W} (e : ∀ H, va_P g.2.1 vwCl w H → va_P g.2.1 vwCl w' H) (k : kU g h0 rm mt me T c0 s0 pc L r t w') : kU g h0 rm mt me T c0 s0 pc L r t w := by
  intro p e9 s m as below meth c H locs ls X hz hP hS hl
  exact k p e9 s m as below meth c H locs ls X hz (e H hP) hS hl
theorem kH_s (g : jG) {k : Nat} : (kH g k ++ kR g s0 (59 + 20 * k) 20).set 1 (jad g (57 + 1), .inl (jta g 7, 10, .inr (.inr (.inr (.inr (va_up (fun j => if j < k then some (jad g (59 + 20 * j)) else none) k (some (jad g (59 + 20 * k))))))))) = kH g (k + 1) := by
  have ef : va_up (fun j => if j < k then some (jad g (59 + 20 * j)) else none) k (some (jad g (59 + 20 * k))) = fun j => if j < k + 1 then some (jad g (59 + 20 * j)) else none := by
    funext j
    unfold va_up
    by_cases h1 : j = k
    · subst h1
      rw [if_pos rfl, if_pos (by omega)]
    · rw [if_neg h1]
      dsimp only
      by_cases h2 : j < k
      · rw [if_pos h2, if_pos (by omega)]
      · rw [if_neg h2, if_neg (by omega)]
  rw [ef]
  unfold kH
  have e2 : 20 * (k + 1) = 20 * k + 20 := by omega
  rw [e2, ← kR_app]
  rfl
theorem kH_end (g : jG) (H : Heap) (h : va_P g.2.1 vwCl (kH g 10) H) : va_P g.2.1 vwCl (kws g s0 57 [.ref 58, .int 0, .int 0] 259) H := kws_mk (h 0 _ rfl) (fun k h1 h2 => by
  by_cases e : k = 58
  · subst e
    have h9 : H[jad g 58]? = some (arrV (jta g 7) 10 (fun j => va_rf (if j < 10 then some (jad g (59 + 20 * j)) else none))) := h 1 _ rfl
    unfold kpe va_at
    rw [jcell_4 (by decide +kernel)]
    show H[jad g 58]? = some (arrV (jta g 7) 10 (fun j => va_rf (some (jad g (59 + 20 * j)))))
    exact h9.trans (congrArg some (arrV_cg (fun j hj => by rw [if_pos hj])))
  · refine h (k - 59 + 2) (kpe g s0 k) ?_
    unfold kH
    rw [List.getElem?_cons_succ, List.getElem?_cons_succ, kR_get (by omega)]
    congr 2
    omega)
theorem kFL_59 : ∀ k, k < 10 → 59 + 20 * k ∈ kFL := by decide
set_option maxRecDepth 100000 in
set_option maxHeartbeats 4000000 in
theorem KC_57 {g : jG} {h0 : Nat} (hB : kB g h0) : kCon g h0 3 mX3_init 57 202 1600 s0 := by
  refine kCon.of (τ := s0) (by decide +kernel) (by decide) hB (by decide) ?_
  refine kw_aloadn (j := 0) (x := 57) rfl (show decode cX3_init 0 = .ok (.aload_n 0, 1) by decide +kernel) ?_
  refine kw_objInit (i := 3) (jGw_of 513 (by decide +kernel) (by decide +kernel)) ⟨by decide, by decide⟩ (by simp [Value.category]) (show decode cX3_init 1 = .ok (.invokespecial 3, 3) by decide +kernel) ?_
  refine kw_aloadn (j := 0) (x := 57) rfl (show decode cX3_init 4 = .ok (.aload_n 0, 1) by decide +kernel) ?_
  refine kw_bipush (v := 10) rfl (show decode cX3_init 5 = .ok (.bipush 10, 2) by decide +kernel) ?_
  refine kU.of ?_
  refine kU.eq (w' := [(jad g 57, .inr (3, [.null, .int 0, .int 0]))]) rfl ?_
  have u0 : kUw g 57 58 [(jad g 57, .inr (3, [.null, .int 0, .int 0]))] := ⟨rfl, fun i q h => by
    match i, h with
    | 0, h =>
      cases h
      rfl⟩
  refine ku_anew (t := 58) (N' := 10) hB (by decide) (by decide) u0 (jGw_of 514 (by decide +kernel) (by decide +kernel)) (by decide) (by decide) (by decide) (by decide) (by decide) (show decode cX3_init 7 = .ok (.anewarray 9, 3) by decide +kernel) ?_
  refine ku_putF (t := 59) (j := 11) (ci := 3) (c9 := 58) (vs := [.null, .int 0, .int 0]) (T9 := TX3) (f := 0) (ty := .array (.object "RentDivision$Flat")) hB (by decide) (kUw_app (by decide) u0) rfl jcls_X3 (by decide) (jGw_of 517 (by decide +kernel) (by decide +kernel)) ⟨by decide +kernel, rfl⟩ (fun _ => ⟨rfl, rfl⟩) (by decide) rfl (show decode cX3_init 10 = .ok (.putfield 11, 3) by decide +kernel) ?_
  refine kU.eq (w' := kH g 0) ?_ ?_
  · have ef : (fun j : Nat => if j < 0 then some (jad g (59 + 20 * j)) else none) = (fun _ => (none : Option Nat)) := funext fun j => if_neg (Nat.not_lt_zero j)
    unfold kH
    rw [ef]
    rfl
  refine ku_iconst (v := 0) rfl (show decode cX3_init 13 = .ok (.iconst 0, 1) by decide +kernel) ?_
  refine ku_istoren (j := 1) (by decide) (show decode cX3_init 14 = .ok (.istore_n 1, 1) by decide +kernel) ?_
  refine (show kU g h0 (krm 3 201 1600) mX3_init 57 (kMQ g h0 57 202 1600 s0) (1 + 20 * 0) (10 + 159 * 0) 15 [(0, .ref 57), (1, .int (nI 0))] [] (59 + 20 * 0) (kH g 0) → _ from fun h => h) ?_
  refine jloop (P := fun k => kU g h0 (krm 3 201 1600) mX3_init 57 (kMQ g h0 57 202 1600 s0) (1 + 20 * k) (10 + 159 * k) 15 [(0, .ref 57), (1, .int (nI k))] [] (59 + 20 * k) (kH g k)) (N := 10) ?_ (fun k hk ih => ?_)
  · refine ku_iloadn (j := 1) (x := nI 10) rfl (show decode cX3_init 15 = .ok (.iload_n 1, 1) by decide +kernel) ?_
    refine ku_bipush (v := 10) rfl (show decode cX3_init 16 = .ok (.bipush 10, 2) by decide +kernel) ?_
    refine ku_icmp (tg := 40) (show decode cX3_init 18 = .ok (.if_icmp .ge 22, 3) by decide +kernel) (by decide) ⟨fun _ => ?_, fun h => absurd h (by decide)⟩
    refine kU.imp (kH_end g) ?_
    refine kU.to (fs := [.ref 58, .int 0, .int 0]) (σ := s0) rfl ?_
    refine kw_aloadn (j := 0) (x := 57) rfl (show decode cX3_init 40 = .ok (.aload_n 0, 1) by decide +kernel) ?_
    refine kw_iconst (v := 0) rfl (show decode cX3_init 41 = .ok (.iconst 0, 1) by decide +kernel) ?_
    refine kw_puti (t := 259) (j := 18) (T9 := TX3) (f := 1) (ty := .int) hB (by decide) (by decide) (show (jshp 57).2.1 = 3 by decide +kernel) jcls_X3 (by decide) (jGw_of 518 (by decide +kernel) (by decide +kernel)) ⟨by decide +kernel, rfl⟩ ⟨by decide, by decide⟩ (by decide) (show decode cX3_init 42 = .ok (.putfield 18, 3) by decide +kernel) ?_
    refine kw_aloadn (j := 0) (x := 57) rfl (show decode cX3_init 45 = .ok (.aload_n 0, 1) by decide +kernel) ?_
    refine kw_iconst (v := 0) rfl (show decode cX3_init 46 = .ok (.iconst 0, 1) by decide +kernel) ?_
    refine kw_puti (t := 259) (j := 22) (T9 := TX3) (f := 2) (ty := .int) hB (by decide) (by decide) (show (jshp 57).2.1 = 3 by decide +kernel) jcls_X3 (by decide) (jGw_of 519 (by decide +kernel) (by decide +kernel)) ⟨by decide +kernel, rfl⟩ ⟨by decide, by decide⟩ (by decide) (show decode cX3_init 47 = .ok (.putfield 22, 3) by decide +kernel) ?_
    exact kw_ret rfl hB rfl (by decide) (by decide) rfl rfl (by decide +kernel) rfl (show decode cX3_init 50 = .ok (.return_, 1) by decide +kernel)
  · have hF := kFL_59 k hk
    obtain ⟨e0, hN⟩ := kFL_sh _ hF
    have e1 : (jshp (59 + 20 * k)).2.1 = 2 := by rw [e0]
    have hU := kH_U g k
    have hj : jN = 322 := rfl
    refine ku_iloadn (j := 1) (x := nI k) rfl (show decode cX3_init 15 = .ok (.iload_n 1, 1) by decide +kernel) ?_
    refine ku_bipush (v := 10) rfl (show decode cX3_init 16 = .ok (.bipush 10, 2) by decide +kernel) ?_
    refine ku_icmp (tg := 40) (show decode cX3_init 18 = .ok (.if_icmp .ge 22, 3) by decide +kernel) (by decide) ⟨fun h => absurd ((NL_10.2.2.2.1 k (by omega)).mpr hk) h, fun _ => ?_⟩
    refine ku_aloadn (j := 0) (x := 57) rfl (show decode cX3_init 21 = .ok (.aload_n 0, 1) by decide +kernel) ?_
    refine ku_get (ci := 3) (f := 0) (c9 := 58) (vs := [.ref (jad g 58), .int 0, .int 0]) rfl fX3_11 rfl (show decode cX3_init 22 = .ok (.getfield 11, 3) by decide +kernel) ?_
    refine ku_iloadn (j := 1) (x := nI k) rfl (show decode cX3_init 25 = .ok (.iload_n 1, 1) by decide +kernel) ?_
    refine ku_new (t := 59 + 20 * k) (j1 := 9) (j2 := 17) (mt' := mX2_init) (ci := 2) (N9 := 16) (nn := 20) (ms := 143) (n' := 2) (T9 := TX2) (ty9 := tyX2) (σ := s0) hB (by omega) (by omega) hU (by decide) e1 jcls_X2 ⟨tyX2_ok, by rw [e0]; show ∀ j, j < 16 → defaultValue (tyX2 j) = vp_V [.int 0, .int 0, .int 0, .int 0, .int 0, .int 0, .int 0, .null, .null, .null, .null, .null, .null, .null, .null, .null] j; decide +kernel⟩ (jGw_of 514 (by decide +kernel) (by decide +kernel)) (jGw_of 346 (by decide +kernel) (by decide +kernel)) (jGw_of 59 (by decide +kernel) (by decide +kernel)) (jGw_of 516 (by decide +kernel) (by decide +kernel)) (jGw_of 348 (by decide +kernel) (by decide +kernel)) (jGw_of 349 (by decide +kernel) (by decide +kernel)) rfl rfl ⟨by decide +kernel, by decide +kernel, by decide +kernel⟩ ⟨by decide, by decide⟩ (by show _ ≤ 201; omega) (by show _ ≤ 1600; omega) (by simp [Value.category]) (KC_F hB hF) (show decode cX3_init 26 = .ok (.new 9, 3) by decide +kernel) (show decode cX3_init 29 = .ok (.dup, 1) by decide +kernel) (show decode cX3_init 30 = .ok (.invokespecial 17, 3) by decide +kernel) ?_
    have hv : (kH g k ++ kR g s0 (59 + 20 * k) 20)[20 * k + 2]? = some (jad g (59 + 20 * k), .inr (2, jfs g s0 (59 + 20 * k) [0, 0, 0, 0, 0, 0, 0, 59 + 20 * k + 3, 59 + 20 * k + 4, 59 + 20 * k + 5, 59 + 20 * k + 6, 59 + 20 * k + 17, 59 + 20 * k + 18, 59 + 20 * k + 19, 59 + 20 * k + 20, 59 + 20 * k + 21])) := by
      have hlen : (kH g k).length = 20 * k + 2 := by rw [hU.1]; omega
      rw [List.getElem?_append_right (by omega), hlen, Nat.sub_self, kR_get (by decide)]
      unfold kpe
      rw [Nat.add_zero, jcell_o (by rw [e0]), e0]
    refine ku_aast (q0 := 1) (qk := 20 * k + 2) (n := 10) (f := fun j => if j < k then some (jad g (59 + 20 * j)) else none) hB (by omega) (kUw_appR (by omega) hU) rfl hv jcls_X2.1 (jin_nI hk (by decide)) (show decode cX3_init 33 = .ok (.aastore, 1) by decide +kernel) ?_
    rw [nI_clamp (show k < 2 ^ 31 by omega)]
    refine kU.eq (kH_s g) ?_
    refine ku_iinc (j := 1) (x := nI k) (v := 1) rfl rfl (by decide) (show decode cX3_init 34 = .ok (.iinc 1 1, 3) by decide +kernel) ?_
    refine ku_goto (tg := 15) (show decode cX3_init 37 = .ok (.goto (-22), 3) by decide +kernel) (by decide) ?_
    rw [nI_1]
    have q1 : 1 + 20 * k + 20 = 1 + 20 * (k + 1) := by omega
    have q2 : 10 + 159 * k + 16 + 143 = 10 + 159 * (k + 1) := by omega
    have q3 : 59 + 20 * k + 20 = 59 + 20 * (k + 1) := by omega
    rw [q1, q2, q3]
    exact ih
