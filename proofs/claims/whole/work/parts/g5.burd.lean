/-! burden in the law: doubles -/
section LW5
variable {g : jG} {mt : jMt} {n : Nat} {pc : Nat} {L : List (Nat × Value)} {r : List Value} {σ : jM} {zZ : jZ}
theorem jy_ofD {x y : UInt64} (e : x = y) (k : jY g zZ mt n pc L (.double y :: r) σ) : jY g zZ mt n pc L (.double x :: r) σ := e ▸ k
end LW5
theorem dc_self {d : UInt64} (h : vf_n64 d) : Op.cmpValue (FP.dcmp d d) .l = 0 := by
  have k : FP.dcmp d d = some .eq := Jvm.FP.Core.dcmp_self (fun z => by
    have e : Jvm.FP.Core.dIsNaN d = true := decide_eq_true z
    have e2 := (Jvm.FP.Core.isNaN_bits d).mp e
    unfold vf_n64 at h
    rw [UInt64.le_iff_toNat_le, UInt64.toNat_and] at h
    have e3 : (0x7fffffffffffffff : UInt64).toNat = 2 ^ 63 - 1 := by decide
    have e4 : (0x7ff0000000000000 : UInt64).toNat = 9218868437227405312 := by decide
    rw [e3, e4, Nat.and_two_pow_sub_one_eq_mod] at h
    omega)
  rw [k]
  rfl
theorem xR_D {σ : jM} (h : xR σ) (y : UInt64) : xR (jupD σ 353 0 y) := by
  obtain ⟨R, N, K, k⟩ := h
  exact ⟨R, N, K, (show xQ σ (jupD σ 353 0 y) from ⟨fun _ _ _ => rfl, prIv_fr k (fun _ _ _ => rfl)⟩).R k⟩
theorem hv_burden (x : Int32) (σ : jM) : ∀ v τ, (oX11_burden [.ref 0, .int x] σ).2 v τ → ∃ a : UInt64, v = some (.double a) := fun v τ h => ⟨_, (show _ ∧ _ from h).1⟩
theorem LL678 (i : Nat) (v : Int32) (w : UInt64) : ∀ q ∈ LL i, q ∈ jins2 7 (.double w) (jins 6 (.int v) (LL i)) := by
  intro q hq
  have e : jins2 7 (.double w) (jins 6 (.int v) (LL i)) = LL i ++ [(6, .int v), (7, .double w)] := rfl
  rw [e]
  exact List.mem_append_left _ hq
def tC_43 : jTb := [(1895, .aload_n 1, 1896, 0, 0), (1896, .aload_n 0, 1897, 0, 0), (1897, .iload 5, 1899, 0, 0), (1899, .iconst 1, 1900, 0, 1), (1900, .iadd, 1901, 0, 0), (1901, .iaload, 1902, 0, 0), (1902, .aload 4, 1904, 0, 0), (1904, .invokestatic 251, 1907, 0, 0), (1907, .istore 6, 1909, 0, 0), (1909, .aload_n 2, 1910, 0, 0), (1910, .aload_n 0, 1911, 0, 0), (1911, .iload 5, 1913, 0, 0), (1913, .iconst 1, 1914, 0, 1), (1914, .iadd, 1915, 0, 0), (1915, .iaload, 1916, 0, 0), (1916, .invokevirtual 254, 1919, 0, 0), (1919, .dstore 7, 1921, 0, 0), (1921, .aload_n 2, 1922, 0, 0), (1922, .invokevirtual 142, 1925, 0, 0), (1925, .iload 6, 1927, 0, 0), (1927, .if_icmp .eq 5, 1930, 1932, 0), (1930, .iconst 0, 1931, 0, 0), (1931, .ireturn, 1932, 0, 0), (1932, .iload 6, 1934, 0, 0), (1934, .ifCond .ne 35, 1937, 1969, 0), (1937, .aload 4, 1939, 0, 0), (1939, .iconst 0, 1940, 0, 0), (1940, .daload, 1941, 0, 0), (1941, .dload 7, 1943, 0, 0), (1943, .dcmp .l, 1944, 0, 0), (1944, .ifCond .eq 25, 1947, 1969, 0), (1947, .aload 4, 1949, 0, 0), (1949, .iconst 0, 1950, 0, 0), (1950, .daload, 1951, 0, 0), (1951, .aload 4, 1953, 0, 0), (1953, .iconst 0, 1954, 0, 0), (1954, .daload, 1955, 0, 0), (1955, .dcmp .l, 1956, 0, 0), (1956, .ifCond .eq 11, 1959, 1967, 0), (1959, .dload 7, 1961, 0, 0), (1961, .dload 7, 1963, 0, 0), (1963, .dcmp .l, 1964, 0, 0), (1964, .ifCond .ne 5, 1967, 1969, 0), (1967, .iconst 0, 1968, 0, 0), (1968, .ireturn, 1969, 0, 0), (1969, .goto 648, 1972, 2617, 0)]
theorem TC_43 : jT mLw [] [] tC_43 := jT.of (cs := []) (fun _ h => absurd h List.not_mem_nil) (fun _ h => absurd h List.not_mem_nil) (fun _ h => absurd h List.not_mem_nil) (by decide +kernel) (by decide +kernel)
theorem kL_251 : Cond.methodLink RL 251 yL_burden ∈ jGw := jGw_of 1440 (by decide +kernel) (by decide +kernel)
theorem LA_43 {g : jG} {N : Nat} {xs : Nat → Int32} (hX : jScr g N xs) {T : lwT} {c0 s0 : Nat} (hc0 : c0 + 1 ≤ 601024) (hs0 : s0 + 6 ≤ 7293034) {i : Nat} (hi : i + 6 ≤ N) {σ : jM} (k : ∀ υ, xR υ → jY g (zL T (c0 + 1) (s0 + 6)) mLw 1000 2617 (LL i) [] υ) (p1 : (oX11_burden [.ref 0, .int (xs (i + 1))] σ).1) (q1 : ∀ v τ, (oX11_burden [.ref 0, .int (xs (i + 1))] σ).2 v τ → ∀ y : UInt64, (oX12_burden [.ref 322, .int (xs (i + 1))] (jupD τ 353 0 y)).1 ∧ ∀ w υ, (oX12_burden [.ref 322, .int (xs (i + 1))] (jupD τ 353 0 y)).2 w υ → (∃ d, vf_n64 d ∧ v = some (.double d)) ∧ w = v ∧ υ.1 322 11 = 0 ∧ υ.2.2 353 0 = y ∧ xR υ) : jY g (zL T c0 s0) mLw 1000 1895 (LL i) [] σ := by
  refine jy_aloadn (j := 1) rfl (TC_43.row (show jtb tC_43 1895 = _ from rfl)).1 ?_
  refine jy_S hX 1 rfl rfl hi (by decide) (TC_43.row (show jtb tC_43 1896 = _ from rfl)).1 (TC_43.row (show jtb tC_43 1897 = _ from rfl)).1 (TC_43.row (show jtb tC_43 1899 = _ from rfl)).1 (TC_43.row (show jtb tC_43 1900 = _ from rfl)).1 (TC_43.row (show jtb tC_43 1901 = _ from rfl)).1 ?_
  refine jy_aload (j := 4) (x := 353) rfl (TC_43.row (show jtb tC_43 1902 = _ from rfl)).1 ?_
  refine jy_callSW (n' := 0 + 2 + 1) (mt' := mL_burden) (hh := hL_burden) (as := [.ref 0, .int (xs (i + 1)), .ref 353]) (r := []) (by decide) hc0 hs0 TC_43 (show jtb tC_43 1904 = _ from rfl) kL_251 WL_burden rfl (by decide) rfl (by simp) (NL_burden 0 2 (hv_burden _ σ) (CX11_burden g 0 _ σ p1)) (fun v τ hv => ?_)
  obtain ⟨rfl, a, τ', hq, rfl⟩ := hv
  obtain ⟨p2, q2⟩ := q1 _ τ' hq a
  refine jy_istore (j := 6) (by decide) (TC_43.row (show jtb tC_43 1907 = _ from rfl)).1 ?_
  refine jy_aloadn (j := 2) rfl (TC_43.row (show jtb tC_43 1909 = _ from rfl)).1 ?_
  refine jy_S hX 1 rfl rfl hi (by decide) (TC_43.row (show jtb tC_43 1910 = _ from rfl)).1 (TC_43.row (show jtb tC_43 1911 = _ from rfl)).1 (TC_43.row (show jtb tC_43 1913 = _ from rfl)).1 (TC_43.row (show jtb tC_43 1914 = _ from rfl)).1 (TC_43.row (show jtb tC_43 1915 = _ from rfl)).1 ?_
  refine jy_callV (n' := 0 + 2) (mt' := mX12_burden) (as := [.int (xs (i + 1))]) (r := []) (ci := 12) (a := 322) (zL_ok (by decide) hc0 hs0) TC_43 (show jtb tC_43 1916 = _ from rfl) kL_254 WX12_burden rfl (by decide +kernel) rfl (by decide) rfl (by simp) (CX12_burden g 0 _ _ p2) (fun w υ hw => ?_)
  obtain ⟨⟨d, hd, e0⟩, rfl, e1, e2, hR'⟩ := q2 w υ hw
  refine jy_dstore (j := 7) (by decide) (TC_43.row (show jtb tC_43 1919 = _ from rfl)).1 ?_
  refine jy_aloadn (j := 2) rfl (TC_43.row (show jtb tC_43 1921 = _ from rfl)).1 ?_
  refine jy_callV (n' := 0 + 0) (mt' := mX12_thrown) (as := []) (r := []) (ci := 12) (a := 322) (zL_ok (by decide) hc0 hs0) TC_43 (show jtb tC_43 1922 = _ from rfl) kL_142 WX12_thrown rfl (by decide +kernel) rfl (by decide) rfl (by simp) (CX12_thrown g 0 [.ref 322] υ rfl) (fun w υ' hw => ?_)
  obtain ⟨rfl, rfl⟩ := hw
  rw [e1]
  refine jy_iload (x := 0) rfl (TC_43.row (show jtb tC_43 1925 = _ from rfl)).1 ?_
  refine jy_icmp (tg := 1932) (TC_43.row (show jtb tC_43 1927 = _ from rfl)).1 rfl ⟨fun _ => ?_, fun h => absurd rfl h⟩
  refine jy_iload (x := 0) rfl (TC_43.row (show jtb tC_43 1932 = _ from rfl)).1 ?_
  refine jy_if (tg := 1969) (TC_43.row (show jtb tC_43 1934 = _ from rfl)).1 rfl ⟨fun h => absurd rfl h, fun _ => ?_⟩
  refine jy_aload (j := 4) (x := 353) rfl (TC_43.row (show jtb tC_43 1937 = _ from rfl)).1 ?_
  refine jy_iconst (v := 0) rfl (TC_43.row (show jtb tC_43 1939 = _ from rfl)).1 ?_
  refine jy_dald (a := 353) (by decide +kernel) (show jin 0 1 from ⟨by decide, by decide⟩) (TC_43.row (show jtb tC_43 1940 = _ from rfl)).1 ?_
  refine jy_ofD e2 ?_
  refine jy_dload (j := 7) (x := a) rfl (TC_43.row (show jtb tC_43 1941 = _ from rfl)).1 ?_
  refine jy_dcmp (TC_43.row (show jtb tC_43 1943 = _ from rfl)).1 ?_
  refine jy_ofI (dc_self (by cases e0; exact hd)) ?_
  refine jy_if (tg := 1969) (TC_43.row (show jtb tC_43 1944 = _ from rfl)).1 rfl ⟨fun _ => ?_, fun h => absurd rfl h⟩
  exact jy_goto (tg := 2617) (TC_43.row (show jtb tC_43 1969 = _ from rfl)).1 rfl ((k _ hR').mono (LL678 i _ _))
theorem LB_43 {g : jG} (hEx : jEx g) {N : Nat} {xs : Nat → Int32} (hX : jScr g N xs) {T : lwT} {c0 s0 : Nat} (hc0 : c0 + 1 ≤ 601024) (hs0 : s0 + 6 ≤ 7293034) {i : Nat} (hi : i + 6 ≤ N) {σ : jM} (k : ∀ υ, xR υ → jY g (zL T (c0 + 1) (s0 + 6)) mLw 1000 2617 (LL i) [] υ) (ht : ∀ n, jTh g (n + 20) mX11_burden [.ref 0, .int (xs (i + 1))] σ (fun τ => τ = σ)) (q1 : ∀ τ, τ = σ → (oX12_burden [.ref 322, .int (xs (i + 1))] τ).1 ∧ ∀ w υ, (oX12_burden [.ref 322, .int (xs (i + 1))] τ).2 w υ → (∃ d, w = some (.double d)) ∧ υ.1 322 11 = 1 ∧ xR υ) : jY g (zL T c0 s0) mLw 1000 1895 (LL i) [] σ := by
  refine jy_aloadn (j := 1) rfl (TC_43.row (show jtb tC_43 1895 = _ from rfl)).1 ?_
  refine jy_S hX 1 rfl rfl hi (by decide) (TC_43.row (show jtb tC_43 1896 = _ from rfl)).1 (TC_43.row (show jtb tC_43 1897 = _ from rfl)).1 (TC_43.row (show jtb tC_43 1899 = _ from rfl)).1 (TC_43.row (show jtb tC_43 1900 = _ from rfl)).1 (TC_43.row (show jtb tC_43 1901 = _ from rfl)).1 ?_
  refine jy_aload (j := 4) (x := 353) rfl (TC_43.row (show jtb tC_43 1902 = _ from rfl)).1 ?_
  refine jy_callSW (n' := 0 + 20 + 1) (mt' := mL_burden) (hh := hL_burden) (as := [.ref 0, .int (xs (i + 1)), .ref 353]) (r := []) (by decide) hc0 hs0 TC_43 (show jtb tC_43 1904 = _ from rfl) kL_251 WL_burden rfl (by decide) rfl (by simp) (PL_burden hEx (0 + 20) (ht _)) (fun v τ hv => ?_)
  obtain ⟨rfl, hτ⟩ := hv
  obtain ⟨p2, q2⟩ := q1 τ hτ
  refine jy_istore (j := 6) (by decide) (TC_43.row (show jtb tC_43 1907 = _ from rfl)).1 ?_
  refine jy_aloadn (j := 2) rfl (TC_43.row (show jtb tC_43 1909 = _ from rfl)).1 ?_
  refine jy_S hX 1 rfl rfl hi (by decide) (TC_43.row (show jtb tC_43 1910 = _ from rfl)).1 (TC_43.row (show jtb tC_43 1911 = _ from rfl)).1 (TC_43.row (show jtb tC_43 1913 = _ from rfl)).1 (TC_43.row (show jtb tC_43 1914 = _ from rfl)).1 (TC_43.row (show jtb tC_43 1915 = _ from rfl)).1 ?_
  refine jy_callV (n' := 0 + 2) (mt' := mX12_burden) (as := [.int (xs (i + 1))]) (r := []) (ci := 12) (a := 322) (zL_ok (by decide) hc0 hs0) TC_43 (show jtb tC_43 1916 = _ from rfl) kL_254 WX12_burden rfl (by decide +kernel) rfl (by decide) rfl (by simp) (CX12_burden g 0 _ _ p2) (fun w υ hw => ?_)
  obtain ⟨⟨a, rfl⟩, e1, hR'⟩ := q2 w υ hw
  refine jy_dstore (j := 7) (by decide) (TC_43.row (show jtb tC_43 1919 = _ from rfl)).1 ?_
  refine jy_aloadn (j := 2) rfl (TC_43.row (show jtb tC_43 1921 = _ from rfl)).1 ?_
  refine jy_callV (n' := 0 + 0) (mt' := mX12_thrown) (as := []) (r := []) (ci := 12) (a := 322) (zL_ok (by decide) hc0 hs0) TC_43 (show jtb tC_43 1922 = _ from rfl) kL_142 WX12_thrown rfl (by decide +kernel) rfl (by decide) rfl (by simp) (CX12_thrown g 0 [.ref 322] υ rfl) (fun w υ' hw => ?_)
  obtain ⟨rfl, rfl⟩ := hw
  rw [e1]
  refine jy_iload (x := 1) rfl (TC_43.row (show jtb tC_43 1925 = _ from rfl)).1 ?_
  refine jy_icmp (tg := 1932) (TC_43.row (show jtb tC_43 1927 = _ from rfl)).1 rfl ⟨fun _ => ?_, fun h => absurd rfl h⟩
  refine jy_iload (x := 1) rfl (TC_43.row (show jtb tC_43 1932 = _ from rfl)).1 ?_
  refine jy_if (tg := 1969) (TC_43.row (show jtb tC_43 1934 = _ from rfl)).1 rfl ⟨fun _ => ?_, fun h => absurd h (by decide)⟩
  exact jy_goto (tg := 2617) (TC_43.row (show jtb tC_43 1969 = _ from rfl)).1 rfl ((k _ hR').mono (LL678 i _ _))
theorem LC_43 {g : jG} (hEx : jEx g) {N : Nat} {xs : Nat → Int32} (hX : jScr g N xs) {T : lwT} {c0 s0 : Nat} (hc0 : c0 + 1 ≤ 601024) (hs0 : s0 + 6 ≤ 7293034) {i : Nat} (hi : i + 6 ≤ N) {σ : jM} (hR : xR σ) (k : ∀ υ, xR υ → jY g (zL T (c0 + 1) (s0 + 6)) mLw 1000 2617 (LL i) [] υ) : jY g (zL T c0 s0) mLw 1000 1895 (LL i) [] σ := by
  obtain ⟨a1, a2⟩ := bd_step (xs (i + 1)) hR
  by_cases c : mP σ (xs (i + 1)) = true
  · exact LA_43 hX hc0 hs0 hi k (a1 c).1 (fun v τ hv y => by
      obtain ⟨p1, p2⟩ := ((bd_step (xs (i + 1)) (xR_D hR y)).1 c).2 v (jupD τ 353 0 y) ⟨(show _ ∧ _ from hv).1, by rw [(show _ ∧ _ from hv).2]⟩
      refine ⟨p1, fun w υ hw => ?_⟩
      obtain ⟨q1, q2, q3, q4⟩ := p2 w υ hw
      refine ⟨q1, q2, q3, ?_, q4⟩
      rw [(show _ ∧ _ from hw).2]
      simp [jup, jupD])
  · obtain ⟨R, N', K, h⟩ := hR
    exact LB_43 hEx hX hc0 hs0 hi k (fun n => XX11_burden hEx n (xv_n h).2.2.2.2.2.2.1 (fun z => c ((xv_P h _).1.symm.trans z))) (fun τ e => by rw [e]; exact a2 c)
