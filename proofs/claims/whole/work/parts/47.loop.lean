/-! THE LAW'S LOOP -/
theorem lp_cond {N i : Nat} (hN : N ≤ 2560) (hi : i ≤ N) (h : ¬ nI N - 5 < nI i) : i + 5 ≤ N := by
  by_cases h5 : 5 ≤ N
  · obtain ⟨M, rfl⟩ : ∃ M, N = M + 5 := ⟨N - 5, by omega⟩
    have e : nI (M + 5) - 5 = nI M := by rw [show (5 : Int32) = nI 5 from rfl, pk_subN (by omega)]; rfl
    rw [e] at h
    have := nI_ngt h (by omega) (by omega)
    omega
  · exfalso
    apply h
    have q2 : (nI 0).toInt ≤ (nI i).toInt := Int32.le_iff_toInt_le.mp ((nI_leI (by omega) (by omega)).mpr (Nat.zero_le _))
    have q3 : (nI 0).toInt = 0 := by decide
    refine Int32.lt_iff_toInt_lt.mpr ?_
    match N, h5 with
    | 0, _ => have q1 : (nI 0 - 5).toInt = -5 := by decide
              omega
    | 1, _ => have q1 : (nI 1 - 5).toInt = -4 := by decide
              omega
    | 2, _ => have q1 : (nI 2 - 5).toInt = -3 := by decide
              omega
    | 3, _ => have q1 : (nI 3 - 5).toInt = -2 := by decide
              omega
    | 4, _ => have q1 : (nI 4 - 5).toInt = -1 := by decide
              omega
    | N + 5, h5 => omega
theorem lp_in {N i : Nat} (hN : N ≤ 2560) (h : i + 5 ≤ N) : ∀ c : Int32, c = 1 ∨ c = 2 ∨ c = 3 ∨ c = 4 → vp_in (nI i + c) N := by
  intro c hc
  rcases hc with rfl | rfl | rfl | rfl
  · rw [show nI i + 1 = nI (i + 1) from nI_add i 1]; exact vp_in_nI (by omega) (by omega)
  · rw [show nI i + 2 = nI (i + 2) from nI_add i 2]; exact vp_in_nI (by omega) (by omega)
  · rw [show nI i + 3 = nI (i + 3) from nI_add i 3]; exact vp_in_nI (by omega) (by omega)
  · rw [show nI i + 4 = nI (i + 4) from nI_add i 4]; exact vp_in_nI (by omega) (by omega)
/-- the switch: every case behind it -/
theorem lp_switch (l : Launch) (hst : l.stackTraces = false) {D : va_G} {cT ac am : Nat → Nat} {aD b N sz : Nat} {xs : Nat → Int32} {σ μ : Sg} {o : Nat → Int64} {u : Nat → UInt64} {k n : Nat} {x5 x : Int32} (hC : CP σ μ) (hv : ∀ c : Int32, c = 1 ∨ c = 2 ∨ c = 3 ∨ c = 4 → vp_in (x5 + c) N) (hk : k + 5 ≤ 646177 ∧ n + 30 ≤ 7157572) (kk : ∀ (σ1 μ1 : Sg) (o1 : Nat → Int64) (u1 : Nat → UInt64), CP σ1 μ1 → Wl l D cT ac am aD b N sz xs 2208 x5 σ1 μ1 o1 u1 (k + 5) (n + 30)) : Wm (fun _ _ => True) l room_1 RL cL_law 8 (some .boolean) D cT zI [] (lA sz) (lZ b N sz xs) (lX cT ac am aD σ μ o u) 44 [(0, .ref b), (1, .ref (ac 0)), (2, .ref (am 0)), (3, .ref (ac 27)), (4, .ref aD), (5, .int x5)] [.int x] (fun _ _ => 0) k n := by
  by_cases h0 : x.toInt < 0 ∨ 35 < x.toInt
  · refine wm_tabOut 2208 dL_law_44 h0 (by decide) ?_
    refine wl_widen (k1 := k + 5) (n1 := n + 30) (by omega) (by omega) ?_
    exact kk _ _ _ _ hC
  · obtain ⟨j, hj, ej⟩ : ∃ j : Nat, j < 36 ∧ x.toInt = (j : Int) := ⟨x.toInt.toNat, by omega, by omega⟩
    have go : ∀ (off : Int) (tgt : Nat), (#[160, 216, 284, 376, 456, 536, 592, 648, 716, 784, 797, 865, 921, 977, 1033, 1046, 1102, 1170, 1245, 1313, 1369, 1425, 1505, 1573, 1629, 1697, 1765, 1833, 1923, 1979, 2042, 2055, 2068, 2081, 2137, 2150] : Array Int)[j]? = some off → (44 : Int) + off = (tgt : Int) → Wl l D cT ac am aD b N sz xs tgt x5 σ μ o u k n → Wm (fun _ _ => True) l room_1 RL cL_law 8 (some .boolean) D cT zI [] (lA sz) (lZ b N sz xs) (lX cT ac am aD σ μ o u) 44 [(0, .ref b), (1, .ref (ac 0)), (2, .ref (am 0)), (3, .ref (ac 27)), (4, .ref aD), (5, .int x5)] [.int x] (fun _ _ => 0) k n := fun off tgt h1 h2 hW => by
      refine wm_tabIn tgt dL_law_44 (by omega) (by omega) (off := off) ?_ h2 hW
      rw [ej, show ((j : Int) - 0).toNat = j by omega]
      exact h1
    match j, hj, go with
    | 0, _, go => exact go 160 204 rfl (by decide) (lc_addSource l hst hC hv hk kk)
    | 1, _, go => exact go 216 260 rfl (by decide) (lc_setTrust l hst hC hv hk kk)
    | 2, _, go => exact go 284 328 rfl (by decide) (lc_addRecord l hst hC hv hk kk)
    | 3, _, go => exact go 376 420 rfl (by decide) (lc_setKey l hst hC hv hk kk)
    | 4, _, go => exact go 456 500 rfl (by decide) (lc_setFact l hst hC hv hk kk)
    | 5, _, go => exact go 536 580 rfl (by decide) (lc_see l hst hC hv hk kk)
    | 6, _, go => exact go 592 636 rfl (by decide) (lc_drop l hst hC hv hk kk)
    | 7, _, go => exact go 648 692 rfl (by decide) (lc_forbid l hst hC hv hk kk)
    | 8, _, go => exact go 716 760 rfl (by decide) (lc_allow l hst hC hv hk kk)
    | 9, _, go => exact go 784 828 rfl (by decide) (lc_records l hst hC hv hk kk)
    | 10, _, go => exact go 797 841 rfl (by decide) (lc_key l hst hC hv hk kk)
    | 11, _, go => exact go 865 909 rfl (by decide) (lc_seen l hst hC hv hk kk)
    | 12, _, go => exact go 921 965 rfl (by decide) (lc_thing l hst hC hv hk kk)
    | 13, _, go => exact go 977 1021 rfl (by decide) (lc_thingByRounds l hst hC hv hk kk)
    | 14, _, go => exact go 1033 1077 rfl (by decide) (lc_things l hst hC hv hk kk)
    | 15, _, go => exact go 1046 1090 rfl (by decide) (lc_size l hst hC hv hk kk)
    | 16, _, go => exact go 1102 1146 rfl (by decide) (lc_member l hst hC hv hk kk)
    | 17, _, go => exact go 1170 1214 rfl (by decide) (lc_areTogether l hst hC hv hk kk)
    | 18, _, go => exact go 1245 1289 rfl (by decide) (lc_step l hst hC hv hk kk)
    | 19, _, go => exact go 1313 1357 rfl (by decide) (lc_shared l hst hC hv hk kk)
    | 20, _, go => exact go 1369 1413 rfl (by decide) (lc_thingsWithout l hst hC hv hk kk)
    | 21, _, go => exact go 1425 1469 rfl (by decide) (lc_thingsIf l hst hC hv hk kk)
    | 22, _, go => exact go 1505 1549 rfl (by decide) (lc_thingsIfAllowed l hst hC hv hk kk)
    | 23, _, go => exact go 1573 1617 rfl (by decide) (lc_weight l hst hC hv hk kk)
    | 24, _, go => exact go 1629 1673 rfl (by decide) (lc_fact l hst hC hv hk kk)
    | 25, _, go => exact go 1697 1741 rfl (by decide) (lc_factByPairs l hst hC hv hk kk)
    | 26, _, go => exact go 1765 1809 rfl (by decide) (lc_factFrom l hst hC hv hk kk)
    | 27, _, go => exact go 1833 1877 rfl (by decide) (lc_agreement l hst hC hv hk kk)
    | 28, _, go => exact go 1923 1967 rfl (by decide) (lc_setLimit l hst hC hv hk kk)
    | 29, _, go => exact go 1979 2023 rfl (by decide) (lc_isGhost l hst hC hv hk kk)
    | 30, _, go => exact go 2042 2086 rfl (by decide) (lc_ghosts l hst hC hv hk kk)
    | 31, _, go => exact go 2055 2099 rfl (by decide) (lc_nextGhost l hst hC hv hk kk)
    | 32, _, go => exact go 2068 2112 rfl (by decide) (lc_nextGhostByDays l hst hC hv hk kk)
    | 33, _, go => exact go 2081 2125 rfl (by decide) (lc_pass l hst hC hv hk kk)
    | 34, _, go => exact go 2137 2181 rfl (by decide) (lc_today l hst hC hv hk kk)
    | 35, _, go => exact go 2150 2194 rfl (by decide) (lc_mark l hst hC hv hk kk)
    | j + 36, hj, _ => omega
theorem law_loop (l : Launch) (hst : l.stackTraces = false) {D : va_G} {cT ac am : Nat → Nat} {aD b N sz : Nat} {xs : Nat → Int32} (hN : N ≤ 2560) : ∀ (q i : Nat) (σ μ : Sg) (o : Nat → Int64) (u : Nat → UInt64) (k n : Nat), N < i + q → i ≤ N → k ≤ 100 + i → n ≤ 1000 + 6 * i → CP σ μ → Wl l D cT ac am aD b N sz xs 28 (nI i) σ μ o u k n := by
  intro q
  induction q with
  | zero => intro i σ μ o u k n h1 h2; exact absurd h1 (by omega)
  | succ q ih =>
    intro i σ μ o u k n h1 h2 h3 h4 hC
    refine wm_iload 30 rfl dL_law_28 rfl ?_
    refine wm_aload_n 31 rfl dL_law_30 rfl rfl ?_
    refine wl_slen 32 rfl dL_law_31 ?_
    refine wm_iconst (v := 5) 33 rfl dL_law_32 (by decide) ?_
    refine wm_isub 34 rfl dL_law_33 ?_
    refine wm_icmp_gt 2214 37 rfl (by decide) dL_law_34 (fun c9 => ?_) (fun c9 => ?_)
    · refine wm_iconst (v := 1) 2215 rfl dL_law_2214 (by decide) ?_
      exact wl_end rfl rfl dL_law_2215 (Nat.le_trans h3 (Nat.le_trans (Nat.add_le_add_left (Nat.le_trans h2 hN) 100) (Nat.le_of_ble_eq_true rfl))) (Nat.le_trans h4 (Nat.le_trans (Nat.add_le_add_left (Nat.mul_le_mul_left 6 (Nat.le_trans h2 hN)) 1000) (Nat.le_of_ble_eq_true rfl)))
    · have h5 : i + 5 ≤ N := lp_cond hN h2 c9
      refine wm_aload_n 38 rfl dL_law_37 rfl rfl ?_
      refine wm_iload 40 rfl dL_law_38 rfl ?_
      refine wl_sld 41 rfl dL_law_40 (vp_in_nI (by omega) (by omega)) ?_
      refine wm_bipush (v := 63) 43 rfl dL_law_41 (by decide) ?_
      refine wm_iand 44 rfl dL_law_43 ?_
      refine lp_switch l hst hC (lp_in hN h5) ⟨Nat.le_trans (Nat.add_le_add_right (Nat.le_trans h3 (Nat.add_le_add_left (Nat.le_trans h2 hN) 100)) 5) (Nat.le_of_ble_eq_true rfl), Nat.le_trans (Nat.add_le_add_right (Nat.le_trans h4 (Nat.add_le_add_left (Nat.mul_le_mul_left 6 (Nat.le_trans h2 hN)) 1000)) 30) (Nat.le_of_ble_eq_true rfl)⟩ (fun σ1 μ1 o1 u1 hC1 => ?_)
      refine wm_iinc (ls' := [(5, _), (0, _), (1, _), (2, _), (3, _), (4, _)]) 2211 rfl dL_law_2208 rfl (show nI i + Int32.ofInt 5 = nI (i + 5) from nI_add i 5) (by decide) rfl ?_
      refine wm_goto 28 (by decide) dL_law_2211 ?_
      refine wm_loc (ls2 := [(0, .ref b), (1, .ref (ac 0)), (2, .ref (am 0)), (3, .ref (ac 27)), (4, .ref aD), (5, .int (nI (i + 5)))]) [1, 2, 3, 4, 5, 0] rfl ?_
      exact ih (i + 5) σ1 μ1 o1 u1 _ _ (by omega) h5 (by omega) (by omega) hC1
