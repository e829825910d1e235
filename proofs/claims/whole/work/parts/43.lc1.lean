theorem ca_X5_addSource : zCal yX5_addSource cX5_addSource 2 (some .int) 1 := ⟨aw_4_23, aw_1_5, by decide +kernel, by decide +kernel, by decide +kernel⟩
theorem cv_X5_addSource : zCaV RX5 yX5_addSource := ⟨aw_4_21, aw_4_22⟩
theorem ca_X5_thrown : zCal yX5_thrown cX5_thrown 1 (some .int) 0 := ⟨aw_5_8, aw_1_5, by decide +kernel, by decide +kernel, by decide +kernel⟩
theorem cv_X5_thrown : zCaV RX5 yX5_thrown := ⟨aw_5_6, aw_5_7⟩
theorem ca_X5_setTrust : zCal yX5_setTrust cX5_setTrust 4 (some .int) 2 := ⟨aw_6_3, aw_1_5, by decide +kernel, by decide +kernel, by decide +kernel⟩
theorem cv_X5_setTrust : zCaV RX5 yX5_setTrust := ⟨aw_6_1, aw_6_2⟩
theorem ca_X5_addRecord : zCal yX5_addRecord cX5_addRecord 7 (some .int) 4 := ⟨aw_7_3, aw_1_5, by decide +kernel, by decide +kernel, by decide +kernel⟩
theorem cv_X5_addRecord : zCaV RX5 yX5_addRecord := ⟨aw_7_1, aw_7_2⟩
theorem ca_X5_setFact : zCal yX5_setFact cX5_setFact 5 (some .int) 3 := ⟨aw_9_4, aw_1_5, by decide +kernel, by decide +kernel, by decide +kernel⟩
theorem cv_X5_setFact : zCaV RX5 yX5_setFact := ⟨aw_9_2, aw_9_3⟩
theorem ca_X5_see : zCal yX5_see cX5_see 3 (some .int) 1 := ⟨aw_9_16, aw_1_5, by decide +kernel, by decide +kernel, by decide +kernel⟩
theorem cv_X5_see : zCaV RX5 yX5_see := ⟨aw_9_14, aw_9_15⟩
theorem ca_X5_drop : zCal yX5_drop cX5_drop 2 (some .int) 1 := ⟨aw_10_22, aw_1_5, by decide +kernel, by decide +kernel, by decide +kernel⟩
theorem cv_X5_drop : zCaV RX5 yX5_drop := ⟨aw_10_20, aw_10_21⟩
theorem ca_X5_forbid : zCal yX5_forbid cX5_forbid 3 (some .int) 2 := ⟨aw_12_6, aw_1_5, by decide +kernel, by decide +kernel, by decide +kernel⟩
theorem cv_X5_forbid : zCaV RX5 yX5_forbid := ⟨aw_12_4, aw_12_5⟩
theorem ca_X5_allow : zCal yX5_allow cX5_allow 4 (some .int) 2 := ⟨aw_13_13, aw_1_5, by decide +kernel, by decide +kernel, by decide +kernel⟩
theorem cv_X5_allow : zCaV RX5 yX5_allow := ⟨aw_13_11, aw_13_12⟩
theorem ca_X4_records : zCal yX4_records cX4_records 1 (some .int) 0 := ⟨aw_13_21, aw_1_2, by decide +kernel, by decide +kernel, by decide +kernel⟩
theorem cv_X4_records : zCaV RX4 yX4_records := ⟨aw_13_19, aw_13_20⟩
theorem ca_X5_records : zCal yX5_records cX5_records 1 (some .int) 0 := ⟨aw_14_1, aw_1_5, by decide +kernel, by decide +kernel, by decide +kernel⟩
theorem cv_X5_records : zCaV RX5 yX5_records := ⟨aw_13_23, aw_14_0⟩
theorem ca_X5_key : zCal yX5_key cX5_key 3 (some .int) 2 := ⟨aw_14_12, aw_1_5, by decide +kernel, by decide +kernel, by decide +kernel⟩
theorem cv_X5_key : zCaV RX5 yX5_key := ⟨aw_14_10, aw_14_11⟩
theorem ca_X5_seen : zCal yX5_seen cX5_seen 2 (some .int) 1 := ⟨aw_14_23, aw_1_5, by decide +kernel, by decide +kernel, by decide +kernel⟩
theorem cv_X5_seen : zCaV RX5 yX5_seen := ⟨aw_14_21, aw_14_22⟩
theorem ca_X5_thingByRounds : zCal yX5_thingByRounds cX5_thingByRounds 2 (some .int) 1 := ⟨aw_20_14, aw_1_5, by decide +kernel, by decide +kernel, by decide +kernel⟩
theorem cv_X5_thingByRounds : zCaV RX5 yX5_thingByRounds := ⟨aw_20_12, aw_20_13⟩
theorem ca_X4_things : zCal yX4_things cX4_things 1 (some .int) 0 := ⟨aw_20_19, aw_1_2, by decide +kernel, by decide +kernel, by decide +kernel⟩
theorem cv_X4_things : zCaV RX4 yX4_things := ⟨aw_20_17, aw_20_18⟩
theorem ca_X5_things : zCal yX5_things cX5_things 1 (some .int) 0 := ⟨aw_21_11, aw_1_5, by decide +kernel, by decide +kernel, by decide +kernel⟩
theorem cv_X5_things : zCaV RX5 yX5_things := ⟨aw_21_9, aw_21_10⟩
theorem ca_X5_size : zCal yX5_size cX5_size 4 (some .int) 1 := ⟨aw_22_6, aw_1_5, by decide +kernel, by decide +kernel, by decide +kernel⟩
theorem cv_X5_size : zCaV RX5 yX5_size := ⟨aw_22_4, aw_22_5⟩
theorem ca_X5_member : zCal yX5_member cX5_member 5 (some .int) 2 := ⟨aw_23_1, aw_1_5, by decide +kernel, by decide +kernel, by decide +kernel⟩
theorem cv_X5_member : zCaV RX5 yX5_member := ⟨aw_22_23, aw_23_0⟩
theorem ca_X5_areTogether : zCal yX5_areTogether cX5_areTogether 3 (some .boolean) 2 := ⟨aw_23_12, aw_1_5, by decide +kernel, by decide +kernel, by decide +kernel⟩
theorem cv_X5_areTogether : zCaV RX5 yX5_areTogether := ⟨aw_23_10, aw_23_11⟩
theorem ca_X5_step : zCal yX5_step cX5_step 4 (some .int) 2 := ⟨aw_24_3, aw_1_5, by decide +kernel, by decide +kernel, by decide +kernel⟩
theorem cv_X5_step : zCaV RX5 yX5_step := ⟨aw_24_1, aw_24_2⟩
theorem ca_X5_shared : zCal yX5_shared cX5_shared 4 (some .int) 1 := ⟨aw_25_0, aw_1_5, by decide +kernel, by decide +kernel, by decide +kernel⟩
theorem cv_X5_shared : zCaV RX5 yX5_shared := ⟨aw_24_22, aw_24_23⟩
theorem ca_X5_thingsWithout : zCal yX5_thingsWithout cX5_thingsWithout 3 (some .int) 1 := ⟨aw_25_16, aw_1_5, by decide +kernel, by decide +kernel, by decide +kernel⟩
theorem cv_X5_thingsWithout : zCaV RX5 yX5_thingsWithout := ⟨aw_25_14, aw_25_15⟩
theorem ca_X5_thingsIf : zCal yX5_thingsIf cX5_thingsIf 6 (some .int) 3 := ⟨aw_26_3, aw_1_5, by decide +kernel, by decide +kernel, by decide +kernel⟩
theorem cv_X5_thingsIf : zCaV RX5 yX5_thingsIf := ⟨aw_26_1, aw_26_2⟩
theorem ca_X5_thingsIfAllowed : zCal yX5_thingsIfAllowed cX5_thingsIfAllowed 5 (some .int) 2 := ⟨aw_26_15, aw_1_5, by decide +kernel, by decide +kernel, by decide +kernel⟩
theorem cv_X5_thingsIfAllowed : zCaV RX5 yX5_thingsIfAllowed := ⟨aw_26_13, aw_26_14⟩
theorem ca_X5_weight : zCal yX5_weight cX5_weight 2 (some .int) 1 := ⟨aw_27_6, aw_1_5, by decide +kernel, by decide +kernel, by decide +kernel⟩
theorem cv_X5_weight : zCaV RX5 yX5_weight := ⟨aw_27_4, aw_27_5⟩
theorem ca_X5_factByPairs : zCal yX5_factByPairs cX5_factByPairs 3 (some .int) 2 := ⟨aw_29_20, aw_1_5, by decide +kernel, by decide +kernel, by decide +kernel⟩
theorem cv_X5_factByPairs : zCaV RX5 yX5_factByPairs := ⟨aw_29_18, aw_29_19⟩
theorem ca_X5_factFrom : zCal yX5_factFrom cX5_factFrom 4 (some .int) 2 := ⟨aw_30_8, aw_1_5, by decide +kernel, by decide +kernel, by decide +kernel⟩
theorem cv_X5_factFrom : zCaV RX5 yX5_factFrom := ⟨aw_30_6, aw_30_7⟩
theorem ca_X5_agreement : zCal yX5_agreement cX5_agreement 8 (some .float) 2 := ⟨aw_30_19, aw_1_5, by decide +kernel, by decide +kernel, by decide +kernel⟩
theorem cv_X5_agreement : zCaV RX5 yX5_agreement := ⟨aw_30_17, aw_30_18⟩
theorem ca_X5_setLimit : zCal yX5_setLimit cX5_setLimit 3 (some .int) 1 := ⟨aw_31_6, aw_1_5, by decide +kernel, by decide +kernel, by decide +kernel⟩
theorem cv_X5_setLimit : zCaV RX5 yX5_setLimit := ⟨aw_31_4, aw_31_5⟩
theorem ca_X5_isGhost : zCal yX5_isGhost cX5_isGhost 2 (some .boolean) 1 := ⟨aw_32_2, aw_1_5, by decide +kernel, by decide +kernel, by decide +kernel⟩
theorem cv_X5_isGhost : zCaV RX5 yX5_isGhost := ⟨aw_32_0, aw_32_1⟩
theorem ca_X4_ghosts : zCal yX4_ghosts cX4_ghosts 3 (some .int) 0 := ⟨aw_32_11, aw_1_2, by decide +kernel, by decide +kernel, by decide +kernel⟩
theorem cv_X4_ghosts : zCaV RX4 yX4_ghosts := ⟨aw_32_9, aw_32_10⟩
theorem ca_X5_ghosts : zCal yX5_ghosts cX5_ghosts 3 (some .int) 0 := ⟨aw_32_15, aw_1_5, by decide +kernel, by decide +kernel, by decide +kernel⟩
theorem cv_X5_ghosts : zCaV RX5 yX5_ghosts := ⟨aw_32_13, aw_32_14⟩
theorem ca_X4_nextGhost : zCal yX4_nextGhost cX4_nextGhost 4 (some .int) 0 := ⟨aw_32_19, aw_1_2, by decide +kernel, by decide +kernel, by decide +kernel⟩
theorem cv_X4_nextGhost : zCaV RX4 yX4_nextGhost := ⟨aw_32_17, aw_32_18⟩
theorem ca_X4_nextGhostByDays : zCal yX4_nextGhostByDays cX4_nextGhostByDays 3 (some .int) 0 := ⟨aw_33_3, aw_1_2, by decide +kernel, by decide +kernel, by decide +kernel⟩
theorem cv_X4_nextGhostByDays : zCaV RX4 yX4_nextGhostByDays := ⟨aw_33_1, aw_33_2⟩
theorem ca_X5_nextGhostByDays : zCal yX5_nextGhostByDays cX5_nextGhostByDays 1 (some .int) 0 := ⟨aw_33_12, aw_1_5, by decide +kernel, by decide +kernel, by decide +kernel⟩
theorem cv_X5_nextGhostByDays : zCaV RX5 yX5_nextGhostByDays := ⟨aw_33_10, aw_33_11⟩
theorem ca_X5_pass : zCal yX5_pass cX5_pass 2 (some .int) 1 := ⟨aw_34_0, aw_1_5, by decide +kernel, by decide +kernel, by decide +kernel⟩
theorem cv_X5_pass : zCaV RX5 yX5_pass := ⟨aw_33_22, aw_33_23⟩
theorem ca_X4_today : zCal yX4_today cX4_today 1 (some .int) 0 := ⟨aw_34_4, aw_1_2, by decide +kernel, by decide +kernel, by decide +kernel⟩
theorem cv_X4_today : zCaV RX4 yX4_today := ⟨aw_34_2, aw_34_3⟩
theorem ca_X5_today : zCal yX5_today cX5_today 1 (some .int) 0 := ⟨aw_34_8, aw_1_5, by decide +kernel, by decide +kernel, by decide +kernel⟩
theorem cv_X5_today : zCaV RX5 yX5_today := ⟨aw_34_6, aw_34_7⟩
theorem ca_X4_mark : zCal yX4_mark cX4_mark 6 (some .long) 0 := ⟨aw_34_12, aw_1_2, by decide +kernel, by decide +kernel, by decide +kernel⟩
theorem cv_X4_mark : zCaV RX4 yX4_mark := ⟨aw_34_10, aw_34_11⟩
theorem ca_X5_mark : zCal yX5_mark cX5_mark 9 (some .long) 0 := ⟨aw_34_20, aw_1_5, by decide +kernel, by decide +kernel, by decide +kernel⟩
theorem cv_X5_mark : zCaV RX5 yX5_mark := ⟨aw_34_18, aw_34_19⟩
/-! THE LAW'S CASES: one call at both sides; behind it both agree again -/
abbrev Wl (l : Launch) (D : va_G) (cT ac am : Nat → Nat) (aD b N sz : Nat) (xs : Nat → Int32) (pc : Nat) (x5 : Int32) (σ μ : Sg) (o : Nat → Int64) (u : Nat → UInt64) (k n : Nat) : Prop := Wm (fun _ _ => True) l room_1 RL cL_law 8 (some .boolean) D cT zI [] (lA sz) (lZ b N sz xs) (lX cT ac am aD σ μ o u) pc [(0, .ref b), (1, .ref (ac 0)), (2, .ref (am 0)), (3, .ref (ac 27)), (4, .ref aD), (5, .int x5)] [] (fun _ _ => 0) k n
theorem zp_01 {P : Prop} : zp P = 0 ∨ zp P = 1 := by
  by_cases h : P
  · exact Or.inr (zp_t h)
  · exact Or.inl (zp_f h)
theorem ff_ok2 : ∀ s, s < 25 → ∀ a, a < 25 → a ≠ 0 → nnF (FP.fdiv (FP.i2f (nI s)) (FP.i2f (nI a))) := by unfold nnF vf_n64; decide +kernel
theorem agP_nn {σ σ1 : Sg} {n : Nat} {r f : Int32} {v : UInt32} (hn : n ≤ 24) (h : agP σ n r f v σ1) : nnF v := by
  obtain ⟨a, i, x, ⟨a2, e1, e2, ha2, hi, hx, hb⟩, ⟨e3, ha⟩, -, rfl⟩ := h
  have l1 := cq_le (fun y => tf σ n (gC σ n 2) (gC σ n 2 a) i y ∧ σ (10 + i) y = σ (10 + i) x) n
  have l2 := cq_le (tf σ n (gC σ n 2) (gC σ n 2 a) i) n
  have h2 := ha2.1
  have e4 := eq_of_nI (e3.symm.trans e1) (by omega) (by omega)
  subst e4
  have l3 := cq_up (P := tf σ n (gC σ n 2) (gC σ n 2 a) i) hx hb.1
  exact ff_ok2 _ (by omega) _ (by omega) (by omega)
theorem Cpl.sy {σ μ : Sg} {n m p d L : Nat} {sn : Nat → Nat} (h : Cpl σ μ n m p d L sn) : ∀ a b, a < 24 → b < 24 → tb (σ 13 a) b = true → a ≠ b ∧ tb (σ 13 b) a = true := by
  intro a b ha hb ht
  have hP := h.2.2.2.2.2.2.2.1
  have h24 := h.1.1.2.2
  obtain ⟨i, hi, hm⟩ := (hP.2.2 a b ha (by omega)).mp ht
  refine ⟨fun e => ?_, (hP.2.2 b a hb (by omega)).mpr ⟨i, hi, hm.symm⟩⟩
  obtain ⟨x, y, e7, e8, hx, hy, hxy⟩ := hP.1 i hi
  subst e
  unfold mtc at hm
  rw [e7, e8] at hm
  rcases hm with ⟨h1, h2⟩ | ⟨h1, h2⟩
  · exact hxy ((eq_of_nI h1 (by omega) (by omega)).trans (eq_of_nI h2 (by omega) (by omega)).symm)
  · exact hxy ((eq_of_nI h1 (by omega) (by omega)).trans (eq_of_nI h2 (by omega) (by omega)).symm)
theorem lc_addSource (l : Launch) (hst : l.stackTraces = false) {D : va_G} {cT ac am : Nat → Nat} {aD b N sz : Nat} {xs : Nat → Int32} {σ μ : Sg} {o : Nat → Int64} {u : Nat → UInt64} {k n : Nat} {x5 : Int32} (hC : CP σ μ) (hv : ∀ c : Int32, c = 1 ∨ c = 2 ∨ c = 3 ∨ c = 4 → vp_in (x5 + c) N) (hk : k + 5 ≤ 646177 ∧ n + 30 ≤ 7157572) (kk : ∀ (σ1 μ1 : Sg) (o1 : Nat → Int64) (u1 : Nat → UInt64), CP σ1 μ1 → Wl l D cT ac am aD b N sz xs 2208 x5 σ1 μ1 o1 u1 (k + 5) (n + 30)) : Wl l D cT ac am aD b N sz xs 204 x5 σ μ o u k n := by
  obtain ⟨n9, m9, p9, d9, L9, sn9, hC⟩ := hC
  refine wm_aload_n 205 rfl dL_law_204 rfl rfl ?_
  refine wm_aload_n 206 rfl dL_law_205 rfl rfl ?_
  refine wm_iload 208 rfl dL_law_206 rfl ?_
  refine wm_iconst (v := 1) 209 rfl dL_law_208 (by decide) ?_
  refine wm_iadd 210 rfl dL_law_209 ?_
  refine wl_sld 211 rfl dL_law_210 (hv 1 (Or.inl rfl)) ?_
  refine wm_aload_n 212 rfl dL_law_211 rfl rfl ?_
  refine wl_callW (ad := ac) 215 rfl dL_law_212 (w_addSource l _ (k_X4_addSource l hst hC.1.2.1.1 hC.1.2.1.2.2 _) (show ∀ E ∈ [eIA, eIS], E ∈ [eIA, eIS] by decide) o) aw_4_0 aw_3_23 ⟨by decide +kernel, by decide +kernel, (show (parseMethodDescriptor yL_addSource.desc).map (fun d => d.parameters.length) = some 3 by decide +kernel)⟩ aw_3_22 aw_3_21 ⟨Nat.le_of_ble_eq_true rfl, Nat.le_of_ble_eq_true rfl⟩ (Nat.le_of_ble_eq_true rfl) ⟨Nat.le_trans (Nat.add_le_add_left (show 2 ≤ 5 by decide) k) hk.1, Nat.le_trans (Nat.add_le_add_left (show 12 ≤ 30 by decide) n) hk.2⟩ (zImp.perm (List.Perm.refl _)) (fun σ1 o1 => lX cT ac am aD σ1 μ o1 u) (fun _ _ => zImp.perm (List.Perm.refl _)) rfl (fun k6 σ1 o1 hw => ?_)
  refine wm_istore (ls' := [(6, _), (0, _), (1, _), (2, _), (3, _), (4, _), (5, _)]) 217 rfl dL_law_215 (by decide) rfl ?_
  refine wm_aload_n 218 rfl dL_law_217 rfl rfl ?_
  refine wm_aload_n 219 rfl dL_law_218 rfl rfl ?_
  refine wm_iload 221 rfl dL_law_219 rfl ?_
  refine wm_iconst (v := 1) 222 rfl dL_law_221 (by decide) ?_
  refine wm_iadd 223 rfl dL_law_222 ?_
  refine wl_sld 224 rfl dL_law_223 (hv 1 (Or.inl rfl)) ?_
  refine wl_callVi (ad := am) 227 rfl dL_law_224 (k_X5_addSource l hC.1.2.1.2.1 hC.1.2.1.2.2 _) ca_X5_addSource cv_X5_addSource rfl aw_4_20 rfl rfl ⟨Nat.le_of_ble_eq_true rfl, Nat.le_of_ble_eq_true rfl⟩ (Nat.le_of_ble_eq_true rfl) ⟨Nat.le_trans (Nat.add_le_add_left (show 2 ≤ 5 by decide) k) hk.1, Nat.le_trans (Nat.add_le_add_left (show 12 ≤ 30 by decide) n) hk.2⟩ lX_M (fun μ1 => lX cT ac am aD σ1 μ1 o1 u) (fun _ => lX_M.symm) rfl (fun w μ1 hm => ?_)
  refine wm_istore (ls' := [(7, _), (6, _), (0, _), (1, _), (2, _), (3, _), (4, _), (5, _)]) 229 rfl dL_law_227 (by decide) rfl ?_
  refine wm_aload_n 230 rfl dL_law_229 rfl rfl ?_
  refine wl_callVi (ad := am) 233 rfl dL_law_230 (k_X5_thrown l) ca_X5_thrown cv_X5_thrown rfl aw_5_5 rfl rfl ⟨Nat.le_of_ble_eq_true rfl, Nat.le_of_ble_eq_true rfl⟩ (Nat.le_of_ble_eq_true rfl) ⟨Nat.le_trans (Nat.add_le_add_left (show 2 ≤ 5 by decide) k) hk.1, Nat.le_trans (Nat.add_le_add_left (show 12 ≤ 30 by decide) n) hk.2⟩ lX_M (fun μ2 => lX cT ac am aD σ1 μ2 o1 u) (fun _ => lX_M.symm) rfl (fun r9 μ2 h9 => ?_)
  obtain ⟨rfl, rfl⟩ := h9
  obtain ⟨v9, hc9, hf9⟩ := hw
  have ha := q_addSource hC hc9 hm
  refine wm_iload 235 rfl dL_law_233 rfl ?_
  refine wm_icmp_eq 240 238 rfl (by decide) dL_law_235 (fun _ => ?_) (fun c9 => absurd ha.1 c9)
  refine wm_iload 242 rfl dL_law_240 rfl ?_
  refine wm_if_ne 257 245 rfl (by decide) dL_law_242 (fun _ => ?_) (fun c6 => ?_)
  · refine wm_goto 2208 (by decide) dL_law_257 ?_
    refine wm_loc (ls2 := [(0, .ref b), (1, .ref (ac 0)), (2, .ref (am 0)), (3, .ref (ac 27)), (4, .ref aD), (5, .int x5)]) [2, 3, 4, 5, 6, 7] rfl ?_
    refine wl_widen (k1 := k + 5) (n1 := n + 30) (by omega) (by omega) ?_
    exact kk _ _ _ _ ha.2.2
  · obtain hv9 := ha.2.1 c6
    have hf9 := hf9 c6
    subst hv9
    refine wm_aload_n 246 rfl dL_law_245 rfl rfl ?_
    refine wm_iconst (v := 0) 247 rfl dL_law_246 (by decide) ?_
    refine wl_lald 248 rfl dL_law_247 vin01 ?_
    refine wm_iload 250 rfl dL_law_248 rfl ?_
    refine wm_i2l 251 rfl dL_law_250 ?_
    refine wm_lcmp 252 rfl dL_law_251 ?_
    refine wm_if_eq 257 255 rfl (by decide) dL_law_252 (fun _ => ?_) (fun c8 => absurd ((lg_cmp_eq _ _).mpr hf9) c8)
    refine wm_goto 2208 (by decide) dL_law_257 ?_
    refine wm_loc (ls2 := [(0, .ref b), (1, .ref (ac 0)), (2, .ref (am 0)), (3, .ref (ac 27)), (4, .ref aD), (5, .int x5)]) [2, 3, 4, 5, 6, 7] rfl ?_
    refine wl_widen (k1 := k + 5) (n1 := n + 30) (by omega) (by omega) ?_
    exact kk _ _ _ _ ha.2.2
theorem lc_setTrust (l : Launch) (hst : l.stackTraces = false) {D : va_G} {cT ac am : Nat → Nat} {aD b N sz : Nat} {xs : Nat → Int32} {σ μ : Sg} {o : Nat → Int64} {u : Nat → UInt64} {k n : Nat} {x5 : Int32} (hC : CP σ μ) (hv : ∀ c : Int32, c = 1 ∨ c = 2 ∨ c = 3 ∨ c = 4 → vp_in (x5 + c) N) (hk : k + 5 ≤ 646177 ∧ n + 30 ≤ 7157572) (kk : ∀ (σ1 μ1 : Sg) (o1 : Nat → Int64) (u1 : Nat → UInt64), CP σ1 μ1 → Wl l D cT ac am aD b N sz xs 2208 x5 σ1 μ1 o1 u1 (k + 5) (n + 30)) : Wl l D cT ac am aD b N sz xs 260 x5 σ μ o u k n := by
  obtain ⟨n9, m9, p9, d9, L9, sn9, hC⟩ := hC
  refine wm_aload_n 261 rfl dL_law_260 rfl rfl ?_
  refine wm_aload_n 262 rfl dL_law_261 rfl rfl ?_
  refine wm_iload 264 rfl dL_law_262 rfl ?_
  refine wm_iconst (v := 1) 265 rfl dL_law_264 (by decide) ?_
  refine wm_iadd 266 rfl dL_law_265 ?_
  refine wl_sld 267 rfl dL_law_266 (hv 1 (Or.inl rfl)) ?_
  refine wm_aload_n 268 rfl dL_law_267 rfl rfl ?_
  refine wm_iload 270 rfl dL_law_268 rfl ?_
  refine wm_iconst (v := 2) 271 rfl dL_law_270 (by decide) ?_
  refine wm_iadd 272 rfl dL_law_271 ?_
  refine wl_sld 273 rfl dL_law_272 (hv 2 (Or.inr (Or.inl rfl))) ?_
  refine wm_aload_n 274 rfl dL_law_273 rfl rfl ?_
  refine wl_callW (ad := ac) 277 rfl dL_law_274 (w_setTrust l _ _ (k_X4_setTrust l hst hC.1.2.1.1 hC.1.2.1.2.2 _ _) (show ∀ E ∈ [eIO, eIA], E ∈ [eIO, eIA] by decide) o) aw_5_11 aw_3_23 ⟨by decide +kernel, by decide +kernel, (show (parseMethodDescriptor yL_setTrust.desc).map (fun d => d.parameters.length) = some 4 by decide +kernel)⟩ aw_5_10 aw_5_9 ⟨Nat.le_of_ble_eq_true rfl, Nat.le_of_ble_eq_true rfl⟩ (Nat.le_of_ble_eq_true rfl) ⟨Nat.le_trans (Nat.add_le_add_left (show 2 ≤ 5 by decide) k) hk.1, Nat.le_trans (Nat.add_le_add_left (show 12 ≤ 30 by decide) n) hk.2⟩ (zImp.perm (List.Perm.refl _)) (fun σ1 o1 => lX cT ac am aD σ1 μ o1 u) (fun _ _ => zImp.perm (List.Perm.refl _)) rfl (fun k6 σ1 o1 hw => ?_)
  refine wm_istore (ls' := [(6, _), (0, _), (1, _), (2, _), (3, _), (4, _), (5, _)]) 279 rfl dL_law_277 (by decide) rfl ?_
  refine wm_aload_n 280 rfl dL_law_279 rfl rfl ?_
  refine wm_aload_n 281 rfl dL_law_280 rfl rfl ?_
  refine wm_iload 283 rfl dL_law_281 rfl ?_
  refine wm_iconst (v := 1) 284 rfl dL_law_283 (by decide) ?_
  refine wm_iadd 285 rfl dL_law_284 ?_
  refine wl_sld 286 rfl dL_law_285 (hv 1 (Or.inl rfl)) ?_
  refine wm_aload_n 287 rfl dL_law_286 rfl rfl ?_
  refine wm_iload 289 rfl dL_law_287 rfl ?_
  refine wm_iconst (v := 2) 290 rfl dL_law_289 (by decide) ?_
  refine wm_iadd 291 rfl dL_law_290 ?_
  refine wl_sld 292 rfl dL_law_291 (hv 2 (Or.inr (Or.inl rfl))) ?_
  refine wl_callVi (ad := am) 295 rfl dL_law_292 (k_X5_setTrust l hC.1.2.1.2.1 hC.1.2.1.2.2 _ _) ca_X5_setTrust cv_X5_setTrust rfl aw_6_0 rfl rfl ⟨Nat.le_of_ble_eq_true rfl, Nat.le_of_ble_eq_true rfl⟩ (Nat.le_of_ble_eq_true rfl) ⟨Nat.le_trans (Nat.add_le_add_left (show 2 ≤ 5 by decide) k) hk.1, Nat.le_trans (Nat.add_le_add_left (show 12 ≤ 30 by decide) n) hk.2⟩ lX_M (fun μ1 => lX cT ac am aD σ1 μ1 o1 u) (fun _ => lX_M.symm) rfl (fun w μ1 hm => ?_)
  refine wm_istore (ls' := [(7, _), (6, _), (0, _), (1, _), (2, _), (3, _), (4, _), (5, _)]) 297 rfl dL_law_295 (by decide) rfl ?_
  refine wm_aload_n 298 rfl dL_law_297 rfl rfl ?_
  refine wl_callVi (ad := am) 301 rfl dL_law_298 (k_X5_thrown l) ca_X5_thrown cv_X5_thrown rfl aw_5_5 rfl rfl ⟨Nat.le_of_ble_eq_true rfl, Nat.le_of_ble_eq_true rfl⟩ (Nat.le_of_ble_eq_true rfl) ⟨Nat.le_trans (Nat.add_le_add_left (show 2 ≤ 5 by decide) k) hk.1, Nat.le_trans (Nat.add_le_add_left (show 12 ≤ 30 by decide) n) hk.2⟩ lX_M (fun μ2 => lX cT ac am aD σ1 μ2 o1 u) (fun _ => lX_M.symm) rfl (fun r9 μ2 h9 => ?_)
  obtain ⟨rfl, rfl⟩ := h9
  obtain ⟨v9, hc9, hf9⟩ := hw
  have ha := q_setTrust hC hc9 hm
  refine wm_iload 303 rfl dL_law_301 rfl ?_
  refine wm_icmp_eq 308 306 rfl (by decide) dL_law_303 (fun _ => ?_) (fun c9 => absurd ha.1 c9)
  refine wm_iload 310 rfl dL_law_308 rfl ?_
  refine wm_if_ne 325 313 rfl (by decide) dL_law_310 (fun _ => ?_) (fun c6 => ?_)
  · refine wm_goto 2208 (by decide) dL_law_325 ?_
    refine wm_loc (ls2 := [(0, .ref b), (1, .ref (ac 0)), (2, .ref (am 0)), (3, .ref (ac 27)), (4, .ref aD), (5, .int x5)]) [2, 3, 4, 5, 6, 7] rfl ?_
    refine wl_widen (k1 := k + 5) (n1 := n + 30) (by omega) (by omega) ?_
    exact kk _ _ _ _ ha.2.2
  · obtain hv9 := ha.2.1 c6
    have hf9 := hf9 c6
    subst hv9
    refine wm_aload_n 314 rfl dL_law_313 rfl rfl ?_
    refine wm_iconst (v := 0) 315 rfl dL_law_314 (by decide) ?_
    refine wl_lald 316 rfl dL_law_315 vin01 ?_
    refine wm_iload 318 rfl dL_law_316 rfl ?_
    refine wm_i2l 319 rfl dL_law_318 ?_
    refine wm_lcmp 320 rfl dL_law_319 ?_
    refine wm_if_eq 325 323 rfl (by decide) dL_law_320 (fun _ => ?_) (fun c8 => absurd ((lg_cmp_eq _ _).mpr hf9) c8)
    refine wm_goto 2208 (by decide) dL_law_325 ?_
    refine wm_loc (ls2 := [(0, .ref b), (1, .ref (ac 0)), (2, .ref (am 0)), (3, .ref (ac 27)), (4, .ref aD), (5, .int x5)]) [2, 3, 4, 5, 6, 7] rfl ?_
    refine wl_widen (k1 := k + 5) (n1 := n + 30) (by omega) (by omega) ?_
    exact kk _ _ _ _ ha.2.2
theorem lc_addRecord (l : Launch) (hst : l.stackTraces = false) {D : va_G} {cT ac am : Nat → Nat} {aD b N sz : Nat} {xs : Nat → Int32} {σ μ : Sg} {o : Nat → Int64} {u : Nat → UInt64} {k n : Nat} {x5 : Int32} (hC : CP σ μ) (hv : ∀ c : Int32, c = 1 ∨ c = 2 ∨ c = 3 ∨ c = 4 → vp_in (x5 + c) N) (hk : k + 5 ≤ 646177 ∧ n + 30 ≤ 7157572) (kk : ∀ (σ1 μ1 : Sg) (o1 : Nat → Int64) (u1 : Nat → UInt64), CP σ1 μ1 → Wl l D cT ac am aD b N sz xs 2208 x5 σ1 μ1 o1 u1 (k + 5) (n + 30)) : Wl l D cT ac am aD b N sz xs 328 x5 σ μ o u k n := by
  obtain ⟨n9, m9, p9, d9, L9, sn9, hC⟩ := hC
  refine wm_aload_n 329 rfl dL_law_328 rfl rfl ?_
  refine wm_aload_n 330 rfl dL_law_329 rfl rfl ?_
  refine wm_iload 332 rfl dL_law_330 rfl ?_
  refine wm_iconst (v := 1) 333 rfl dL_law_332 (by decide) ?_
  refine wm_iadd 334 rfl dL_law_333 ?_
  refine wl_sld 335 rfl dL_law_334 (hv 1 (Or.inl rfl)) ?_
  refine wm_aload_n 336 rfl dL_law_335 rfl rfl ?_
  refine wm_iload 338 rfl dL_law_336 rfl ?_
  refine wm_iconst (v := 2) 339 rfl dL_law_338 (by decide) ?_
  refine wm_iadd 340 rfl dL_law_339 ?_
  refine wl_sld 341 rfl dL_law_340 (hv 2 (Or.inr (Or.inl rfl))) ?_
  refine wm_aload_n 342 rfl dL_law_341 rfl rfl ?_
  refine wm_iload 344 rfl dL_law_342 rfl ?_
  refine wm_iconst (v := 3) 345 rfl dL_law_344 (by decide) ?_
  refine wm_iadd 346 rfl dL_law_345 ?_
  refine wl_sld 347 rfl dL_law_346 (hv 3 (Or.inr (Or.inr (Or.inl rfl)))) ?_
  refine wm_aload_n 348 rfl dL_law_347 rfl rfl ?_
  refine wm_iload 350 rfl dL_law_348 rfl ?_
  refine wm_iconst (v := 4) 351 rfl dL_law_350 (by decide) ?_
  refine wm_iadd 352 rfl dL_law_351 ?_
  refine wl_sld 353 rfl dL_law_352 (hv 4 (Or.inr (Or.inr (Or.inr rfl)))) ?_
  refine wm_aload_n 354 rfl dL_law_353 rfl rfl ?_
  refine wl_callW (ad := ac) 357 rfl dL_law_354 (w_addRecord l _ _ _ _ (k_X4_addRecord l hst hC.cI hC.1.2.1.1 hC.1.2.1.2.2 _ _ _ _) (show ∀ E ∈ [eIO, eIA, eIA, eIA, eIS], E ∈ [eIO, eIA, eIS] by decide) o) aw_6_6 aw_3_23 ⟨by decide +kernel, by decide +kernel, (show (parseMethodDescriptor yL_addRecord.desc).map (fun d => d.parameters.length) = some 6 by decide +kernel)⟩ aw_6_5 aw_6_4 ⟨Nat.le_of_ble_eq_true rfl, Nat.le_of_ble_eq_true rfl⟩ (Nat.le_of_ble_eq_true rfl) ⟨Nat.le_trans (Nat.add_le_add_left (show 5 ≤ 5 by decide) k) hk.1, Nat.le_trans (Nat.add_le_add_left (show 30 ≤ 30 by decide) n) hk.2⟩ (zImp.perm (List.Perm.refl _)) (fun σ1 o1 => lX cT ac am aD σ1 μ o1 u) (fun _ _ => zImp.perm (List.Perm.refl _)) rfl (fun k6 σ1 o1 hw => ?_)
  refine wm_istore (ls' := [(6, _), (0, _), (1, _), (2, _), (3, _), (4, _), (5, _)]) 359 rfl dL_law_357 (by decide) rfl ?_
  refine wm_aload_n 360 rfl dL_law_359 rfl rfl ?_
  refine wm_aload_n 361 rfl dL_law_360 rfl rfl ?_
  refine wm_iload 363 rfl dL_law_361 rfl ?_
  refine wm_iconst (v := 1) 364 rfl dL_law_363 (by decide) ?_
  refine wm_iadd 365 rfl dL_law_364 ?_
  refine wl_sld 366 rfl dL_law_365 (hv 1 (Or.inl rfl)) ?_
  refine wm_aload_n 367 rfl dL_law_366 rfl rfl ?_
  refine wm_iload 369 rfl dL_law_367 rfl ?_
  refine wm_iconst (v := 2) 370 rfl dL_law_369 (by decide) ?_
  refine wm_iadd 371 rfl dL_law_370 ?_
  refine wl_sld 372 rfl dL_law_371 (hv 2 (Or.inr (Or.inl rfl))) ?_
  refine wm_aload_n 373 rfl dL_law_372 rfl rfl ?_
  refine wm_iload 375 rfl dL_law_373 rfl ?_
  refine wm_iconst (v := 3) 376 rfl dL_law_375 (by decide) ?_
  refine wm_iadd 377 rfl dL_law_376 ?_
  refine wl_sld 378 rfl dL_law_377 (hv 3 (Or.inr (Or.inr (Or.inl rfl)))) ?_
  refine wm_aload_n 379 rfl dL_law_378 rfl rfl ?_
  refine wm_iload 381 rfl dL_law_379 rfl ?_
  refine wm_iconst (v := 4) 382 rfl dL_law_381 (by decide) ?_
  refine wm_iadd 383 rfl dL_law_382 ?_
  refine wl_sld 384 rfl dL_law_383 (hv 4 (Or.inr (Or.inr (Or.inr rfl)))) ?_
  refine wl_callVi (ad := am) 387 rfl dL_law_384 (k_X5_addRecord l hC.mI hC.1.2.1.2.1 hC.1.2.1.2.2 _ _ _ _) ca_X5_addRecord cv_X5_addRecord rfl aw_7_0 rfl rfl ⟨Nat.le_of_ble_eq_true rfl, Nat.le_of_ble_eq_true rfl⟩ (Nat.le_of_ble_eq_true rfl) ⟨Nat.le_trans (Nat.add_le_add_left (show 5 ≤ 5 by decide) k) hk.1, Nat.le_trans (Nat.add_le_add_left (show 30 ≤ 30 by decide) n) hk.2⟩ lX_M (fun μ1 => lX cT ac am aD σ1 μ1 o1 u) (fun _ => lX_M.symm) rfl (fun w μ1 hm => ?_)
  refine wm_istore (ls' := [(7, _), (6, _), (0, _), (1, _), (2, _), (3, _), (4, _), (5, _)]) 389 rfl dL_law_387 (by decide) rfl ?_
  refine wm_aload_n 390 rfl dL_law_389 rfl rfl ?_
  refine wl_callVi (ad := am) 393 rfl dL_law_390 (k_X5_thrown l) ca_X5_thrown cv_X5_thrown rfl aw_5_5 rfl rfl ⟨Nat.le_of_ble_eq_true rfl, Nat.le_of_ble_eq_true rfl⟩ (Nat.le_of_ble_eq_true rfl) ⟨Nat.le_trans (Nat.add_le_add_left (show 5 ≤ 5 by decide) k) hk.1, Nat.le_trans (Nat.add_le_add_left (show 30 ≤ 30 by decide) n) hk.2⟩ lX_M (fun μ2 => lX cT ac am aD σ1 μ2 o1 u) (fun _ => lX_M.symm) rfl (fun r9 μ2 h9 => ?_)
  obtain ⟨rfl, rfl⟩ := h9
  obtain ⟨v9, hc9, hf9⟩ := hw
  have ha := q_addRecord hC hc9 hm
  refine wm_iload 395 rfl dL_law_393 rfl ?_
  refine wm_icmp_eq 400 398 rfl (by decide) dL_law_395 (fun _ => ?_) (fun c9 => absurd ha.1 c9)
  refine wm_iload 402 rfl dL_law_400 rfl ?_
  refine wm_if_ne 417 405 rfl (by decide) dL_law_402 (fun _ => ?_) (fun c6 => ?_)
  · refine wm_goto 2208 (by decide) dL_law_417 ?_
    refine wm_loc (ls2 := [(0, .ref b), (1, .ref (ac 0)), (2, .ref (am 0)), (3, .ref (ac 27)), (4, .ref aD), (5, .int x5)]) [2, 3, 4, 5, 6, 7] rfl ?_
    refine wl_widen (k1 := k + 5) (n1 := n + 30) (by omega) (by omega) ?_
    exact kk _ _ _ _ ha.2.2
  · obtain hv9 := ha.2.1 c6
    have hf9 := hf9 c6
    subst hv9
    refine wm_aload_n 406 rfl dL_law_405 rfl rfl ?_
    refine wm_iconst (v := 0) 407 rfl dL_law_406 (by decide) ?_
    refine wl_lald 408 rfl dL_law_407 vin01 ?_
    refine wm_iload 410 rfl dL_law_408 rfl ?_
    refine wm_i2l 411 rfl dL_law_410 ?_
    refine wm_lcmp 412 rfl dL_law_411 ?_
    refine wm_if_eq 417 415 rfl (by decide) dL_law_412 (fun _ => ?_) (fun c8 => absurd ((lg_cmp_eq _ _).mpr hf9) c8)
    refine wm_goto 2208 (by decide) dL_law_417 ?_
    refine wm_loc (ls2 := [(0, .ref b), (1, .ref (ac 0)), (2, .ref (am 0)), (3, .ref (ac 27)), (4, .ref aD), (5, .int x5)]) [2, 3, 4, 5, 6, 7] rfl ?_
    refine wl_widen (k1 := k + 5) (n1 := n + 30) (by omega) (by omega) ?_
    exact kk _ _ _ _ ha.2.2
theorem lc_setKey (l : Launch) (hst : l.stackTraces = false) {D : va_G} {cT ac am : Nat → Nat} {aD b N sz : Nat} {xs : Nat → Int32} {σ μ : Sg} {o : Nat → Int64} {u : Nat → UInt64} {k n : Nat} {x5 : Int32} (hC : CP σ μ) (hv : ∀ c : Int32, c = 1 ∨ c = 2 ∨ c = 3 ∨ c = 4 → vp_in (x5 + c) N) (hk : k + 5 ≤ 646177 ∧ n + 30 ≤ 7157572) (kk : ∀ (σ1 μ1 : Sg) (o1 : Nat → Int64) (u1 : Nat → UInt64), CP σ1 μ1 → Wl l D cT ac am aD b N sz xs 2208 x5 σ1 μ1 o1 u1 (k + 5) (n + 30)) : Wl l D cT ac am aD b N sz xs 420 x5 σ μ o u k n := by
  obtain ⟨n9, m9, p9, d9, L9, sn9, hC⟩ := hC
  refine wm_aload_n 421 rfl dL_law_420 rfl rfl ?_
  refine wm_aload_n 422 rfl dL_law_421 rfl rfl ?_
  refine wm_iload 424 rfl dL_law_422 rfl ?_
  refine wm_iconst (v := 1) 425 rfl dL_law_424 (by decide) ?_
  refine wm_iadd 426 rfl dL_law_425 ?_
  refine wl_sld 427 rfl dL_law_426 (hv 1 (Or.inl rfl)) ?_
  refine wm_aload_n 428 rfl dL_law_427 rfl rfl ?_
  refine wm_iload 430 rfl dL_law_428 rfl ?_
  refine wm_iconst (v := 2) 431 rfl dL_law_430 (by decide) ?_
  refine wm_iadd 432 rfl dL_law_431 ?_
  refine wl_sld 433 rfl dL_law_432 (hv 2 (Or.inr (Or.inl rfl))) ?_
  refine wm_aload_n 434 rfl dL_law_433 rfl rfl ?_
  refine wm_iload 436 rfl dL_law_434 rfl ?_
  refine wm_iconst (v := 3) 437 rfl dL_law_436 (by decide) ?_
  refine wm_iadd 438 rfl dL_law_437 ?_
  refine wl_sld 439 rfl dL_law_438 (hv 3 (Or.inr (Or.inr (Or.inl rfl)))) ?_
  refine wm_aload_n 440 rfl dL_law_439 rfl rfl ?_
  refine wl_callW (ad := ac) 443 rfl dL_law_440 (w_setKey l _ _ _ (k_X4_setKey l hst hC.cI _ _ _) (show ∀ E ∈ [eIO, eIO, eIA], E ∈ [eIO, eIA] by decide) o) aw_7_11 aw_3_23 ⟨by decide +kernel, by decide +kernel, (show (parseMethodDescriptor yL_setKey.desc).map (fun d => d.parameters.length) = some 5 by decide +kernel)⟩ aw_7_10 aw_7_9 ⟨Nat.le_of_ble_eq_true rfl, Nat.le_of_ble_eq_true rfl⟩ (Nat.le_of_ble_eq_true rfl) ⟨Nat.le_trans (Nat.add_le_add_left (show 3 ≤ 5 by decide) k) hk.1, Nat.le_trans (Nat.add_le_add_left (show 18 ≤ 30 by decide) n) hk.2⟩ (zImp.perm (List.Perm.refl _)) (fun σ1 o1 => lX cT ac am aD σ1 μ o1 u) (fun _ _ => zImp.perm (List.Perm.refl _)) rfl (fun k6 σ1 o1 hw => ?_)
  refine wm_istore (ls' := [(6, _), (0, _), (1, _), (2, _), (3, _), (4, _), (5, _)]) 445 rfl dL_law_443 (by decide) rfl ?_
  refine wm_aload_n 446 rfl dL_law_445 rfl rfl ?_
  refine wm_aload_n 447 rfl dL_law_446 rfl rfl ?_
  refine wm_iload 449 rfl dL_law_447 rfl ?_
  refine wm_iconst (v := 1) 450 rfl dL_law_449 (by decide) ?_
  refine wm_iadd 451 rfl dL_law_450 ?_
  refine wl_sld 452 rfl dL_law_451 (hv 1 (Or.inl rfl)) ?_
  refine wm_aload_n 453 rfl dL_law_452 rfl rfl ?_
  refine wm_iload 455 rfl dL_law_453 rfl ?_
  refine wm_iconst (v := 2) 456 rfl dL_law_455 (by decide) ?_
  refine wm_iadd 457 rfl dL_law_456 ?_
  refine wl_sld 458 rfl dL_law_457 (hv 2 (Or.inr (Or.inl rfl))) ?_
  refine wm_aload_n 459 rfl dL_law_458 rfl rfl ?_
  refine wm_iload 461 rfl dL_law_459 rfl ?_
  refine wm_iconst (v := 3) 462 rfl dL_law_461 (by decide) ?_
  refine wm_iadd 463 rfl dL_law_462 ?_
  refine wl_sld 464 rfl dL_law_463 (hv 3 (Or.inr (Or.inr (Or.inl rfl)))) ?_
  refine wl_callVi (ad := am) 467 rfl dL_law_464 (k_X5_setKey l hC.mI _ _ _) ca_X5_setKey cv_X5_setKey rfl aw_8_6 rfl rfl ⟨Nat.le_of_ble_eq_true rfl, Nat.le_of_ble_eq_true rfl⟩ (Nat.le_of_ble_eq_true rfl) ⟨Nat.le_trans (Nat.add_le_add_left (show 3 ≤ 5 by decide) k) hk.1, Nat.le_trans (Nat.add_le_add_left (show 18 ≤ 30 by decide) n) hk.2⟩ lX_M (fun μ1 => lX cT ac am aD σ1 μ1 o1 u) (fun _ => lX_M.symm) rfl (fun w μ1 hm => ?_)
  refine wm_istore (ls' := [(7, _), (6, _), (0, _), (1, _), (2, _), (3, _), (4, _), (5, _)]) 469 rfl dL_law_467 (by decide) rfl ?_
  refine wm_aload_n 470 rfl dL_law_469 rfl rfl ?_
  refine wl_callVi (ad := am) 473 rfl dL_law_470 (k_X5_thrown l) ca_X5_thrown cv_X5_thrown rfl aw_5_5 rfl rfl ⟨Nat.le_of_ble_eq_true rfl, Nat.le_of_ble_eq_true rfl⟩ (Nat.le_of_ble_eq_true rfl) ⟨Nat.le_trans (Nat.add_le_add_left (show 3 ≤ 5 by decide) k) hk.1, Nat.le_trans (Nat.add_le_add_left (show 18 ≤ 30 by decide) n) hk.2⟩ lX_M (fun μ2 => lX cT ac am aD σ1 μ2 o1 u) (fun _ => lX_M.symm) rfl (fun r9 μ2 h9 => ?_)
  obtain ⟨rfl, rfl⟩ := h9
  obtain ⟨v9, hc9, hf9⟩ := hw
  have ha := q_setKey hC hc9 hm
  refine wm_iload 475 rfl dL_law_473 rfl ?_
  refine wm_icmp_eq 480 478 rfl (by decide) dL_law_475 (fun _ => ?_) (fun c9 => absurd ha.1 c9)
  refine wm_iload 482 rfl dL_law_480 rfl ?_
  refine wm_if_ne 497 485 rfl (by decide) dL_law_482 (fun _ => ?_) (fun c6 => ?_)
  · refine wm_goto 2208 (by decide) dL_law_497 ?_
    refine wm_loc (ls2 := [(0, .ref b), (1, .ref (ac 0)), (2, .ref (am 0)), (3, .ref (ac 27)), (4, .ref aD), (5, .int x5)]) [2, 3, 4, 5, 6, 7] rfl ?_
    refine wl_widen (k1 := k + 5) (n1 := n + 30) (by omega) (by omega) ?_
    exact kk _ _ _ _ ha.2.2
  · obtain hv9 := ha.2.1 c6
    have hf9 := hf9 c6
    subst hv9
    refine wm_aload_n 486 rfl dL_law_485 rfl rfl ?_
    refine wm_iconst (v := 0) 487 rfl dL_law_486 (by decide) ?_
    refine wl_lald 488 rfl dL_law_487 vin01 ?_
    refine wm_iload 490 rfl dL_law_488 rfl ?_
    refine wm_i2l 491 rfl dL_law_490 ?_
    refine wm_lcmp 492 rfl dL_law_491 ?_
    refine wm_if_eq 497 495 rfl (by decide) dL_law_492 (fun _ => ?_) (fun c8 => absurd ((lg_cmp_eq _ _).mpr hf9) c8)
    refine wm_goto 2208 (by decide) dL_law_497 ?_
    refine wm_loc (ls2 := [(0, .ref b), (1, .ref (ac 0)), (2, .ref (am 0)), (3, .ref (ac 27)), (4, .ref aD), (5, .int x5)]) [2, 3, 4, 5, 6, 7] rfl ?_
    refine wl_widen (k1 := k + 5) (n1 := n + 30) (by omega) (by omega) ?_
    exact kk _ _ _ _ ha.2.2
theorem lc_setFact (l : Launch) (hst : l.stackTraces = false) {D : va_G} {cT ac am : Nat → Nat} {aD b N sz : Nat} {xs : Nat → Int32} {σ μ : Sg} {o : Nat → Int64} {u : Nat → UInt64} {k n : Nat} {x5 : Int32} (hC : CP σ μ) (hv : ∀ c : Int32, c = 1 ∨ c = 2 ∨ c = 3 ∨ c = 4 → vp_in (x5 + c) N) (hk : k + 5 ≤ 646177 ∧ n + 30 ≤ 7157572) (kk : ∀ (σ1 μ1 : Sg) (o1 : Nat → Int64) (u1 : Nat → UInt64), CP σ1 μ1 → Wl l D cT ac am aD b N sz xs 2208 x5 σ1 μ1 o1 u1 (k + 5) (n + 30)) : Wl l D cT ac am aD b N sz xs 500 x5 σ μ o u k n := by
  obtain ⟨n9, m9, p9, d9, L9, sn9, hC⟩ := hC
  refine wm_aload_n 501 rfl dL_law_500 rfl rfl ?_
  refine wm_aload_n 502 rfl dL_law_501 rfl rfl ?_
  refine wm_iload 504 rfl dL_law_502 rfl ?_
  refine wm_iconst (v := 1) 505 rfl dL_law_504 (by decide) ?_
  refine wm_iadd 506 rfl dL_law_505 ?_
  refine wl_sld 507 rfl dL_law_506 (hv 1 (Or.inl rfl)) ?_
  refine wm_aload_n 508 rfl dL_law_507 rfl rfl ?_
  refine wm_iload 510 rfl dL_law_508 rfl ?_
  refine wm_iconst (v := 2) 511 rfl dL_law_510 (by decide) ?_
  refine wm_iadd 512 rfl dL_law_511 ?_
  refine wl_sld 513 rfl dL_law_512 (hv 2 (Or.inr (Or.inl rfl))) ?_
  refine wm_aload_n 514 rfl dL_law_513 rfl rfl ?_
  refine wm_iload 516 rfl dL_law_514 rfl ?_
  refine wm_iconst (v := 3) 517 rfl dL_law_516 (by decide) ?_
  refine wm_iadd 518 rfl dL_law_517 ?_
  refine wl_sld 519 rfl dL_law_518 (hv 3 (Or.inr (Or.inr (Or.inl rfl)))) ?_
  refine wm_aload_n 520 rfl dL_law_519 rfl rfl ?_
  refine wl_callW (ad := ac) 523 rfl dL_law_520 (w_setFact l _ _ _ (k_X4_setFact l hst hC.cI _ _ _) (show ∀ E ∈ [eIO, eIO, eIA], E ∈ [eIO, eIA] by decide) o) aw_8_16 aw_3_23 ⟨by decide +kernel, by decide +kernel, (show (parseMethodDescriptor yL_setFact.desc).map (fun d => d.parameters.length) = some 5 by decide +kernel)⟩ aw_8_15 aw_8_14 ⟨Nat.le_of_ble_eq_true rfl, Nat.le_of_ble_eq_true rfl⟩ (Nat.le_of_ble_eq_true rfl) ⟨Nat.le_trans (Nat.add_le_add_left (show 3 ≤ 5 by decide) k) hk.1, Nat.le_trans (Nat.add_le_add_left (show 18 ≤ 30 by decide) n) hk.2⟩ (zImp.perm (List.Perm.refl _)) (fun σ1 o1 => lX cT ac am aD σ1 μ o1 u) (fun _ _ => zImp.perm (List.Perm.refl _)) rfl (fun k6 σ1 o1 hw => ?_)
  refine wm_istore (ls' := [(6, _), (0, _), (1, _), (2, _), (3, _), (4, _), (5, _)]) 525 rfl dL_law_523 (by decide) rfl ?_
  refine wm_aload_n 526 rfl dL_law_525 rfl rfl ?_
  refine wm_aload_n 527 rfl dL_law_526 rfl rfl ?_
  refine wm_iload 529 rfl dL_law_527 rfl ?_
  refine wm_iconst (v := 1) 530 rfl dL_law_529 (by decide) ?_
  refine wm_iadd 531 rfl dL_law_530 ?_
  refine wl_sld 532 rfl dL_law_531 (hv 1 (Or.inl rfl)) ?_
  refine wm_aload_n 533 rfl dL_law_532 rfl rfl ?_
  refine wm_iload 535 rfl dL_law_533 rfl ?_
  refine wm_iconst (v := 2) 536 rfl dL_law_535 (by decide) ?_
  refine wm_iadd 537 rfl dL_law_536 ?_
  refine wl_sld 538 rfl dL_law_537 (hv 2 (Or.inr (Or.inl rfl))) ?_
  refine wm_aload_n 539 rfl dL_law_538 rfl rfl ?_
  refine wm_iload 541 rfl dL_law_539 rfl ?_
  refine wm_iconst (v := 3) 542 rfl dL_law_541 (by decide) ?_
  refine wm_iadd 543 rfl dL_law_542 ?_
  refine wl_sld 544 rfl dL_law_543 (hv 3 (Or.inr (Or.inr (Or.inl rfl)))) ?_
  refine wl_callVi (ad := am) 547 rfl dL_law_544 (k_X5_setFact l hC.mI _ _ _) ca_X5_setFact cv_X5_setFact rfl aw_9_1 rfl rfl ⟨Nat.le_of_ble_eq_true rfl, Nat.le_of_ble_eq_true rfl⟩ (Nat.le_of_ble_eq_true rfl) ⟨Nat.le_trans (Nat.add_le_add_left (show 3 ≤ 5 by decide) k) hk.1, Nat.le_trans (Nat.add_le_add_left (show 18 ≤ 30 by decide) n) hk.2⟩ lX_M (fun μ1 => lX cT ac am aD σ1 μ1 o1 u) (fun _ => lX_M.symm) rfl (fun w μ1 hm => ?_)
  refine wm_istore (ls' := [(7, _), (6, _), (0, _), (1, _), (2, _), (3, _), (4, _), (5, _)]) 549 rfl dL_law_547 (by decide) rfl ?_
  refine wm_aload_n 550 rfl dL_law_549 rfl rfl ?_
  refine wl_callVi (ad := am) 553 rfl dL_law_550 (k_X5_thrown l) ca_X5_thrown cv_X5_thrown rfl aw_5_5 rfl rfl ⟨Nat.le_of_ble_eq_true rfl, Nat.le_of_ble_eq_true rfl⟩ (Nat.le_of_ble_eq_true rfl) ⟨Nat.le_trans (Nat.add_le_add_left (show 3 ≤ 5 by decide) k) hk.1, Nat.le_trans (Nat.add_le_add_left (show 18 ≤ 30 by decide) n) hk.2⟩ lX_M (fun μ2 => lX cT ac am aD σ1 μ2 o1 u) (fun _ => lX_M.symm) rfl (fun r9 μ2 h9 => ?_)
  obtain ⟨rfl, rfl⟩ := h9
  obtain ⟨v9, hc9, hf9⟩ := hw
  have ha := q_setFact hC hc9 hm
  refine wm_iload 555 rfl dL_law_553 rfl ?_
  refine wm_icmp_eq 560 558 rfl (by decide) dL_law_555 (fun _ => ?_) (fun c9 => absurd ha.1 c9)
  refine wm_iload 562 rfl dL_law_560 rfl ?_
  refine wm_if_ne 577 565 rfl (by decide) dL_law_562 (fun _ => ?_) (fun c6 => ?_)
  · refine wm_goto 2208 (by decide) dL_law_577 ?_
    refine wm_loc (ls2 := [(0, .ref b), (1, .ref (ac 0)), (2, .ref (am 0)), (3, .ref (ac 27)), (4, .ref aD), (5, .int x5)]) [2, 3, 4, 5, 6, 7] rfl ?_
    refine wl_widen (k1 := k + 5) (n1 := n + 30) (by omega) (by omega) ?_
    exact kk _ _ _ _ ha.2.2
  · obtain hv9 := ha.2.1 c6
    have hf9 := hf9 c6
    subst hv9
    refine wm_aload_n 566 rfl dL_law_565 rfl rfl ?_
    refine wm_iconst (v := 0) 567 rfl dL_law_566 (by decide) ?_
    refine wl_lald 568 rfl dL_law_567 vin01 ?_
    refine wm_iload 570 rfl dL_law_568 rfl ?_
    refine wm_i2l 571 rfl dL_law_570 ?_
    refine wm_lcmp 572 rfl dL_law_571 ?_
    refine wm_if_eq 577 575 rfl (by decide) dL_law_572 (fun _ => ?_) (fun c8 => absurd ((lg_cmp_eq _ _).mpr hf9) c8)
    refine wm_goto 2208 (by decide) dL_law_577 ?_
    refine wm_loc (ls2 := [(0, .ref b), (1, .ref (ac 0)), (2, .ref (am 0)), (3, .ref (ac 27)), (4, .ref aD), (5, .int x5)]) [2, 3, 4, 5, 6, 7] rfl ?_
    refine wl_widen (k1 := k + 5) (n1 := n + 30) (by omega) (by omega) ?_
    exact kk _ _ _ _ ha.2.2
theorem lc_see (l : Launch) (hst : l.stackTraces = false) {D : va_G} {cT ac am : Nat → Nat} {aD b N sz : Nat} {xs : Nat → Int32} {σ μ : Sg} {o : Nat → Int64} {u : Nat → UInt64} {k n : Nat} {x5 : Int32} (hC : CP σ μ) (hv : ∀ c : Int32, c = 1 ∨ c = 2 ∨ c = 3 ∨ c = 4 → vp_in (x5 + c) N) (hk : k + 5 ≤ 646177 ∧ n + 30 ≤ 7157572) (kk : ∀ (σ1 μ1 : Sg) (o1 : Nat → Int64) (u1 : Nat → UInt64), CP σ1 μ1 → Wl l D cT ac am aD b N sz xs 2208 x5 σ1 μ1 o1 u1 (k + 5) (n + 30)) : Wl l D cT ac am aD b N sz xs 580 x5 σ μ o u k n := by
  obtain ⟨n9, m9, p9, d9, L9, sn9, hC⟩ := hC
  refine wm_aload_n 581 rfl dL_law_580 rfl rfl ?_
  refine wm_aload_n 582 rfl dL_law_581 rfl rfl ?_
  refine wm_iload 584 rfl dL_law_582 rfl ?_
  refine wm_iconst (v := 1) 585 rfl dL_law_584 (by decide) ?_
  refine wm_iadd 586 rfl dL_law_585 ?_
  refine wl_sld 587 rfl dL_law_586 (hv 1 (Or.inl rfl)) ?_
  refine wm_aload_n 588 rfl dL_law_587 rfl rfl ?_
  refine wl_callW (ad := ac) 591 rfl dL_law_588 (w_see l _ (k_X4_see l hst hC.cI _) (show ∀ E ∈ [eIO], E ∈ [eIO] by decide) o) aw_9_7 aw_3_23 ⟨by decide +kernel, by decide +kernel, (show (parseMethodDescriptor yL_see.desc).map (fun d => d.parameters.length) = some 3 by decide +kernel)⟩ aw_9_6 aw_9_5 ⟨Nat.le_of_ble_eq_true rfl, Nat.le_of_ble_eq_true rfl⟩ (Nat.le_of_ble_eq_true rfl) ⟨Nat.le_trans (Nat.add_le_add_left (show 1 ≤ 5 by decide) k) hk.1, Nat.le_trans (Nat.add_le_add_left (show 6 ≤ 30 by decide) n) hk.2⟩ (zImp.perm (List.Perm.refl _)) (fun σ1 o1 => lX cT ac am aD σ1 μ o1 u) (fun _ _ => zImp.perm (List.Perm.refl _)) rfl (fun k6 σ1 o1 hw => ?_)
  refine wm_istore (ls' := [(6, _), (0, _), (1, _), (2, _), (3, _), (4, _), (5, _)]) 593 rfl dL_law_591 (by decide) rfl ?_
  refine wm_aload_n 594 rfl dL_law_593 rfl rfl ?_
  refine wm_aload_n 595 rfl dL_law_594 rfl rfl ?_
  refine wm_iload 597 rfl dL_law_595 rfl ?_
  refine wm_iconst (v := 1) 598 rfl dL_law_597 (by decide) ?_
  refine wm_iadd 599 rfl dL_law_598 ?_
  refine wl_sld 600 rfl dL_law_599 (hv 1 (Or.inl rfl)) ?_
  refine wl_callVi (ad := am) 603 rfl dL_law_600 (k_X5_see l hC.mI _) ca_X5_see cv_X5_see rfl aw_9_13 rfl rfl ⟨Nat.le_of_ble_eq_true rfl, Nat.le_of_ble_eq_true rfl⟩ (Nat.le_of_ble_eq_true rfl) ⟨Nat.le_trans (Nat.add_le_add_left (show 1 ≤ 5 by decide) k) hk.1, Nat.le_trans (Nat.add_le_add_left (show 6 ≤ 30 by decide) n) hk.2⟩ lX_M (fun μ1 => lX cT ac am aD σ1 μ1 o1 u) (fun _ => lX_M.symm) rfl (fun w μ1 hm => ?_)
  refine wm_istore (ls' := [(7, _), (6, _), (0, _), (1, _), (2, _), (3, _), (4, _), (5, _)]) 605 rfl dL_law_603 (by decide) rfl ?_
  refine wm_aload_n 606 rfl dL_law_605 rfl rfl ?_
  refine wl_callVi (ad := am) 609 rfl dL_law_606 (k_X5_thrown l) ca_X5_thrown cv_X5_thrown rfl aw_5_5 rfl rfl ⟨Nat.le_of_ble_eq_true rfl, Nat.le_of_ble_eq_true rfl⟩ (Nat.le_of_ble_eq_true rfl) ⟨Nat.le_trans (Nat.add_le_add_left (show 1 ≤ 5 by decide) k) hk.1, Nat.le_trans (Nat.add_le_add_left (show 6 ≤ 30 by decide) n) hk.2⟩ lX_M (fun μ2 => lX cT ac am aD σ1 μ2 o1 u) (fun _ => lX_M.symm) rfl (fun r9 μ2 h9 => ?_)
  obtain ⟨rfl, rfl⟩ := h9
  obtain ⟨v9, hc9, hf9⟩ := hw
  have ha := q_see hC hc9 hm
  refine wm_iload 611 rfl dL_law_609 rfl ?_
  refine wm_icmp_eq 616 614 rfl (by decide) dL_law_611 (fun _ => ?_) (fun c9 => absurd ha.1 c9)
  refine wm_iload 618 rfl dL_law_616 rfl ?_
  refine wm_if_ne 633 621 rfl (by decide) dL_law_618 (fun _ => ?_) (fun c6 => ?_)
  · refine wm_goto 2208 (by decide) dL_law_633 ?_
    refine wm_loc (ls2 := [(0, .ref b), (1, .ref (ac 0)), (2, .ref (am 0)), (3, .ref (ac 27)), (4, .ref aD), (5, .int x5)]) [2, 3, 4, 5, 6, 7] rfl ?_
    refine wl_widen (k1 := k + 5) (n1 := n + 30) (by omega) (by omega) ?_
    exact kk _ _ _ _ ha.2.2
  · obtain hv9 := ha.2.1 c6
    have hf9 := hf9 c6
    subst hv9
    refine wm_aload_n 622 rfl dL_law_621 rfl rfl ?_
    refine wm_iconst (v := 0) 623 rfl dL_law_622 (by decide) ?_
    refine wl_lald 624 rfl dL_law_623 vin01 ?_
    refine wm_iload 626 rfl dL_law_624 rfl ?_
    refine wm_i2l 627 rfl dL_law_626 ?_
    refine wm_lcmp 628 rfl dL_law_627 ?_
    refine wm_if_eq 633 631 rfl (by decide) dL_law_628 (fun _ => ?_) (fun c8 => absurd ((lg_cmp_eq _ _).mpr hf9) c8)
    refine wm_goto 2208 (by decide) dL_law_633 ?_
    refine wm_loc (ls2 := [(0, .ref b), (1, .ref (ac 0)), (2, .ref (am 0)), (3, .ref (ac 27)), (4, .ref aD), (5, .int x5)]) [2, 3, 4, 5, 6, 7] rfl ?_
    refine wl_widen (k1 := k + 5) (n1 := n + 30) (by omega) (by omega) ?_
    exact kk _ _ _ _ ha.2.2
theorem lc_drop (l : Launch) (hst : l.stackTraces = false) {D : va_G} {cT ac am : Nat → Nat} {aD b N sz : Nat} {xs : Nat → Int32} {σ μ : Sg} {o : Nat → Int64} {u : Nat → UInt64} {k n : Nat} {x5 : Int32} (hC : CP σ μ) (hv : ∀ c : Int32, c = 1 ∨ c = 2 ∨ c = 3 ∨ c = 4 → vp_in (x5 + c) N) (hk : k + 5 ≤ 646177 ∧ n + 30 ≤ 7157572) (kk : ∀ (σ1 μ1 : Sg) (o1 : Nat → Int64) (u1 : Nat → UInt64), CP σ1 μ1 → Wl l D cT ac am aD b N sz xs 2208 x5 σ1 μ1 o1 u1 (k + 5) (n + 30)) : Wl l D cT ac am aD b N sz xs 636 x5 σ μ o u k n := by
  obtain ⟨n9, m9, p9, d9, L9, sn9, hC⟩ := hC
  refine wm_aload_n 637 rfl dL_law_636 rfl rfl ?_
  refine wm_aload_n 638 rfl dL_law_637 rfl rfl ?_
  refine wm_iload 640 rfl dL_law_638 rfl ?_
  refine wm_iconst (v := 1) 641 rfl dL_law_640 (by decide) ?_
  refine wm_iadd 642 rfl dL_law_641 ?_
  refine wl_sld 643 rfl dL_law_642 (hv 1 (Or.inl rfl)) ?_
  refine wm_aload_n 644 rfl dL_law_643 rfl rfl ?_
  refine wl_callW (ad := ac) 647 rfl dL_law_644 (w_drop l _ (k_X4_drop l hst hC.cI _) (show ∀ E ∈ [eIO], E ∈ [eIO] by decide) o) aw_9_23 aw_3_23 ⟨by decide +kernel, by decide +kernel, (show (parseMethodDescriptor yL_drop.desc).map (fun d => d.parameters.length) = some 3 by decide +kernel)⟩ aw_9_22 aw_9_21 ⟨Nat.le_of_ble_eq_true rfl, Nat.le_of_ble_eq_true rfl⟩ (Nat.le_of_ble_eq_true rfl) ⟨Nat.le_trans (Nat.add_le_add_left (show 1 ≤ 5 by decide) k) hk.1, Nat.le_trans (Nat.add_le_add_left (show 6 ≤ 30 by decide) n) hk.2⟩ (zImp.perm (List.Perm.refl _)) (fun σ1 o1 => lX cT ac am aD σ1 μ o1 u) (fun _ _ => zImp.perm (List.Perm.refl _)) rfl (fun k6 σ1 o1 hw => ?_)
  refine wm_istore (ls' := [(6, _), (0, _), (1, _), (2, _), (3, _), (4, _), (5, _)]) 649 rfl dL_law_647 (by decide) rfl ?_
  refine wm_aload_n 650 rfl dL_law_649 rfl rfl ?_
  refine wm_aload_n 651 rfl dL_law_650 rfl rfl ?_
  refine wm_iload 653 rfl dL_law_651 rfl ?_
  refine wm_iconst (v := 1) 654 rfl dL_law_653 (by decide) ?_
  refine wm_iadd 655 rfl dL_law_654 ?_
  refine wl_sld 656 rfl dL_law_655 (hv 1 (Or.inl rfl)) ?_
  refine wl_callVi (ad := am) 659 rfl dL_law_656 (k_X5_drop l hC.mI _) ca_X5_drop cv_X5_drop rfl aw_10_19 rfl rfl ⟨Nat.le_of_ble_eq_true rfl, Nat.le_of_ble_eq_true rfl⟩ (Nat.le_of_ble_eq_true rfl) ⟨Nat.le_trans (Nat.add_le_add_left (show 1 ≤ 5 by decide) k) hk.1, Nat.le_trans (Nat.add_le_add_left (show 6 ≤ 30 by decide) n) hk.2⟩ lX_M (fun μ1 => lX cT ac am aD σ1 μ1 o1 u) (fun _ => lX_M.symm) rfl (fun w μ1 hm => ?_)
  refine wm_istore (ls' := [(7, _), (6, _), (0, _), (1, _), (2, _), (3, _), (4, _), (5, _)]) 661 rfl dL_law_659 (by decide) rfl ?_
  refine wm_aload_n 662 rfl dL_law_661 rfl rfl ?_
  refine wl_callVi (ad := am) 665 rfl dL_law_662 (k_X5_thrown l) ca_X5_thrown cv_X5_thrown rfl aw_5_5 rfl rfl ⟨Nat.le_of_ble_eq_true rfl, Nat.le_of_ble_eq_true rfl⟩ (Nat.le_of_ble_eq_true rfl) ⟨Nat.le_trans (Nat.add_le_add_left (show 1 ≤ 5 by decide) k) hk.1, Nat.le_trans (Nat.add_le_add_left (show 6 ≤ 30 by decide) n) hk.2⟩ lX_M (fun μ2 => lX cT ac am aD σ1 μ2 o1 u) (fun _ => lX_M.symm) rfl (fun r9 μ2 h9 => ?_)
  obtain ⟨rfl, rfl⟩ := h9
  obtain ⟨v9, hc9, hf9⟩ := hw
  have ha := q_drop hC hc9 hm
  refine wm_iload 667 rfl dL_law_665 rfl ?_
  refine wm_icmp_eq 672 670 rfl (by decide) dL_law_667 (fun _ => ?_) (fun c9 => absurd ha.1 c9)
  refine wm_iload 674 rfl dL_law_672 rfl ?_
  refine wm_if_ne 689 677 rfl (by decide) dL_law_674 (fun _ => ?_) (fun c6 => ?_)
  · refine wm_goto 2208 (by decide) dL_law_689 ?_
    refine wm_loc (ls2 := [(0, .ref b), (1, .ref (ac 0)), (2, .ref (am 0)), (3, .ref (ac 27)), (4, .ref aD), (5, .int x5)]) [2, 3, 4, 5, 6, 7] rfl ?_
    refine wl_widen (k1 := k + 5) (n1 := n + 30) (by omega) (by omega) ?_
    exact kk _ _ _ _ ha.2.2
  · obtain hv9 := ha.2.1 c6
    have hf9 := hf9 c6
    subst hv9
    refine wm_aload_n 678 rfl dL_law_677 rfl rfl ?_
    refine wm_iconst (v := 0) 679 rfl dL_law_678 (by decide) ?_
    refine wl_lald 680 rfl dL_law_679 vin01 ?_
    refine wm_iload 682 rfl dL_law_680 rfl ?_
    refine wm_i2l 683 rfl dL_law_682 ?_
    refine wm_lcmp 684 rfl dL_law_683 ?_
    refine wm_if_eq 689 687 rfl (by decide) dL_law_684 (fun _ => ?_) (fun c8 => absurd ((lg_cmp_eq _ _).mpr hf9) c8)
    refine wm_goto 2208 (by decide) dL_law_689 ?_
    refine wm_loc (ls2 := [(0, .ref b), (1, .ref (ac 0)), (2, .ref (am 0)), (3, .ref (ac 27)), (4, .ref aD), (5, .int x5)]) [2, 3, 4, 5, 6, 7] rfl ?_
    refine wl_widen (k1 := k + 5) (n1 := n + 30) (by omega) (by omega) ?_
    exact kk _ _ _ _ ha.2.2
theorem lc_forbid (l : Launch) (hst : l.stackTraces = false) {D : va_G} {cT ac am : Nat → Nat} {aD b N sz : Nat} {xs : Nat → Int32} {σ μ : Sg} {o : Nat → Int64} {u : Nat → UInt64} {k n : Nat} {x5 : Int32} (hC : CP σ μ) (hv : ∀ c : Int32, c = 1 ∨ c = 2 ∨ c = 3 ∨ c = 4 → vp_in (x5 + c) N) (hk : k + 5 ≤ 646177 ∧ n + 30 ≤ 7157572) (kk : ∀ (σ1 μ1 : Sg) (o1 : Nat → Int64) (u1 : Nat → UInt64), CP σ1 μ1 → Wl l D cT ac am aD b N sz xs 2208 x5 σ1 μ1 o1 u1 (k + 5) (n + 30)) : Wl l D cT ac am aD b N sz xs 692 x5 σ μ o u k n := by
  obtain ⟨n9, m9, p9, d9, L9, sn9, hC⟩ := hC
  refine wm_aload_n 693 rfl dL_law_692 rfl rfl ?_
  refine wm_aload_n 694 rfl dL_law_693 rfl rfl ?_
  refine wm_iload 696 rfl dL_law_694 rfl ?_
  refine wm_iconst (v := 1) 697 rfl dL_law_696 (by decide) ?_
  refine wm_iadd 698 rfl dL_law_697 ?_
  refine wl_sld 699 rfl dL_law_698 (hv 1 (Or.inl rfl)) ?_
  refine wm_aload_n 700 rfl dL_law_699 rfl rfl ?_
  refine wm_iload 702 rfl dL_law_700 rfl ?_
  refine wm_iconst (v := 2) 703 rfl dL_law_702 (by decide) ?_
  refine wm_iadd 704 rfl dL_law_703 ?_
  refine wl_sld 705 rfl dL_law_704 (hv 2 (Or.inr (Or.inl rfl))) ?_
  refine wm_aload_n 706 rfl dL_law_705 rfl rfl ?_
  refine wl_callW (ad := ac) 709 rfl dL_law_706 (w_forbid l _ _ (k_X4_forbid l hst hC.cI hC.1.2.2.1.1 hC.1.2.2.1.2.2 _ _) (show ∀ E ∈ [eIO, eIO, eIA, eIS, eIS], E ∈ [eIO, eIA, eIS] by decide) o) aw_11_5 aw_3_23 ⟨by decide +kernel, by decide +kernel, (show (parseMethodDescriptor yL_forbid.desc).map (fun d => d.parameters.length) = some 4 by decide +kernel)⟩ aw_11_4 aw_11_3 ⟨Nat.le_of_ble_eq_true rfl, Nat.le_of_ble_eq_true rfl⟩ (Nat.le_of_ble_eq_true rfl) ⟨Nat.le_trans (Nat.add_le_add_left (show 4 ≤ 5 by decide) k) hk.1, Nat.le_trans (Nat.add_le_add_left (show 24 ≤ 30 by decide) n) hk.2⟩ (zImp.perm (List.Perm.refl _)) (fun σ1 o1 => lX cT ac am aD σ1 μ o1 u) (fun _ _ => zImp.perm (List.Perm.refl _)) rfl (fun k6 σ1 o1 hw => ?_)
  refine wm_istore (ls' := [(6, _), (0, _), (1, _), (2, _), (3, _), (4, _), (5, _)]) 711 rfl dL_law_709 (by decide) rfl ?_
  refine wm_aload_n 712 rfl dL_law_711 rfl rfl ?_
  refine wm_aload_n 713 rfl dL_law_712 rfl rfl ?_
  refine wm_iload 715 rfl dL_law_713 rfl ?_
  refine wm_iconst (v := 1) 716 rfl dL_law_715 (by decide) ?_
  refine wm_iadd 717 rfl dL_law_716 ?_
  refine wl_sld 718 rfl dL_law_717 (hv 1 (Or.inl rfl)) ?_
  refine wm_aload_n 719 rfl dL_law_718 rfl rfl ?_
  refine wm_iload 721 rfl dL_law_719 rfl ?_
  refine wm_iconst (v := 2) 722 rfl dL_law_721 (by decide) ?_
  refine wm_iadd 723 rfl dL_law_722 ?_
  refine wl_sld 724 rfl dL_law_723 (hv 2 (Or.inr (Or.inl rfl))) ?_
  refine wl_callVi (ad := am) 727 rfl dL_law_724 (k_X5_forbid l hC.mI hC.mP hC.mQ _ _) ca_X5_forbid cv_X5_forbid rfl aw_12_3 rfl rfl ⟨Nat.le_of_ble_eq_true rfl, Nat.le_of_ble_eq_true rfl⟩ (Nat.le_of_ble_eq_true rfl) ⟨Nat.le_trans (Nat.add_le_add_left (show 4 ≤ 5 by decide) k) hk.1, Nat.le_trans (Nat.add_le_add_left (show 24 ≤ 30 by decide) n) hk.2⟩ lX_M (fun μ1 => lX cT ac am aD σ1 μ1 o1 u) (fun _ => lX_M.symm) rfl (fun w μ1 hm => ?_)
  refine wm_istore (ls' := [(7, _), (6, _), (0, _), (1, _), (2, _), (3, _), (4, _), (5, _)]) 729 rfl dL_law_727 (by decide) rfl ?_
  refine wm_aload_n 730 rfl dL_law_729 rfl rfl ?_
  refine wl_callVi (ad := am) 733 rfl dL_law_730 (k_X5_thrown l) ca_X5_thrown cv_X5_thrown rfl aw_5_5 rfl rfl ⟨Nat.le_of_ble_eq_true rfl, Nat.le_of_ble_eq_true rfl⟩ (Nat.le_of_ble_eq_true rfl) ⟨Nat.le_trans (Nat.add_le_add_left (show 4 ≤ 5 by decide) k) hk.1, Nat.le_trans (Nat.add_le_add_left (show 24 ≤ 30 by decide) n) hk.2⟩ lX_M (fun μ2 => lX cT ac am aD σ1 μ2 o1 u) (fun _ => lX_M.symm) rfl (fun r9 μ2 h9 => ?_)
  obtain ⟨rfl, rfl⟩ := h9
  obtain ⟨v9, hc9, hf9⟩ := hw
  have ha := q_forbid hC hc9 hm
  refine wm_iload 735 rfl dL_law_733 rfl ?_
  refine wm_icmp_eq 740 738 rfl (by decide) dL_law_735 (fun _ => ?_) (fun c9 => absurd ha.1 c9)
  refine wm_iload 742 rfl dL_law_740 rfl ?_
  refine wm_if_ne 757 745 rfl (by decide) dL_law_742 (fun _ => ?_) (fun c6 => ?_)
  · refine wm_goto 2208 (by decide) dL_law_757 ?_
    refine wm_loc (ls2 := [(0, .ref b), (1, .ref (ac 0)), (2, .ref (am 0)), (3, .ref (ac 27)), (4, .ref aD), (5, .int x5)]) [2, 3, 4, 5, 6, 7] rfl ?_
    refine wl_widen (k1 := k + 5) (n1 := n + 30) (by omega) (by omega) ?_
    exact kk _ _ _ _ ha.2.2
  · obtain hv9 := ha.2.1 c6
    have hf9 := hf9 c6
    subst hv9
    refine wm_aload_n 746 rfl dL_law_745 rfl rfl ?_
    refine wm_iconst (v := 0) 747 rfl dL_law_746 (by decide) ?_
    refine wl_lald 748 rfl dL_law_747 vin01 ?_
    refine wm_iload 750 rfl dL_law_748 rfl ?_
    refine wm_i2l 751 rfl dL_law_750 ?_
    refine wm_lcmp 752 rfl dL_law_751 ?_
    refine wm_if_eq 757 755 rfl (by decide) dL_law_752 (fun _ => ?_) (fun c8 => absurd ((lg_cmp_eq _ _).mpr hf9) c8)
    refine wm_goto 2208 (by decide) dL_law_757 ?_
    refine wm_loc (ls2 := [(0, .ref b), (1, .ref (ac 0)), (2, .ref (am 0)), (3, .ref (ac 27)), (4, .ref aD), (5, .int x5)]) [2, 3, 4, 5, 6, 7] rfl ?_
    refine wl_widen (k1 := k + 5) (n1 := n + 30) (by omega) (by omega) ?_
    exact kk _ _ _ _ ha.2.2
theorem lc_allow (l : Launch) (hst : l.stackTraces = false) {D : va_G} {cT ac am : Nat → Nat} {aD b N sz : Nat} {xs : Nat → Int32} {σ μ : Sg} {o : Nat → Int64} {u : Nat → UInt64} {k n : Nat} {x5 : Int32} (hC : CP σ μ) (hv : ∀ c : Int32, c = 1 ∨ c = 2 ∨ c = 3 ∨ c = 4 → vp_in (x5 + c) N) (hk : k + 5 ≤ 646177 ∧ n + 30 ≤ 7157572) (kk : ∀ (σ1 μ1 : Sg) (o1 : Nat → Int64) (u1 : Nat → UInt64), CP σ1 μ1 → Wl l D cT ac am aD b N sz xs 2208 x5 σ1 μ1 o1 u1 (k + 5) (n + 30)) : Wl l D cT ac am aD b N sz xs 760 x5 σ μ o u k n := by
  obtain ⟨n9, m9, p9, d9, L9, sn9, hC⟩ := hC
  refine wm_aload_n 761 rfl dL_law_760 rfl rfl ?_
  refine wm_aload_n 762 rfl dL_law_761 rfl rfl ?_
  refine wm_iload 764 rfl dL_law_762 rfl ?_
  refine wm_iconst (v := 1) 765 rfl dL_law_764 (by decide) ?_
  refine wm_iadd 766 rfl dL_law_765 ?_
  refine wl_sld 767 rfl dL_law_766 (hv 1 (Or.inl rfl)) ?_
  refine wm_aload_n 768 rfl dL_law_767 rfl rfl ?_
  refine wm_iload 770 rfl dL_law_768 rfl ?_
  refine wm_iconst (v := 2) 771 rfl dL_law_770 (by decide) ?_
  refine wm_iadd 772 rfl dL_law_771 ?_
  refine wl_sld 773 rfl dL_law_772 (hv 2 (Or.inr (Or.inl rfl))) ?_
  refine wm_aload_n 774 rfl dL_law_773 rfl rfl ?_
  refine wl_callW (ad := ac) 777 rfl dL_law_774 (w_allow l _ _ (k_X4_allow l hst hC.cI _ _) (show ∀ E ∈ [eIO, eIO, eNS], E ∈ [eIO, eNS] by decide) o) aw_12_18 aw_3_23 ⟨by decide +kernel, by decide +kernel, (show (parseMethodDescriptor yL_allow.desc).map (fun d => d.parameters.length) = some 4 by decide +kernel)⟩ aw_12_17 aw_12_16 ⟨Nat.le_of_ble_eq_true rfl, Nat.le_of_ble_eq_true rfl⟩ (Nat.le_of_ble_eq_true rfl) ⟨Nat.le_trans (Nat.add_le_add_left (show 3 ≤ 5 by decide) k) hk.1, Nat.le_trans (Nat.add_le_add_left (show 18 ≤ 30 by decide) n) hk.2⟩ (zImp.perm (List.Perm.refl _)) (fun σ1 o1 => lX cT ac am aD σ1 μ o1 u) (fun _ _ => zImp.perm (List.Perm.refl _)) rfl (fun k6 σ1 o1 hw => ?_)
  refine wm_istore (ls' := [(6, _), (0, _), (1, _), (2, _), (3, _), (4, _), (5, _)]) 779 rfl dL_law_777 (by decide) rfl ?_
  refine wm_aload_n 780 rfl dL_law_779 rfl rfl ?_
  refine wm_aload_n 781 rfl dL_law_780 rfl rfl ?_
  refine wm_iload 783 rfl dL_law_781 rfl ?_
  refine wm_iconst (v := 1) 784 rfl dL_law_783 (by decide) ?_
  refine wm_iadd 785 rfl dL_law_784 ?_
  refine wl_sld 786 rfl dL_law_785 (hv 1 (Or.inl rfl)) ?_
  refine wm_aload_n 787 rfl dL_law_786 rfl rfl ?_
  refine wm_iload 789 rfl dL_law_787 rfl ?_
  refine wm_iconst (v := 2) 790 rfl dL_law_789 (by decide) ?_
  refine wm_iadd 791 rfl dL_law_790 ?_
  refine wl_sld 792 rfl dL_law_791 (hv 2 (Or.inr (Or.inl rfl))) ?_
  refine wl_callVi (ad := am) 795 rfl dL_law_792 (k_X5_allow l hC.mI hC.mP hC.mQ _ _) ca_X5_allow cv_X5_allow rfl aw_13_10 rfl rfl ⟨Nat.le_of_ble_eq_true rfl, Nat.le_of_ble_eq_true rfl⟩ (Nat.le_of_ble_eq_true rfl) ⟨Nat.le_trans (Nat.add_le_add_left (show 3 ≤ 5 by decide) k) hk.1, Nat.le_trans (Nat.add_le_add_left (show 18 ≤ 30 by decide) n) hk.2⟩ lX_M (fun μ1 => lX cT ac am aD σ1 μ1 o1 u) (fun _ => lX_M.symm) rfl (fun w μ1 hm => ?_)
  refine wm_istore (ls' := [(7, _), (6, _), (0, _), (1, _), (2, _), (3, _), (4, _), (5, _)]) 797 rfl dL_law_795 (by decide) rfl ?_
  refine wm_aload_n 798 rfl dL_law_797 rfl rfl ?_
  refine wl_callVi (ad := am) 801 rfl dL_law_798 (k_X5_thrown l) ca_X5_thrown cv_X5_thrown rfl aw_5_5 rfl rfl ⟨Nat.le_of_ble_eq_true rfl, Nat.le_of_ble_eq_true rfl⟩ (Nat.le_of_ble_eq_true rfl) ⟨Nat.le_trans (Nat.add_le_add_left (show 3 ≤ 5 by decide) k) hk.1, Nat.le_trans (Nat.add_le_add_left (show 18 ≤ 30 by decide) n) hk.2⟩ lX_M (fun μ2 => lX cT ac am aD σ1 μ2 o1 u) (fun _ => lX_M.symm) rfl (fun r9 μ2 h9 => ?_)
  obtain ⟨rfl, rfl⟩ := h9
  obtain ⟨v9, hc9, hf9⟩ := hw
  have ha := q_allow hC hc9 hm
  refine wm_iload 803 rfl dL_law_801 rfl ?_
  refine wm_icmp_eq 808 806 rfl (by decide) dL_law_803 (fun _ => ?_) (fun c9 => absurd ha.1 c9)
  refine wm_iload 810 rfl dL_law_808 rfl ?_
  refine wm_if_ne 825 813 rfl (by decide) dL_law_810 (fun _ => ?_) (fun c6 => ?_)
  · refine wm_goto 2208 (by decide) dL_law_825 ?_
    refine wm_loc (ls2 := [(0, .ref b), (1, .ref (ac 0)), (2, .ref (am 0)), (3, .ref (ac 27)), (4, .ref aD), (5, .int x5)]) [2, 3, 4, 5, 6, 7] rfl ?_
    refine wl_widen (k1 := k + 5) (n1 := n + 30) (by omega) (by omega) ?_
    exact kk _ _ _ _ ha.2.2
  · obtain hv9 := ha.2.1 c6
    have hf9 := hf9 c6
    subst hv9
    refine wm_aload_n 814 rfl dL_law_813 rfl rfl ?_
    refine wm_iconst (v := 0) 815 rfl dL_law_814 (by decide) ?_
    refine wl_lald 816 rfl dL_law_815 vin01 ?_
    refine wm_iload 818 rfl dL_law_816 rfl ?_
    refine wm_i2l 819 rfl dL_law_818 ?_
    refine wm_lcmp 820 rfl dL_law_819 ?_
    refine wm_if_eq 825 823 rfl (by decide) dL_law_820 (fun _ => ?_) (fun c8 => absurd ((lg_cmp_eq _ _).mpr hf9) c8)
    refine wm_goto 2208 (by decide) dL_law_825 ?_
    refine wm_loc (ls2 := [(0, .ref b), (1, .ref (ac 0)), (2, .ref (am 0)), (3, .ref (ac 27)), (4, .ref aD), (5, .int x5)]) [2, 3, 4, 5, 6, 7] rfl ?_
    refine wl_widen (k1 := k + 5) (n1 := n + 30) (by omega) (by omega) ?_
    exact kk _ _ _ _ ha.2.2
theorem lc_records (l : Launch) (hst : l.stackTraces = false) {D : va_G} {cT ac am : Nat → Nat} {aD b N sz : Nat} {xs : Nat → Int32} {σ μ : Sg} {o : Nat → Int64} {u : Nat → UInt64} {k n : Nat} {x5 : Int32} (hC : CP σ μ) (hv : ∀ c : Int32, c = 1 ∨ c = 2 ∨ c = 3 ∨ c = 4 → vp_in (x5 + c) N) (hk : k + 5 ≤ 646177 ∧ n + 30 ≤ 7157572) (kk : ∀ (σ1 μ1 : Sg) (o1 : Nat → Int64) (u1 : Nat → UInt64), CP σ1 μ1 → Wl l D cT ac am aD b N sz xs 2208 x5 σ1 μ1 o1 u1 (k + 5) (n + 30)) : Wl l D cT ac am aD b N sz xs 828 x5 σ μ o u k n := by
  obtain ⟨n9, m9, p9, d9, L9, sn9, hC⟩ := hC
  refine wm_aload_n 829 rfl dL_law_828 rfl rfl ?_
  refine wl_callVi (ad := ac) 832 rfl dL_law_829 (k_X4_records l) ca_X4_records cv_X4_records rfl aw_13_18 rfl rfl ⟨Nat.le_of_ble_eq_true rfl, Nat.le_of_ble_eq_true rfl⟩ (Nat.le_of_ble_eq_true rfl) ⟨Nat.le_trans (Nat.le_add_right k 5) hk.1, Nat.le_trans (Nat.le_add_right n 30) hk.2⟩ lX_C (fun σ1 => lX cT ac am aD σ1 μ o u) (fun _ => lX_C.symm) rfl (fun v9 σ1 hp9 => ?_)
  refine wm_aload_n 833 rfl dL_law_832 rfl rfl ?_
  refine wl_callVi (ad := am) 836 rfl dL_law_833 (k_X5_records l hC.mI) ca_X5_records cv_X5_records rfl aw_13_22 rfl rfl ⟨Nat.le_of_ble_eq_true rfl, Nat.le_of_ble_eq_true rfl⟩ (Nat.le_of_ble_eq_true rfl) ⟨Nat.le_trans (Nat.le_add_right k 5) hk.1, Nat.le_trans (Nat.le_add_right n 30) hk.2⟩ lX_M (fun μ1 => lX cT ac am aD σ1 μ1 o u) (fun _ => lX_M.symm) rfl (fun w μ1 hm => ?_)
  have ha := q_records hC hp9 hm
  refine wm_icmp_eq 2208 839 rfl (by decide) dL_law_836 (fun _ => ?_) (fun c9 => absurd ha.1 c9)
  refine wl_widen (k1 := k + 5) (n1 := n + 30) (by omega) (by omega) ?_
  exact kk _ _ _ _ ha.2
theorem lc_key (l : Launch) (hst : l.stackTraces = false) {D : va_G} {cT ac am : Nat → Nat} {aD b N sz : Nat} {xs : Nat → Int32} {σ μ : Sg} {o : Nat → Int64} {u : Nat → UInt64} {k n : Nat} {x5 : Int32} (hC : CP σ μ) (hv : ∀ c : Int32, c = 1 ∨ c = 2 ∨ c = 3 ∨ c = 4 → vp_in (x5 + c) N) (hk : k + 5 ≤ 646177 ∧ n + 30 ≤ 7157572) (kk : ∀ (σ1 μ1 : Sg) (o1 : Nat → Int64) (u1 : Nat → UInt64), CP σ1 μ1 → Wl l D cT ac am aD b N sz xs 2208 x5 σ1 μ1 o1 u1 (k + 5) (n + 30)) : Wl l D cT ac am aD b N sz xs 841 x5 σ μ o u k n := by
  obtain ⟨n9, m9, p9, d9, L9, sn9, hC⟩ := hC
  refine wm_aload_n 842 rfl dL_law_841 rfl rfl ?_
  refine wm_aload_n 843 rfl dL_law_842 rfl rfl ?_
  refine wm_iload 845 rfl dL_law_843 rfl ?_
  refine wm_iconst (v := 1) 846 rfl dL_law_845 (by decide) ?_
  refine wm_iadd 847 rfl dL_law_846 ?_
  refine wl_sld 848 rfl dL_law_847 (hv 1 (Or.inl rfl)) ?_
  refine wm_aload_n 849 rfl dL_law_848 rfl rfl ?_
  refine wm_iload 851 rfl dL_law_849 rfl ?_
  refine wm_iconst (v := 2) 852 rfl dL_law_851 (by decide) ?_
  refine wm_iadd 853 rfl dL_law_852 ?_
  refine wl_sld 854 rfl dL_law_853 (hv 2 (Or.inr (Or.inl rfl))) ?_
  refine wm_aload_n 855 rfl dL_law_854 rfl rfl ?_
  refine wl_callW (ad := ac) 858 rfl dL_law_855 (w_key l _ _ (k_X4_key l hst hC.cI _ _) (show ∀ E ∈ [eIO, eIO], E ∈ [eIO] by decide) o) aw_14_4 aw_3_23 ⟨by decide +kernel, by decide +kernel, (show (parseMethodDescriptor yL_key.desc).map (fun d => d.parameters.length) = some 4 by decide +kernel)⟩ aw_14_3 aw_14_2 ⟨Nat.le_of_ble_eq_true rfl, Nat.le_of_ble_eq_true rfl⟩ (Nat.le_of_ble_eq_true rfl) ⟨Nat.le_trans (Nat.add_le_add_left (show 2 ≤ 5 by decide) k) hk.1, Nat.le_trans (Nat.add_le_add_left (show 12 ≤ 30 by decide) n) hk.2⟩ (zImp.perm (List.Perm.refl _)) (fun σ1 o1 => lX cT ac am aD σ1 μ o1 u) (fun _ _ => zImp.perm (List.Perm.refl _)) rfl (fun k6 σ1 o1 hw => ?_)
  refine wm_istore (ls' := [(6, _), (0, _), (1, _), (2, _), (3, _), (4, _), (5, _)]) 860 rfl dL_law_858 (by decide) rfl ?_
  refine wm_aload_n 861 rfl dL_law_860 rfl rfl ?_
  refine wm_aload_n 862 rfl dL_law_861 rfl rfl ?_
  refine wm_iload 864 rfl dL_law_862 rfl ?_
  refine wm_iconst (v := 1) 865 rfl dL_law_864 (by decide) ?_
  refine wm_iadd 866 rfl dL_law_865 ?_
  refine wl_sld 867 rfl dL_law_866 (hv 1 (Or.inl rfl)) ?_
  refine wm_aload_n 868 rfl dL_law_867 rfl rfl ?_
  refine wm_iload 870 rfl dL_law_868 rfl ?_
  refine wm_iconst (v := 2) 871 rfl dL_law_870 (by decide) ?_
  refine wm_iadd 872 rfl dL_law_871 ?_
  refine wl_sld 873 rfl dL_law_872 (hv 2 (Or.inr (Or.inl rfl))) ?_
  refine wl_callVi (ad := am) 876 rfl dL_law_873 (k_X5_key l hC.mI _ _) ca_X5_key cv_X5_key rfl aw_14_9 rfl rfl ⟨Nat.le_of_ble_eq_true rfl, Nat.le_of_ble_eq_true rfl⟩ (Nat.le_of_ble_eq_true rfl) ⟨Nat.le_trans (Nat.add_le_add_left (show 2 ≤ 5 by decide) k) hk.1, Nat.le_trans (Nat.add_le_add_left (show 12 ≤ 30 by decide) n) hk.2⟩ lX_M (fun μ1 => lX cT ac am aD σ1 μ1 o1 u) (fun _ => lX_M.symm) rfl (fun w μ1 hm => ?_)
  refine wm_istore (ls' := [(7, _), (6, _), (0, _), (1, _), (2, _), (3, _), (4, _), (5, _)]) 878 rfl dL_law_876 (by decide) rfl ?_
  refine wm_aload_n 879 rfl dL_law_878 rfl rfl ?_
  refine wl_callVi (ad := am) 882 rfl dL_law_879 (k_X5_thrown l) ca_X5_thrown cv_X5_thrown rfl aw_5_5 rfl rfl ⟨Nat.le_of_ble_eq_true rfl, Nat.le_of_ble_eq_true rfl⟩ (Nat.le_of_ble_eq_true rfl) ⟨Nat.le_trans (Nat.add_le_add_left (show 2 ≤ 5 by decide) k) hk.1, Nat.le_trans (Nat.add_le_add_left (show 12 ≤ 30 by decide) n) hk.2⟩ lX_M (fun μ2 => lX cT ac am aD σ1 μ2 o1 u) (fun _ => lX_M.symm) rfl (fun r9 μ2 h9 => ?_)
  obtain ⟨rfl, rfl⟩ := h9
  obtain ⟨v9, hc9, hf9⟩ := hw
  have ha := q_key hC hc9 hm
  refine wm_iload 884 rfl dL_law_882 rfl ?_
  refine wm_icmp_eq 889 887 rfl (by decide) dL_law_884 (fun _ => ?_) (fun c9 => absurd ha.1 c9)
  refine wm_iload 891 rfl dL_law_889 rfl ?_
  refine wm_if_ne 906 894 rfl (by decide) dL_law_891 (fun _ => ?_) (fun c6 => ?_)
  · refine wm_goto 2208 (by decide) dL_law_906 ?_
    refine wm_loc (ls2 := [(0, .ref b), (1, .ref (ac 0)), (2, .ref (am 0)), (3, .ref (ac 27)), (4, .ref aD), (5, .int x5)]) [2, 3, 4, 5, 6, 7] rfl ?_
    refine wl_widen (k1 := k + 5) (n1 := n + 30) (by omega) (by omega) ?_
    exact kk _ _ _ _ ha.2.2
  · obtain hv9 := ha.2.1 c6
    have hf9 := hf9 c6
    subst hv9
    refine wm_aload_n 895 rfl dL_law_894 rfl rfl ?_
    refine wm_iconst (v := 0) 896 rfl dL_law_895 (by decide) ?_
    refine wl_lald 897 rfl dL_law_896 vin01 ?_
    refine wm_iload 899 rfl dL_law_897 rfl ?_
    refine wm_i2l 900 rfl dL_law_899 ?_
    refine wm_lcmp 901 rfl dL_law_900 ?_
    refine wm_if_eq 906 904 rfl (by decide) dL_law_901 (fun _ => ?_) (fun c8 => absurd ((lg_cmp_eq _ _).mpr hf9) c8)
    refine wm_goto 2208 (by decide) dL_law_906 ?_
    refine wm_loc (ls2 := [(0, .ref b), (1, .ref (ac 0)), (2, .ref (am 0)), (3, .ref (ac 27)), (4, .ref aD), (5, .int x5)]) [2, 3, 4, 5, 6, 7] rfl ?_
    refine wl_widen (k1 := k + 5) (n1 := n + 30) (by omega) (by omega) ?_
    exact kk _ _ _ _ ha.2.2
theorem lc_seen (l : Launch) (hst : l.stackTraces = false) {D : va_G} {cT ac am : Nat → Nat} {aD b N sz : Nat} {xs : Nat → Int32} {σ μ : Sg} {o : Nat → Int64} {u : Nat → UInt64} {k n : Nat} {x5 : Int32} (hC : CP σ μ) (hv : ∀ c : Int32, c = 1 ∨ c = 2 ∨ c = 3 ∨ c = 4 → vp_in (x5 + c) N) (hk : k + 5 ≤ 646177 ∧ n + 30 ≤ 7157572) (kk : ∀ (σ1 μ1 : Sg) (o1 : Nat → Int64) (u1 : Nat → UInt64), CP σ1 μ1 → Wl l D cT ac am aD b N sz xs 2208 x5 σ1 μ1 o1 u1 (k + 5) (n + 30)) : Wl l D cT ac am aD b N sz xs 909 x5 σ μ o u k n := by
  obtain ⟨n9, m9, p9, d9, L9, sn9, hC⟩ := hC
  refine wm_aload_n 910 rfl dL_law_909 rfl rfl ?_
  refine wm_aload_n 911 rfl dL_law_910 rfl rfl ?_
  refine wm_iload 913 rfl dL_law_911 rfl ?_
  refine wm_iconst (v := 1) 914 rfl dL_law_913 (by decide) ?_
  refine wm_iadd 915 rfl dL_law_914 ?_
  refine wl_sld 916 rfl dL_law_915 (hv 1 (Or.inl rfl)) ?_
  refine wm_aload_n 917 rfl dL_law_916 rfl rfl ?_
  refine wl_callW (ad := ac) 920 rfl dL_law_917 (w_seen l _ (k_X4_seen l hst hC.cI _) (show ∀ E ∈ [eIO], E ∈ [eIO] by decide) o) aw_14_15 aw_3_23 ⟨by decide +kernel, by decide +kernel, (show (parseMethodDescriptor yL_seen.desc).map (fun d => d.parameters.length) = some 3 by decide +kernel)⟩ aw_14_14 aw_14_13 ⟨Nat.le_of_ble_eq_true rfl, Nat.le_of_ble_eq_true rfl⟩ (Nat.le_of_ble_eq_true rfl) ⟨Nat.le_trans (Nat.add_le_add_left (show 1 ≤ 5 by decide) k) hk.1, Nat.le_trans (Nat.add_le_add_left (show 6 ≤ 30 by decide) n) hk.2⟩ (zImp.perm (List.Perm.refl _)) (fun σ1 o1 => lX cT ac am aD σ1 μ o1 u) (fun _ _ => zImp.perm (List.Perm.refl _)) rfl (fun k6 σ1 o1 hw => ?_)
  refine wm_istore (ls' := [(6, _), (0, _), (1, _), (2, _), (3, _), (4, _), (5, _)]) 922 rfl dL_law_920 (by decide) rfl ?_
  refine wm_aload_n 923 rfl dL_law_922 rfl rfl ?_
  refine wm_aload_n 924 rfl dL_law_923 rfl rfl ?_
  refine wm_iload 926 rfl dL_law_924 rfl ?_
  refine wm_iconst (v := 1) 927 rfl dL_law_926 (by decide) ?_
  refine wm_iadd 928 rfl dL_law_927 ?_
  refine wl_sld 929 rfl dL_law_928 (hv 1 (Or.inl rfl)) ?_
  refine wl_callVi (ad := am) 932 rfl dL_law_929 (k_X5_seen l hC.mI _) ca_X5_seen cv_X5_seen rfl aw_14_20 rfl rfl ⟨Nat.le_of_ble_eq_true rfl, Nat.le_of_ble_eq_true rfl⟩ (Nat.le_of_ble_eq_true rfl) ⟨Nat.le_trans (Nat.add_le_add_left (show 1 ≤ 5 by decide) k) hk.1, Nat.le_trans (Nat.add_le_add_left (show 6 ≤ 30 by decide) n) hk.2⟩ lX_M (fun μ1 => lX cT ac am aD σ1 μ1 o1 u) (fun _ => lX_M.symm) rfl (fun w μ1 hm => ?_)
  refine wm_istore (ls' := [(7, _), (6, _), (0, _), (1, _), (2, _), (3, _), (4, _), (5, _)]) 934 rfl dL_law_932 (by decide) rfl ?_
  refine wm_aload_n 935 rfl dL_law_934 rfl rfl ?_
  refine wl_callVi (ad := am) 938 rfl dL_law_935 (k_X5_thrown l) ca_X5_thrown cv_X5_thrown rfl aw_5_5 rfl rfl ⟨Nat.le_of_ble_eq_true rfl, Nat.le_of_ble_eq_true rfl⟩ (Nat.le_of_ble_eq_true rfl) ⟨Nat.le_trans (Nat.add_le_add_left (show 1 ≤ 5 by decide) k) hk.1, Nat.le_trans (Nat.add_le_add_left (show 6 ≤ 30 by decide) n) hk.2⟩ lX_M (fun μ2 => lX cT ac am aD σ1 μ2 o1 u) (fun _ => lX_M.symm) rfl (fun r9 μ2 h9 => ?_)
  obtain ⟨rfl, rfl⟩ := h9
  obtain ⟨v9, hc9, hf9⟩ := hw
  have ha := q_seen hC hc9 hm
  refine wm_iload 940 rfl dL_law_938 rfl ?_
  refine wm_icmp_eq 945 943 rfl (by decide) dL_law_940 (fun _ => ?_) (fun c9 => absurd ha.1 c9)
  refine wm_iload 947 rfl dL_law_945 rfl ?_
  refine wm_if_ne 962 950 rfl (by decide) dL_law_947 (fun _ => ?_) (fun c6 => ?_)
  · refine wm_goto 2208 (by decide) dL_law_962 ?_
    refine wm_loc (ls2 := [(0, .ref b), (1, .ref (ac 0)), (2, .ref (am 0)), (3, .ref (ac 27)), (4, .ref aD), (5, .int x5)]) [2, 3, 4, 5, 6, 7] rfl ?_
    refine wl_widen (k1 := k + 5) (n1 := n + 30) (by omega) (by omega) ?_
    exact kk _ _ _ _ ha.2.2
  · obtain hv9 := ha.2.1 c6
    have hf9 := hf9 c6
    subst hv9
    refine wm_aload_n 951 rfl dL_law_950 rfl rfl ?_
    refine wm_iconst (v := 0) 952 rfl dL_law_951 (by decide) ?_
    refine wl_lald 953 rfl dL_law_952 vin01 ?_
    refine wm_iload 955 rfl dL_law_953 rfl ?_
    refine wm_i2l 956 rfl dL_law_955 ?_
    refine wm_lcmp 957 rfl dL_law_956 ?_
    refine wm_if_eq 962 960 rfl (by decide) dL_law_957 (fun _ => ?_) (fun c8 => absurd ((lg_cmp_eq _ _).mpr hf9) c8)
    refine wm_goto 2208 (by decide) dL_law_962 ?_
    refine wm_loc (ls2 := [(0, .ref b), (1, .ref (ac 0)), (2, .ref (am 0)), (3, .ref (ac 27)), (4, .ref aD), (5, .int x5)]) [2, 3, 4, 5, 6, 7] rfl ?_
    refine wl_widen (k1 := k + 5) (n1 := n + 30) (by omega) (by omega) ?_
    exact kk _ _ _ _ ha.2.2
