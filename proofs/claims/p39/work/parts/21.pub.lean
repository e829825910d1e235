theorem ca_X4_checkRange : zCal yX4_checkRange cX4_checkRange 3 none 3 := ⟨aw_16_12, aw_1_2, by decide +kernel, by decide +kernel, by decide +kernel⟩
theorem ca_X1_putSource : zCal yX1_putSource cX1_putSource 3 (some .int) 1 := ⟨aw_16_18, aw_1_17, by decide +kernel, by decide +kernel, by decide +kernel⟩
theorem cv_X1_putSource : zCaV RX1 yX1_putSource := ⟨aw_16_16, aw_16_17⟩
theorem ca_X4_checkSource : zCal yX4_checkSource cX4_checkSource 2 none 1 := ⟨aw_17_4, aw_1_2, by decide +kernel, by decide +kernel, by decide +kernel⟩
theorem cv_X4_checkSource : zCaV RX4 yX4_checkSource := ⟨aw_17_2, aw_17_3⟩
theorem gf_X4_60_0 : zGF RX4 60 0 0 := ⟨RX1, TX1, 10, "Assetmerge$Inventory", rfl, zin_X1, by decide, aw_17_0, Or.inl rfl⟩
theorem ca_X1_putRecord : zCal yX1_putRecord cX1_putRecord 5 (some .int) 2 := ⟨aw_17_15, aw_1_17, by decide +kernel, by decide +kernel, by decide +kernel⟩
theorem cv_X1_putRecord : zCaV RX1 yX1_putRecord := ⟨aw_17_13, aw_17_14⟩
theorem gf_X4_75_0 : zGF RX4 75 0 3 := ⟨RX1, TX1, 10, "Assetmerge$Inventory", rfl, zin_X1, by decide, aw_13_19, Or.inl rfl⟩
theorem ca_X4_checkRecord : zCal yX4_checkRecord cX4_checkRecord 2 none 1 := ⟨aw_10_17, aw_1_2, by decide +kernel, by decide +kernel, by decide +kernel⟩
theorem cv_X4_checkRecord : zCaV RX4 yX4_checkRecord := ⟨aw_10_15, aw_10_16⟩
theorem ca_X4_checkKind : zCal yX4_checkKind cX4_checkKind 1 none 1 := ⟨aw_13_22, aw_1_2, by decide +kernel, by decide +kernel, by decide +kernel⟩
theorem ca_X4_checkField : zCal yX4_checkField cX4_checkField 1 none 1 := ⟨aw_14_9, aw_1_2, by decide +kernel, by decide +kernel, by decide +kernel⟩
theorem ca_X1_hide : zCal yX1_hide cX1_hide 2 none 1 := ⟨aw_11_3, aw_1_17, by decide +kernel, by decide +kernel, by decide +kernel⟩
theorem cv_X1_hide : zCaV RX1 yX1_hide := ⟨aw_11_1, aw_11_2⟩
theorem ca_X4_checkDifferent : zCal yX4_checkDifferent cX4_checkDifferent 2 none 2 := ⟨aw_18_18, aw_1_2, by decide +kernel, by decide +kernel, by decide +kernel⟩
theorem gf_X4_111_0 : zGF RX4 111 0 9 := ⟨RX1, TX1, 10, "Assetmerge$Inventory", rfl, zin_X1, by decide, aw_18_15, Or.inl rfl⟩
theorem ca_X1_part : zCal yX1_part cX1_part 3 none 2 := ⟨aw_19_2, aw_1_17, by decide +kernel, by decide +kernel, by decide +kernel⟩
theorem cv_X1_part : zCaV RX1 yX1_part := ⟨aw_19_0, aw_19_1⟩
theorem pf_X4_111_0 : zPF RX4 111 0 9 := ⟨RX1, TX1, 10, "Assetmerge$Inventory", tyX1, rfl, zin_X1, by decide, aw_18_15, rfl, tyX1_ok, nmX1, rfl, by decide +kernel⟩
theorem ca_X1_countPairs : zCal yX1_countPairs cX1_countPairs 3 (some .int) 0 := ⟨aw_19_6, aw_1_17, by decide +kernel, by decide +kernel, by decide +kernel⟩
theorem cv_X1_countPairs : zCaV RX1 yX1_countPairs := ⟨aw_19_4, aw_19_5⟩
theorem ca_X4_checkForbidden : zCal yX4_checkForbidden cX4_checkForbidden 3 none 2 := ⟨aw_19_14, aw_1_2, by decide +kernel, by decide +kernel, by decide +kernel⟩
theorem cv_X4_checkForbidden : zCaV RX4 yX4_checkForbidden := ⟨aw_19_12, aw_19_13⟩
theorem ca_X1_unpart : zCal yX1_unpart cX1_unpart 3 none 2 := ⟨aw_19_18, aw_1_17, by decide +kernel, by decide +kernel, by decide +kernel⟩
theorem cv_X1_unpart : zCaV RX1 yX1_unpart := ⟨aw_19_16, aw_19_17⟩
theorem ca_X4_findThing : zCal yX4_findThing cX4_findThing 2 (some .int) 1 := ⟨aw_11_15, aw_1_2, by decide +kernel, by decide +kernel, by decide +kernel⟩
theorem cv_X4_findThing : zCaV RX4 yX4_findThing := ⟨aw_11_13, aw_11_14⟩
theorem gf_X4_26_3 : zGF RX4 26 3 2 := ⟨RX4, TX4, 6, "Assetmerge", rfl, zin_X4, by decide, aw_2_2, Or.inl rfl⟩
theorem gf_X4_135_2 : zGF RX4 135 2 0 := ⟨RX3, TX3, 2, "Assetmerge$Spreading", rfl, zin_X3, by decide, aw_11_20, Or.inr aw_11_21⟩
theorem ca_X4_findMember : zCal yX4_findMember cX4_findMember 5 (some .int) 2 := ⟨aw_13_14, aw_1_2, by decide +kernel, by decide +kernel, by decide +kernel⟩
theorem cv_X4_findMember : zCaV RX4 yX4_findMember := ⟨aw_13_12, aw_13_13⟩
theorem ca_X4_findStep : zCal yX4_findStep cX4_findStep 4 (some .int) 2 := ⟨aw_20_6, aw_1_2, by decide +kernel, by decide +kernel, by decide +kernel⟩
theorem cv_X4_findStep : zCaV RX4 yX4_findStep := ⟨aw_20_4, aw_20_5⟩
/-! THE CLASS'S CALLS: what each answers, what it leaves, what it refuses -/
theorem tb_ext {x y : Int32} (h : ∀ i, i < 32 → tb x i = tb y i) : x = y := by
  apply Int32.toBitVec_inj.mp
  apply BitVec.eq_of_getLsbD_eq
  intro i hi
  exact h i hi
theorem hid_un {x : Int32} {a : Nat} (ha : a < 32) (h : tb x a = true) : (x &&& (((1 : Int32) <<< (nI a &&& 31)) ^^^ (-1))) ||| ((1 : Int32) <<< (nI a &&& 31)) = x := by
  apply tb_ext
  intro i hi
  rw [tb_set _ ha, tb_clear _ ha hi]
  by_cases e : i = a
  · subst e; simp [h]
  · simp [e]
theorem ff_ok : ∀ s, s < 25 → ∀ a, a < 25 → a ≠ 0 → vf_n32 (FP.fdiv (FP.i2f (nI s)) (FP.i2f (nI a))) := by unfold vf_n32; decide +kernel
def THs (σ : Sg) (n : Nat) : Nat → Prop := fun h => mbr σ n (gC σ n 2) h h
theorem zu_self {σ : Sg} {a b : Nat} {x : Int32} (h : σ a b = x) : zu σ a b x = σ := by
  funext c d
  unfold zu
  by_cases h1 : c = a
  · by_cases h2 : d = b
    · subst h1; subst h2; simp [h]
    · simp [h2]
  · simp [h1]
theorem zu_zu (σ : Sg) (a b : Nat) (x y : Int32) : zu (zu σ a b x) a b y = zu σ a b y := by
  funext c d
  unfold zu
  by_cases h1 : c = a
  · by_cases h2 : d = b
    · simp [h1, h2]
    · simp [h1, h2]
  · simp [h1]
/-- what was put in is taken out again -/
theorem stb_back {σ τ : Sg} {a b : Nat} {x : Int32} (h : stb (zu σ a b x) τ) : stb σ (zu τ a b (σ a b)) := by
  intro c hc
  have h1 := h c hc
  funext d
  unfold zu at h1 ⊢
  by_cases e : c = a
  · subst e
    by_cases e2 : d = b
    · subst e2; simp
    · simp only [if_true, e2, if_false]
      rw [h1]; simp [e2]
  · simp only [e, if_false]
    rw [h1]; simp [e]
theorem fbR_n {σ : Sg} {a b : Nat} (ha : a < 24) (hb : b < 24) : fbR σ (nI a) (nI b) ↔ tb (σ 13 a) b = true := by
  constructor
  · rintro ⟨i, j, e1, e2, h1, h2, h⟩
    rw [eq_of_nI e1 (by omega) (by omega), eq_of_nI e2 (by omega) (by omega)]
    exact h
  · intro h
    exact ⟨a, b, rfl, rfl, ha, hb, h⟩
theorem ptM_o (σ : Sg) (a b : Nat) {c : Nat} (hc : c ≠ 13) : ptM σ a b c = σ c := by unfold ptM; rw [zu_ne _ _ _ hc, zu_ne _ _ _ hc]
theorem upM_o (σ : Sg) (a b : Nat) {c : Nat} (hc : c ≠ 13) : upM σ a b c = σ c := by unfold upM; rw [zu_ne _ _ _ hc, zu_ne _ _ _ hc]
theorem pt_up {σ τ : Sg} {a b : Nat} (hab : a ≠ b) (ha : a < 24) (hb : b < 24) (h1 : tb (σ 13 a) b = true) (h2 : tb (σ 13 b) a = true) (h : stb (upM σ a b) τ) : stb σ (ptM τ a b) := by
  intro c hc
  by_cases e : c = 13
  · subst e
    have h3 := h 13 hc
    funext d
    have hba : b ≠ a := fun q => hab q.symm
    unfold ptM
    unfold upM at h3
    unfold zu at h3 ⊢
    by_cases e1 : d = b
    · subst e1
      simp only [if_true, hba, if_false]
      rw [h3]
      simp only [if_true, hba, if_false]
      exact hid_un (by omega) h2
    · by_cases e2 : d = a
      · subst e2
        simp only [if_true, e1, if_false]
        rw [h3]
        simp only [if_true, e1, if_false]
        exact hid_un (by omega) h1
      · simp only [if_true, e1, e2, if_false]
        rw [h3]
        simp only [if_true, e1, e2, if_false]
  · rw [ptM_o _ _ _ e, h c hc, upM_o _ _ _ e]
/-- the member that a record and an index name -/
def mbx (σ : Sg) (n : Nat) (r ix : Int32) (x : Nat) : Prop := ∃ a, r = nI a ∧ hd σ n a ∧ x < n ∧ mbr σ n (gC σ n 2) (gC σ n 2 a) x ∧ ix = nI (cq (mbr σ n (gC σ n 2) (gC σ n 2 a)) x)
def tgx (σ : Sg) (n : Nat) (r o : Int32) (k : Nat) : Prop := ∃ a b, r = nI a ∧ o = nI b ∧ hd σ n a ∧ hd σ n b ∧ k < 3 ∧ gC σ n k a = gC σ n k b
def ftx (σ : Sg) (n : Nat) (r f : Int32) (x : Nat) : Prop := ∃ a i, r = nI a ∧ f = nI i ∧ hd σ n a ∧ i < 3 ∧ x < n ∧ tf σ n (gC σ n 2) (gC σ n 2 a) i x
def bsx (σ : Sg) (n : Nat) (r f : Int32) (i x : Nat) : Prop := ∃ a, r = nI a ∧ f = nI i ∧ hd σ n a ∧ i < 3 ∧ x < n ∧ bst σ n (gC σ n 2) (gC σ n 2 a) i x
theorem k_X4_addSource (l : Launch) (hst : l.stackTraces = false) {σ : Sg} {m : Nat} (hs : σ 1 7 = nI m) (hm : m ≤ 4) (t : Int32) : xMi l yX4_addSource cX4_addSource 2 .int 7 2 12 Lc [.ref 0, .int t] σ (fun v σ1 => rg t 1 9 ∧ m < 4 ∧ zu (zu σ 2 m t) 1 7 (nI (m + 1)) = σ1 ∧ v = nI m) (pT σ [(eIA, rg t 1 9), (eIS, m < 4)]) := by
  refine zMetx_of (by decide +kernel) (Nat.le_of_ble_eq_true rfl) (fun D cT ad sz => ?_)
  show Wm zNoT l (rmx 7 2 12) RX4 cX4_addSource 2 (some .int) D cT ad Lc (zA ad Lc.length sz) (zZx (fun D cT ad L9 sz => zQi D cT ad L9 sz (fun v σ1 => rg t 1 9 ∧ m < 4 ∧ zu (zu σ 2 m t) 1 7 (nI (m + 1)) = σ1 ∧ v = nI m)) (pT σ [(eIA, rg t 1 9), (eIS, m < 4)]) 2 12 D cT ad Lc sz) [] 0 (lv_args 0 [.ref 0, .int t]) [] σ 0 0
  refine wm_iload_n 1 rfl dX4_addSource_0 rfl rfl ?_
  refine wm_iconst (v := 1) 2 rfl dX4_addSource_1 (by decide) ?_
  refine wm_bipush (v := 9) 4 rfl dX4_addSource_2 (by decide) ?_
  refine wmx_callSv 7 rfl dX4_addSource_4 (k_X4_checkRange l hst _ 1 9) ca_X4_checkRange aw_16_11 aw_16_10 ⟨Nat.le_of_ble_eq_true rfl, Nat.le_of_ble_eq_true rfl⟩ (Nat.le_of_ble_eq_true rfl) ⟨Nat.le_of_ble_eq_true rfl, Nat.le_of_ble_eq_true rfl⟩ ⟨Nat.le_of_ble_eq_true rfl, Nat.le_of_ble_eq_true rfl⟩ (fun E σ1 ⟨e1, e2, e3⟩ => ⟨e2 ▸ stb.rf _, Or.inl ⟨e1, e3⟩⟩) ?_
  rintro σ9 ⟨rfl, p1⟩
  refine wm_aload_n 8 rfl dX4_addSource_7 rfl rfl ?_
  refine wm_getR 11 rfl dX4_addSource_8 gf_X4_12_3 rfl rfl ?_
  refine wm_getI 14 rfl dX4_addSource_11 gf_X4_42_0 rfl rfl ?_
  refine wm_iconst (v := 4) 15 rfl dX4_addSource_14 (by decide) ?_
  refine wm_icmp_lt 28 18 rfl (by decide) dX4_addSource_15 (fun c15 => ?_) (fun c15 => ?_)
  · rw [hs] at c15
    have q15 : m < 4 := nI_gt (b := 4) c15 (by omega) (by omega)
    refine wm_aload_n 29 rfl dX4_addSource_28 rfl rfl ?_
    refine wm_getR 32 rfl dX4_addSource_29 gf_X4_12_3 rfl rfl ?_
    refine wm_iload_n 33 rfl dX4_addSource_32 rfl rfl ?_
    refine wm_callVi (ty := .int) 36 rfl dX4_addSource_33 (k_X1_putSource l hs q15 t) ca_X1_putSource cv_X1_putSource rfl aw_16_15 rfl rfl ⟨Nat.le_of_ble_eq_true rfl, Nat.le_of_ble_eq_true rfl⟩ (Nat.le_of_ble_eq_true rfl) ⟨Nat.le_of_ble_eq_true rfl, Nat.le_of_ble_eq_true rfl⟩ ?_
    rintro r9 σ9 ⟨rfl, rfl⟩
    exact wmx_iret dX4_addSource_36 (by first | rfl | exact zp_nar) ⟨p1, q15, rfl, rfl⟩ (Nat.le_of_ble_eq_true rfl) (Nat.le_of_ble_eq_true rfl)
  · rw [hs] at c15
    have q15 : 4 ≤ m := nI_ngt (b := 4) c15 (by omega) (by omega)
    exact wmx_throw th_ISE (List.mem_of_getElem? (i := 1) rfl) hst dX4_addSource_18 dX4_addSource_21 dX4_addSource_22 dX4_addSource_24 dX4_addSource_27 ⟨Nat.le_of_ble_eq_true rfl, Nat.le_of_ble_eq_true rfl, Nat.le_of_ble_eq_true rfl, Nat.le_of_ble_eq_true rfl⟩ (Nat.le_of_ble_eq_true rfl) (Nat.le_of_ble_eq_true rfl) (⟨stb.rf _, Or.inr ⟨p1, Or.inl ⟨rfl, by omega⟩⟩⟩)
theorem k_X4_setTrust (l : Launch) (hst : l.stackTraces = false) {σ : Sg} {m : Nat} (hs : σ 1 7 = nI m) (hm : m ≤ 4) (r t : Int32) : xMi l yX4_setTrust cX4_setTrust 4 .int 7 2 12 Lc [.ref 0, .int r, .int t] σ (fun v σ1 => rg t 1 9 ∧ ∃ i, r = nI i ∧ i < m ∧ zu σ 2 i t = σ1 ∧ v = σ 2 i) (pT σ [(eIO, nR m r), (eIA, rg t 1 9)]) := by
  refine zMetx_of (by decide +kernel) (Nat.le_of_ble_eq_true rfl) (fun D cT ad sz => ?_)
  show Wm zNoT l (rmx 7 2 12) RX4 cX4_setTrust 4 (some .int) D cT ad Lc (zA ad Lc.length sz) (zZx (fun D cT ad L9 sz => zQi D cT ad L9 sz (fun v σ1 => rg t 1 9 ∧ ∃ i, r = nI i ∧ i < m ∧ zu σ 2 i t = σ1 ∧ v = σ 2 i)) (pT σ [(eIO, nR m r), (eIA, rg t 1 9)]) 2 12 D cT ad Lc sz) [] 0 (lv_args 0 [.ref 0, .int r, .int t]) [] σ 0 0
  refine wm_aload_n 1 rfl dX4_setTrust_0 rfl rfl ?_
  refine wm_iload_n 2 rfl dX4_setTrust_1 rfl rfl ?_
  refine wmx_callVv 5 rfl dX4_setTrust_2 (k_X4_checkSource l hst hs (by omega) _) ca_X4_checkSource cv_X4_checkSource rfl aw_17_1 rfl rfl ⟨Nat.le_of_ble_eq_true rfl, Nat.le_of_ble_eq_true rfl⟩ (Nat.le_of_ble_eq_true rfl) ⟨Nat.le_of_ble_eq_true rfl, Nat.le_of_ble_eq_true rfl⟩ ⟨Nat.le_of_ble_eq_true rfl, Nat.le_of_ble_eq_true rfl⟩ (fun E σ1 ⟨e1, e2, e3⟩ => ⟨e2 ▸ stb.rf _, Or.inl ⟨e1, e3⟩⟩) ?_
  rintro σ9 ⟨rfl, p1⟩
  have q1 := p1
  obtain ⟨i, rfl, hi⟩ := q1
  refine wm_iload_n 6 rfl dX4_setTrust_5 rfl rfl ?_
  refine wm_iconst (v := 1) 7 rfl dX4_setTrust_6 (by decide) ?_
  refine wm_bipush (v := 9) 9 rfl dX4_setTrust_7 (by decide) ?_
  refine wmx_callSv 12 rfl dX4_setTrust_9 (k_X4_checkRange l hst _ 1 9) ca_X4_checkRange aw_16_11 aw_16_10 ⟨Nat.le_of_ble_eq_true rfl, Nat.le_of_ble_eq_true rfl⟩ (Nat.le_of_ble_eq_true rfl) ⟨Nat.le_of_ble_eq_true rfl, Nat.le_of_ble_eq_true rfl⟩ ⟨Nat.le_of_ble_eq_true rfl, Nat.le_of_ble_eq_true rfl⟩ (fun E σ1 ⟨e1, e2, e3⟩ => ⟨e2 ▸ stb.rf _, Or.inr ⟨p1, Or.inl ⟨e1, e3⟩⟩⟩) ?_
  rintro σ9 ⟨rfl, p2⟩
  refine wm_aload_n 13 rfl dX4_setTrust_12 rfl rfl ?_
  refine wm_getR 16 rfl dX4_setTrust_13 gf_X4_12_3 rfl rfl ?_
  refine wm_getR 19 rfl dX4_setTrust_16 gf_X4_60_0 rfl rfl ?_
  refine wm_iload_n 20 rfl dX4_setTrust_19 rfl rfl ?_
  refine wm_iaload 21 rfl dX4_setTrust_20 rfl (vp_in_nI (by omega) (by omega)) ?_
  refine wm_istore_n (ls' := [(3, _), (0, _), (1, _), (2, _)]) 22 rfl dX4_setTrust_21 rfl (by decide) rfl ?_
  refine wm_aload_n 23 rfl dX4_setTrust_22 rfl rfl ?_
  refine wm_getR 26 rfl dX4_setTrust_23 gf_X4_12_3 rfl rfl ?_
  refine wm_getR 29 rfl dX4_setTrust_26 gf_X4_60_0 rfl rfl ?_
  refine wm_iload_n 30 rfl dX4_setTrust_29 rfl rfl ?_
  refine wm_iload_n 31 rfl dX4_setTrust_30 rfl rfl ?_
  refine wm_iastore 32 rfl dX4_setTrust_31 rfl (vp_in_nI (by omega) (by omega)) ?_
  refine wm_iload_n 33 rfl dX4_setTrust_32 rfl rfl ?_
  exact wmx_iret dX4_setTrust_33 (by first | rfl | exact zp_nar) ⟨p2, i, rfl, hi, by rw [nI_clamp (by omega)], by rw [nI_clamp (by omega)]⟩ (Nat.le_of_ble_eq_true rfl) (Nat.le_of_ble_eq_true rfl)
theorem k_X4_addRecord (l : Launch) (hst : l.stackTraces = false) {σ : Sg} {n : Nat} (hI : cI σ n) {m : Nat} (hs : σ 1 7 = nI m) (hm : m ≤ 4) (s k0 k1 k2 : Int32) : xMi l yX4_addRecord cX4_addRecord 6 .int 7 5 30 Lc [.ref 0, .int s, .int k0, .int k1, .int k2] σ (fun v σ1 => nR m s ∧ (rg k0 (-1) 99 ∧ rg k1 (-1) 99 ∧ rg k2 (-1) 99) ∧ n < 24 ∧ zu (zu (zu (zu (zu (prM σ n s (σ 0 4) 3) 1 8 (nI (n + 1))) 1 6 (σ 1 6 ||| ((1 : Int32) <<< (nI n &&& 31)))) 7 n k0) 8 n k1) 9 n k2 = σ1 ∧ v = nI n) (pT σ [(eIO, nR m s), (eIA, rg k0 (-1) 99), (eIA, rg k1 (-1) 99), (eIA, rg k2 (-1) 99), (eIS, n < 24)]) := by
  have h24 := hI.2
  refine zMetx_of (by decide +kernel) (Nat.le_of_ble_eq_true rfl) (fun D cT ad sz => ?_)
  show Wm zNoT l (rmx 7 5 30) RX4 cX4_addRecord 6 (some .int) D cT ad Lc (zA ad Lc.length sz) (zZx (fun D cT ad L9 sz => zQi D cT ad L9 sz (fun v σ1 => nR m s ∧ (rg k0 (-1) 99 ∧ rg k1 (-1) 99 ∧ rg k2 (-1) 99) ∧ n < 24 ∧ zu (zu (zu (zu (zu (prM σ n s (σ 0 4) 3) 1 8 (nI (n + 1))) 1 6 (σ 1 6 ||| ((1 : Int32) <<< (nI n &&& 31)))) 7 n k0) 8 n k1) 9 n k2 = σ1 ∧ v = nI n)) (pT σ [(eIO, nR m s), (eIA, rg k0 (-1) 99), (eIA, rg k1 (-1) 99), (eIA, rg k2 (-1) 99), (eIS, n < 24)]) 5 30 D cT ad Lc sz) [] 0 (lv_args 0 [.ref 0, .int s, .int k0, .int k1, .int k2]) [] σ 0 0
  refine wm_aload_n 1 rfl dX4_addRecord_0 rfl rfl ?_
  refine wm_iload_n 2 rfl dX4_addRecord_1 rfl rfl ?_
  refine wmx_callVv 5 rfl dX4_addRecord_2 (k_X4_checkSource l hst hs (by omega) _) ca_X4_checkSource cv_X4_checkSource rfl aw_17_1 rfl rfl ⟨Nat.le_of_ble_eq_true rfl, Nat.le_of_ble_eq_true rfl⟩ (Nat.le_of_ble_eq_true rfl) ⟨Nat.le_of_ble_eq_true rfl, Nat.le_of_ble_eq_true rfl⟩ ⟨Nat.le_of_ble_eq_true rfl, Nat.le_of_ble_eq_true rfl⟩ (fun E σ1 ⟨e1, e2, e3⟩ => ⟨e2 ▸ stb.rf _, Or.inl ⟨e1, e3⟩⟩) ?_
  rintro σ9 ⟨rfl, p1⟩
  refine wm_iload_n 6 rfl dX4_addRecord_5 rfl rfl ?_
  refine wm_iconst (v := (-1)) 7 rfl dX4_addRecord_6 (by decide) ?_
  refine wm_bipush (v := 99) 9 rfl dX4_addRecord_7 (by decide) ?_
  refine wmx_callSv 12 rfl dX4_addRecord_9 (k_X4_checkRange l hst _ (-1) 99) ca_X4_checkRange aw_16_11 aw_16_10 ⟨Nat.le_of_ble_eq_true rfl, Nat.le_of_ble_eq_true rfl⟩ (Nat.le_of_ble_eq_true rfl) ⟨Nat.le_of_ble_eq_true rfl, Nat.le_of_ble_eq_true rfl⟩ ⟨Nat.le_of_ble_eq_true rfl, Nat.le_of_ble_eq_true rfl⟩ (fun E σ1 ⟨e1, e2, e3⟩ => ⟨e2 ▸ stb.rf _, Or.inr ⟨p1, Or.inl ⟨e1, e3⟩⟩⟩) ?_
  rintro σ9 ⟨rfl, p2⟩
  refine wm_iload_n 13 rfl dX4_addRecord_12 rfl rfl ?_
  refine wm_iconst (v := (-1)) 14 rfl dX4_addRecord_13 (by decide) ?_
  refine wm_bipush (v := 99) 16 rfl dX4_addRecord_14 (by decide) ?_
  refine wmx_callSv 19 rfl dX4_addRecord_16 (k_X4_checkRange l hst _ (-1) 99) ca_X4_checkRange aw_16_11 aw_16_10 ⟨Nat.le_of_ble_eq_true rfl, Nat.le_of_ble_eq_true rfl⟩ (Nat.le_of_ble_eq_true rfl) ⟨Nat.le_of_ble_eq_true rfl, Nat.le_of_ble_eq_true rfl⟩ ⟨Nat.le_of_ble_eq_true rfl, Nat.le_of_ble_eq_true rfl⟩ (fun E σ1 ⟨e1, e2, e3⟩ => ⟨e2 ▸ stb.rf _, Or.inr ⟨p1, Or.inr ⟨p2, Or.inl ⟨e1, e3⟩⟩⟩⟩) ?_
  rintro σ9 ⟨rfl, p3⟩
  refine wm_iload 21 rfl dX4_addRecord_19 rfl ?_
  refine wm_iconst (v := (-1)) 22 rfl dX4_addRecord_21 (by decide) ?_
  refine wm_bipush (v := 99) 24 rfl dX4_addRecord_22 (by decide) ?_
  refine wmx_callSv 27 rfl dX4_addRecord_24 (k_X4_checkRange l hst _ (-1) 99) ca_X4_checkRange aw_16_11 aw_16_10 ⟨Nat.le_of_ble_eq_true rfl, Nat.le_of_ble_eq_true rfl⟩ (Nat.le_of_ble_eq_true rfl) ⟨Nat.le_of_ble_eq_true rfl, Nat.le_of_ble_eq_true rfl⟩ ⟨Nat.le_of_ble_eq_true rfl, Nat.le_of_ble_eq_true rfl⟩ (fun E σ1 ⟨e1, e2, e3⟩ => ⟨e2 ▸ stb.rf _, Or.inr ⟨p1, Or.inr ⟨p2, Or.inr ⟨p3, Or.inl ⟨e1, e3⟩⟩⟩⟩⟩) ?_
  rintro σ9 ⟨rfl, p4⟩
  refine wm_aload_n 28 rfl dX4_addRecord_27 rfl rfl ?_
  refine wm_getR 31 rfl dX4_addRecord_28 gf_X4_12_3 rfl rfl ?_
  refine wm_getI 34 rfl dX4_addRecord_31 gf_X4_63_0 rfl rfl ?_
  refine wm_bipush (v := 24) 36 rfl dX4_addRecord_34 (by decide) ?_
  refine wm_icmp_lt 49 39 rfl (by decide) dX4_addRecord_36 (fun c36 => ?_) (fun c36 => ?_)
  · rw [hI.1] at c36
    have q36 : n < 24 := nI_gt (b := 24) c36 (by omega) (by omega)
    refine wm_aload_n 50 rfl dX4_addRecord_49 rfl rfl ?_
    refine wm_getR 53 rfl dX4_addRecord_50 gf_X4_12_3 rfl rfl ?_
    refine wm_iload_n 54 rfl dX4_addRecord_53 rfl rfl ?_
    refine wm_aload_n 55 rfl dX4_addRecord_54 rfl rfl ?_
    refine wm_getI 58 rfl dX4_addRecord_55 gf_X4_68_3 rfl rfl ?_
    refine wm_callVi (ty := .int) 61 rfl dX4_addRecord_58 (k_X1_putRecord l hI.1 q36 _ _) ca_X1_putRecord cv_X1_putRecord rfl aw_17_12 rfl rfl ⟨Nat.le_of_ble_eq_true rfl, Nat.le_of_ble_eq_true rfl⟩ (Nat.le_of_ble_eq_true rfl) ⟨Nat.le_of_ble_eq_true rfl, Nat.le_of_ble_eq_true rfl⟩ ?_
    rintro r9 σ9 ⟨rfl, rfl⟩
    refine wm_istore (ls' := [(5, _), (0, _), (1, _), (2, _), (3, _), (4, _)]) 63 rfl dX4_addRecord_61 (by decide) rfl ?_
    refine wm_aload_n 64 rfl dX4_addRecord_63 rfl rfl ?_
    refine wm_getR 67 rfl dX4_addRecord_64 gf_X4_12_3 rfl rfl ?_
    refine wm_getR 70 rfl dX4_addRecord_67 gf_X4_75_0 rfl rfl ?_
    refine wm_iconst (v := 0) 71 rfl dX4_addRecord_70 (by decide) ?_
    refine wm_aaload (r := 7) 72 rfl dX4_addRecord_71 rfl vp03 rfl ?_
    refine wm_iload 74 rfl dX4_addRecord_72 rfl ?_
    refine wm_iload_n 75 rfl dX4_addRecord_74 rfl rfl ?_
    refine wm_iastore 76 rfl dX4_addRecord_75 rfl (in24 q36 (by omega)) ?_
    refine wm_aload_n 77 rfl dX4_addRecord_76 rfl rfl ?_
    refine wm_getR 80 rfl dX4_addRecord_77 gf_X4_12_3 rfl rfl ?_
    refine wm_getR 83 rfl dX4_addRecord_80 gf_X4_75_0 rfl rfl ?_
    refine wm_iconst (v := 1) 84 rfl dX4_addRecord_83 (by decide) ?_
    refine wm_aaload (r := 8) 85 rfl dX4_addRecord_84 rfl vp13 rfl ?_
    refine wm_iload 87 rfl dX4_addRecord_85 rfl ?_
    refine wm_iload_n 88 rfl dX4_addRecord_87 rfl rfl ?_
    refine wm_iastore 89 rfl dX4_addRecord_88 rfl (in24 q36 (by omega)) ?_
    refine wm_aload_n 90 rfl dX4_addRecord_89 rfl rfl ?_
    refine wm_getR 93 rfl dX4_addRecord_90 gf_X4_12_3 rfl rfl ?_
    refine wm_getR 96 rfl dX4_addRecord_93 gf_X4_75_0 rfl rfl ?_
    refine wm_iconst (v := 2) 97 rfl dX4_addRecord_96 (by decide) ?_
    refine wm_aaload (r := 9) 98 rfl dX4_addRecord_97 rfl vp23 rfl ?_
    refine wm_iload 100 rfl dX4_addRecord_98 rfl ?_
    refine wm_iload 102 rfl dX4_addRecord_100 rfl ?_
    refine wm_iastore 103 rfl dX4_addRecord_102 rfl (in24 q36 (by omega)) ?_
    refine wm_iload 105 rfl dX4_addRecord_103 rfl ?_
    exact wmx_iret dX4_addRecord_105 (by first | rfl | exact zp_nar) ⟨p1, ⟨p2, p3, p4⟩, q36, by rw [nI_clamp (by omega)], rfl⟩ (Nat.le_of_ble_eq_true rfl) (Nat.le_of_ble_eq_true rfl)
  · rw [hI.1] at c36
    have q36 : 24 ≤ n := nI_ngt (b := 24) c36 (by omega) (by omega)
    exact wmx_throw th_ISE (List.mem_of_getElem? (i := 3) rfl) hst dX4_addRecord_39 dX4_addRecord_42 dX4_addRecord_43 dX4_addRecord_45 dX4_addRecord_48 ⟨Nat.le_of_ble_eq_true rfl, Nat.le_of_ble_eq_true rfl, Nat.le_of_ble_eq_true rfl, Nat.le_of_ble_eq_true rfl⟩ (Nat.le_of_ble_eq_true rfl) (Nat.le_of_ble_eq_true rfl) (⟨stb.rf _, Or.inr ⟨p1, Or.inr ⟨p2, Or.inr ⟨p3, Or.inr ⟨p4, Or.inl ⟨rfl, by omega⟩⟩⟩⟩⟩⟩)
theorem k_X4_setKey (l : Launch) (hst : l.stackTraces = false) {σ : Sg} {n : Nat} (hI : cI σ n) (r k v : Int32) : xMi l yX4_setKey cX4_setKey 5 .int 7 3 18 Lc [.ref 0, .int r, .int k, .int v] σ (fun o σ1 => rg v (-1) 99 ∧ ∃ a i, r = nI a ∧ hd σ n a ∧ k = nI i ∧ i < 3 ∧ zu σ (7 + i) a v = σ1 ∧ o = σ (7 + i) a) (pT σ [(eIO, hdR σ n r), (eIO, nR 3 k), (eIA, rg v (-1) 99)]) := by
  have h24 := hI.2
  refine zMetx_of (by decide +kernel) (Nat.le_of_ble_eq_true rfl) (fun D cT ad sz => ?_)
  show Wm zNoT l (rmx 7 3 18) RX4 cX4_setKey 5 (some .int) D cT ad Lc (zA ad Lc.length sz) (zZx (fun D cT ad L9 sz => zQi D cT ad L9 sz (fun o σ1 => rg v (-1) 99 ∧ ∃ a i, r = nI a ∧ hd σ n a ∧ k = nI i ∧ i < 3 ∧ zu σ (7 + i) a v = σ1 ∧ o = σ (7 + i) a)) (pT σ [(eIO, hdR σ n r), (eIO, nR 3 k), (eIA, rg v (-1) 99)]) 3 18 D cT ad Lc sz) [] 0 (lv_args 0 [.ref 0, .int r, .int k, .int v]) [] σ 0 0
  refine wm_aload_n 1 rfl dX4_setKey_0 rfl rfl ?_
  refine wm_iload_n 2 rfl dX4_setKey_1 rfl rfl ?_
  refine wmx_callVv 5 rfl dX4_setKey_2 (k_X4_checkRecord l hst hI _) ca_X4_checkRecord cv_X4_checkRecord rfl aw_10_14 rfl rfl ⟨Nat.le_of_ble_eq_true rfl, Nat.le_of_ble_eq_true rfl⟩ (Nat.le_of_ble_eq_true rfl) ⟨Nat.le_of_ble_eq_true rfl, Nat.le_of_ble_eq_true rfl⟩ ⟨Nat.le_of_ble_eq_true rfl, Nat.le_of_ble_eq_true rfl⟩ (fun E σ1 ⟨e1, e2, e3⟩ => ⟨e2 ▸ stb.rf _, Or.inl ⟨e1, e3⟩⟩) ?_
  rintro σ9 ⟨rfl, p1⟩
  have q1 := p1
  obtain ⟨a, rfl, ha⟩ := q1
  have han := ha.1
  refine wm_iload_n 6 rfl dX4_setKey_5 rfl rfl ?_
  refine wmx_callSv 9 rfl dX4_setKey_6 (k_X4_checkKind l hst _) ca_X4_checkKind aw_13_21 aw_13_20 ⟨Nat.le_of_ble_eq_true rfl, Nat.le_of_ble_eq_true rfl⟩ (Nat.le_of_ble_eq_true rfl) ⟨Nat.le_of_ble_eq_true rfl, Nat.le_of_ble_eq_true rfl⟩ ⟨Nat.le_of_ble_eq_true rfl, Nat.le_of_ble_eq_true rfl⟩ (fun E σ1 ⟨e1, e2, e3⟩ => ⟨e2 ▸ stb.rf _, Or.inr ⟨p1, Or.inl ⟨e1, e3⟩⟩⟩) ?_
  rintro σ9 ⟨rfl, p2⟩
  have qk := p2
  obtain ⟨i, rfl, hi⟩ := qk
  refine wm_iload_n 10 rfl dX4_setKey_9 rfl rfl ?_
  refine wm_iconst (v := (-1)) 11 rfl dX4_setKey_10 (by decide) ?_
  refine wm_bipush (v := 99) 13 rfl dX4_setKey_11 (by decide) ?_
  refine wmx_callSv 16 rfl dX4_setKey_13 (k_X4_checkRange l hst _ (-1) 99) ca_X4_checkRange aw_16_11 aw_16_10 ⟨Nat.le_of_ble_eq_true rfl, Nat.le_of_ble_eq_true rfl⟩ (Nat.le_of_ble_eq_true rfl) ⟨Nat.le_of_ble_eq_true rfl, Nat.le_of_ble_eq_true rfl⟩ ⟨Nat.le_of_ble_eq_true rfl, Nat.le_of_ble_eq_true rfl⟩ (fun E σ1 ⟨e1, e2, e3⟩ => ⟨e2 ▸ stb.rf _, Or.inr ⟨p1, Or.inr ⟨p2, Or.inl ⟨e1, e3⟩⟩⟩⟩) ?_
  rintro σ9 ⟨rfl, p3⟩
  refine wm_aload_n 17 rfl dX4_setKey_16 rfl rfl ?_
  refine wm_getR 20 rfl dX4_setKey_17 gf_X4_12_3 rfl rfl ?_
  refine wm_getR 23 rfl dX4_setKey_20 gf_X4_75_0 rfl rfl ?_
  refine wm_iload_n 24 rfl dX4_setKey_23 rfl rfl ?_
  refine wm_aaload (r := 7 + i) 25 rfl dX4_setKey_24 rfl (vp_in_nI hi (by omega)) (by rw [nI_clamp (by omega)]) ?_
  refine wm_iload_n 26 rfl dX4_setKey_25 rfl rfl ?_
  refine wm_iaload 27 rfl dX4_setKey_26 (Lc_key hi) (in24 han h24) ?_
  refine wm_istore (ls' := [(4, _), (0, _), (1, _), (2, _), (3, _)]) 29 rfl dX4_setKey_27 (by decide) rfl ?_
  refine wm_aload_n 30 rfl dX4_setKey_29 rfl rfl ?_
  refine wm_getR 33 rfl dX4_setKey_30 gf_X4_12_3 rfl rfl ?_
  refine wm_getR 36 rfl dX4_setKey_33 gf_X4_75_0 rfl rfl ?_
  refine wm_iload_n 37 rfl dX4_setKey_36 rfl rfl ?_
  refine wm_aaload (r := 7 + i) 38 rfl dX4_setKey_37 rfl (vp_in_nI hi (by omega)) (by rw [nI_clamp (by omega)]) ?_
  refine wm_iload_n 39 rfl dX4_setKey_38 rfl rfl ?_
  refine wm_iload_n 40 rfl dX4_setKey_39 rfl rfl ?_
  refine wm_iastore 41 rfl dX4_setKey_40 (Lc_key hi) (in24 han h24) ?_
  refine wm_iload 43 rfl dX4_setKey_41 rfl ?_
  exact wmx_iret dX4_setKey_43 (by first | rfl | exact zp_nar) ⟨p3, a, i, rfl, ha, rfl, hi, by rw [nI_clamp (by omega)], by rw [nI_clamp (by omega)]⟩ (Nat.le_of_ble_eq_true rfl) (Nat.le_of_ble_eq_true rfl)
theorem k_X4_setFact (l : Launch) (hst : l.stackTraces = false) {σ : Sg} {n : Nat} (hI : cI σ n) (r k v : Int32) : xMi l yX4_setFact cX4_setFact 5 .int 7 3 18 Lc [.ref 0, .int r, .int k, .int v] σ (fun o σ1 => rg v (-1) 999 ∧ ∃ a i, r = nI a ∧ hd σ n a ∧ k = nI i ∧ i < 3 ∧ zu σ (10 + i) a v = σ1 ∧ o = σ (10 + i) a) (pT σ [(eIO, hdR σ n r), (eIO, nR 3 k), (eIA, rg v (-1) 999)]) := by
  have h24 := hI.2
  refine zMetx_of (by decide +kernel) (Nat.le_of_ble_eq_true rfl) (fun D cT ad sz => ?_)
  show Wm zNoT l (rmx 7 3 18) RX4 cX4_setFact 5 (some .int) D cT ad Lc (zA ad Lc.length sz) (zZx (fun D cT ad L9 sz => zQi D cT ad L9 sz (fun o σ1 => rg v (-1) 999 ∧ ∃ a i, r = nI a ∧ hd σ n a ∧ k = nI i ∧ i < 3 ∧ zu σ (10 + i) a v = σ1 ∧ o = σ (10 + i) a)) (pT σ [(eIO, hdR σ n r), (eIO, nR 3 k), (eIA, rg v (-1) 999)]) 3 18 D cT ad Lc sz) [] 0 (lv_args 0 [.ref 0, .int r, .int k, .int v]) [] σ 0 0
  refine wm_aload_n 1 rfl dX4_setFact_0 rfl rfl ?_
  refine wm_iload_n 2 rfl dX4_setFact_1 rfl rfl ?_
  refine wmx_callVv 5 rfl dX4_setFact_2 (k_X4_checkRecord l hst hI _) ca_X4_checkRecord cv_X4_checkRecord rfl aw_10_14 rfl rfl ⟨Nat.le_of_ble_eq_true rfl, Nat.le_of_ble_eq_true rfl⟩ (Nat.le_of_ble_eq_true rfl) ⟨Nat.le_of_ble_eq_true rfl, Nat.le_of_ble_eq_true rfl⟩ ⟨Nat.le_of_ble_eq_true rfl, Nat.le_of_ble_eq_true rfl⟩ (fun E σ1 ⟨e1, e2, e3⟩ => ⟨e2 ▸ stb.rf _, Or.inl ⟨e1, e3⟩⟩) ?_
  rintro σ9 ⟨rfl, p1⟩
  have q1 := p1
  obtain ⟨a, rfl, ha⟩ := q1
  have han := ha.1
  refine wm_iload_n 6 rfl dX4_setFact_5 rfl rfl ?_
  refine wmx_callSv 9 rfl dX4_setFact_6 (k_X4_checkField l hst _) ca_X4_checkField aw_14_8 aw_14_7 ⟨Nat.le_of_ble_eq_true rfl, Nat.le_of_ble_eq_true rfl⟩ (Nat.le_of_ble_eq_true rfl) ⟨Nat.le_of_ble_eq_true rfl, Nat.le_of_ble_eq_true rfl⟩ ⟨Nat.le_of_ble_eq_true rfl, Nat.le_of_ble_eq_true rfl⟩ (fun E σ1 ⟨e1, e2, e3⟩ => ⟨e2 ▸ stb.rf _, Or.inr ⟨p1, Or.inl ⟨e1, e3⟩⟩⟩) ?_
  rintro σ9 ⟨rfl, p2⟩
  have qk := p2
  obtain ⟨i, rfl, hi⟩ := qk
  refine wm_iload_n 10 rfl dX4_setFact_9 rfl rfl ?_
  refine wm_iconst (v := (-1)) 11 rfl dX4_setFact_10 (by decide) ?_
  refine wm_sipush (v := 999) 14 rfl dX4_setFact_11 (by decide) ?_
  refine wmx_callSv 17 rfl dX4_setFact_14 (k_X4_checkRange l hst _ (-1) 999) ca_X4_checkRange aw_16_11 aw_16_10 ⟨Nat.le_of_ble_eq_true rfl, Nat.le_of_ble_eq_true rfl⟩ (Nat.le_of_ble_eq_true rfl) ⟨Nat.le_of_ble_eq_true rfl, Nat.le_of_ble_eq_true rfl⟩ ⟨Nat.le_of_ble_eq_true rfl, Nat.le_of_ble_eq_true rfl⟩ (fun E σ1 ⟨e1, e2, e3⟩ => ⟨e2 ▸ stb.rf _, Or.inr ⟨p1, Or.inr ⟨p2, Or.inl ⟨e1, e3⟩⟩⟩⟩) ?_
  rintro σ9 ⟨rfl, p3⟩
  refine wm_aload_n 18 rfl dX4_setFact_17 rfl rfl ?_
  refine wm_getR 21 rfl dX4_setFact_18 gf_X4_12_3 rfl rfl ?_
  refine wm_getR 24 rfl dX4_setFact_21 gf_X4_88_0 rfl rfl ?_
  refine wm_iload_n 25 rfl dX4_setFact_24 rfl rfl ?_
  refine wm_aaload (r := 10 + i) 26 rfl dX4_setFact_25 rfl (vp_in_nI hi (by omega)) (by rw [nI_clamp (by omega)]) ?_
  refine wm_iload_n 27 rfl dX4_setFact_26 rfl rfl ?_
  refine wm_iaload 28 rfl dX4_setFact_27 (Lc_fact hi) (in24 han h24) ?_
  refine wm_istore (ls' := [(4, _), (0, _), (1, _), (2, _), (3, _)]) 30 rfl dX4_setFact_28 (by decide) rfl ?_
  refine wm_aload_n 31 rfl dX4_setFact_30 rfl rfl ?_
  refine wm_getR 34 rfl dX4_setFact_31 gf_X4_12_3 rfl rfl ?_
  refine wm_getR 37 rfl dX4_setFact_34 gf_X4_88_0 rfl rfl ?_
  refine wm_iload_n 38 rfl dX4_setFact_37 rfl rfl ?_
  refine wm_aaload (r := 10 + i) 39 rfl dX4_setFact_38 rfl (vp_in_nI hi (by omega)) (by rw [nI_clamp (by omega)]) ?_
  refine wm_iload_n 40 rfl dX4_setFact_39 rfl rfl ?_
  refine wm_iload_n 41 rfl dX4_setFact_40 rfl rfl ?_
  refine wm_iastore 42 rfl dX4_setFact_41 (Lc_fact hi) (in24 han h24) ?_
  refine wm_iload 44 rfl dX4_setFact_42 rfl ?_
  exact wmx_iret dX4_setFact_44 (by first | rfl | exact zp_nar) ⟨p3, a, i, rfl, ha, rfl, hi, by rw [nI_clamp (by omega)], by rw [nI_clamp (by omega)]⟩ (Nat.le_of_ble_eq_true rfl) (Nat.le_of_ble_eq_true rfl)
theorem k_X4_see (l : Launch) (hst : l.stackTraces = false) {σ : Sg} {n : Nat} (hI : cI σ n) (r : Int32) : xMi l yX4_see cX4_see 3 .int 7 1 6 Lc [.ref 0, .int r] σ (fun o σ1 => ∃ a, r = nI a ∧ hd σ n a ∧ zu σ 4 a (σ 0 4) = σ1 ∧ o = σ 4 a) (pT σ [(eIO, hdR σ n r)]) := by
  have h24 := hI.2
  refine zMetx_of (by decide +kernel) (Nat.le_of_ble_eq_true rfl) (fun D cT ad sz => ?_)
  show Wm zNoT l (rmx 7 1 6) RX4 cX4_see 3 (some .int) D cT ad Lc (zA ad Lc.length sz) (zZx (fun D cT ad L9 sz => zQi D cT ad L9 sz (fun o σ1 => ∃ a, r = nI a ∧ hd σ n a ∧ zu σ 4 a (σ 0 4) = σ1 ∧ o = σ 4 a)) (pT σ [(eIO, hdR σ n r)]) 1 6 D cT ad Lc sz) [] 0 (lv_args 0 [.ref 0, .int r]) [] σ 0 0
  refine wm_aload_n 1 rfl dX4_see_0 rfl rfl ?_
  refine wm_iload_n 2 rfl dX4_see_1 rfl rfl ?_
  refine wmx_callVv 5 rfl dX4_see_2 (k_X4_checkRecord l hst hI _) ca_X4_checkRecord cv_X4_checkRecord rfl aw_10_14 rfl rfl ⟨Nat.le_of_ble_eq_true rfl, Nat.le_of_ble_eq_true rfl⟩ (Nat.le_of_ble_eq_true rfl) ⟨Nat.le_of_ble_eq_true rfl, Nat.le_of_ble_eq_true rfl⟩ ⟨Nat.le_of_ble_eq_true rfl, Nat.le_of_ble_eq_true rfl⟩ (fun E σ1 ⟨e1, e2, e3⟩ => ⟨e2 ▸ stb.rf _, Or.inl ⟨e1, e3⟩⟩) ?_
  rintro σ9 ⟨rfl, p1⟩
  have q1 := p1
  obtain ⟨a, rfl, ha⟩ := q1
  have han := ha.1
  refine wm_aload_n 6 rfl dX4_see_5 rfl rfl ?_
  refine wm_getR 9 rfl dX4_see_6 gf_X4_12_3 rfl rfl ?_
  refine wm_getR 12 rfl dX4_see_9 gf_X4_91_0 rfl rfl ?_
  refine wm_iload_n 13 rfl dX4_see_12 rfl rfl ?_
  refine wm_iaload 14 rfl dX4_see_13 rfl (in24 han h24) ?_
  refine wm_istore_n (ls' := [(2, _), (0, _), (1, _)]) 15 rfl dX4_see_14 rfl (by decide) rfl ?_
  refine wm_aload_n 16 rfl dX4_see_15 rfl rfl ?_
  refine wm_getR 19 rfl dX4_see_16 gf_X4_12_3 rfl rfl ?_
  refine wm_getR 22 rfl dX4_see_19 gf_X4_91_0 rfl rfl ?_
  refine wm_iload_n 23 rfl dX4_see_22 rfl rfl ?_
  refine wm_aload_n 24 rfl dX4_see_23 rfl rfl ?_
  refine wm_getI 27 rfl dX4_see_24 gf_X4_68_3 rfl rfl ?_
  refine wm_iastore 28 rfl dX4_see_27 rfl (in24 han h24) ?_
  refine wm_iload_n 29 rfl dX4_see_28 rfl rfl ?_
  exact wmx_iret dX4_see_29 (by first | rfl | exact zp_nar) ⟨a, rfl, ha, by rw [nI_clamp (by omega)], by rw [nI_clamp (by omega)]⟩ (Nat.le_of_ble_eq_true rfl) (Nat.le_of_ble_eq_true rfl)
theorem k_X4_drop (l : Launch) (hst : l.stackTraces = false) {σ : Sg} {n : Nat} (hI : cI σ n) (r : Int32) : xMi l yX4_drop cX4_drop 2 .int 7 1 6 Lc [.ref 0, .int r] σ (fun o σ1 => ∃ a, r = nI a ∧ hd σ n a ∧ zu σ 1 6 (σ 1 6 &&& (((1 : Int32) <<< (nI a &&& 31)) ^^^ (-1))) = σ1 ∧ o = nI (popc (σ 1 6 &&& (((1 : Int32) <<< (nI a &&& 31)) ^^^ (-1))))) (pT σ [(eIO, hdR σ n r)]) := by
  have h24 := hI.2
  refine zMetx_of (by decide +kernel) (Nat.le_of_ble_eq_true rfl) (fun D cT ad sz => ?_)
  show Wm zNoT l (rmx 7 1 6) RX4 cX4_drop 2 (some .int) D cT ad Lc (zA ad Lc.length sz) (zZx (fun D cT ad L9 sz => zQi D cT ad L9 sz (fun o σ1 => ∃ a, r = nI a ∧ hd σ n a ∧ zu σ 1 6 (σ 1 6 &&& (((1 : Int32) <<< (nI a &&& 31)) ^^^ (-1))) = σ1 ∧ o = nI (popc (σ 1 6 &&& (((1 : Int32) <<< (nI a &&& 31)) ^^^ (-1)))))) (pT σ [(eIO, hdR σ n r)]) 1 6 D cT ad Lc sz) [] 0 (lv_args 0 [.ref 0, .int r]) [] σ 0 0
  refine wm_aload_n 1 rfl dX4_drop_0 rfl rfl ?_
  refine wm_iload_n 2 rfl dX4_drop_1 rfl rfl ?_
  refine wmx_callVv 5 rfl dX4_drop_2 (k_X4_checkRecord l hst hI _) ca_X4_checkRecord cv_X4_checkRecord rfl aw_10_14 rfl rfl ⟨Nat.le_of_ble_eq_true rfl, Nat.le_of_ble_eq_true rfl⟩ (Nat.le_of_ble_eq_true rfl) ⟨Nat.le_of_ble_eq_true rfl, Nat.le_of_ble_eq_true rfl⟩ ⟨Nat.le_of_ble_eq_true rfl, Nat.le_of_ble_eq_true rfl⟩ (fun E σ1 ⟨e1, e2, e3⟩ => ⟨e2 ▸ stb.rf _, Or.inl ⟨e1, e3⟩⟩) ?_
  rintro σ9 ⟨rfl, p1⟩
  have q1 := p1
  obtain ⟨a, rfl, ha⟩ := q1
  have han := ha.1
  refine wm_aload_n 6 rfl dX4_drop_5 rfl rfl ?_
  refine wm_getR 9 rfl dX4_drop_6 gf_X4_12_3 rfl rfl ?_
  refine wm_iload_n 10 rfl dX4_drop_9 rfl rfl ?_
  refine wm_callVv 13 rfl dX4_drop_10 (k_X1_hide l a) ca_X1_hide cv_X1_hide rfl aw_11_0 rfl rfl ⟨Nat.le_of_ble_eq_true rfl, Nat.le_of_ble_eq_true rfl⟩ (Nat.le_of_ble_eq_true rfl) ⟨Nat.le_of_ble_eq_true rfl, Nat.le_of_ble_eq_true rfl⟩ ?_
  rintro σ9 rfl
  refine wm_aload_n 14 rfl dX4_drop_13 rfl rfl ?_
  refine wm_getR 17 rfl dX4_drop_14 gf_X4_12_3 rfl rfl ?_
  refine wm_callVi (ty := .int) 20 rfl dX4_drop_17 (k_X1_countRecords l) ca_X1_countRecords cv_X1_countRecords rfl aw_4_0 rfl rfl ⟨Nat.le_of_ble_eq_true rfl, Nat.le_of_ble_eq_true rfl⟩ (Nat.le_of_ble_eq_true rfl) ⟨Nat.le_of_ble_eq_true rfl, Nat.le_of_ble_eq_true rfl⟩ ?_
  rintro r9 σ9 ⟨rfl, rfl⟩
  exact wmx_iret dX4_drop_20 (by first | rfl | exact zp_nar) ⟨a, rfl, ha, rfl, by unfold zu; simp⟩ (Nat.le_of_ble_eq_true rfl) (Nat.le_of_ble_eq_true rfl)
theorem fb_sq (τ σ : Sg) (n p : Nat) {x : Int32} (h : τ 1 = σ 1) : sq (hd (zu τ 1 9 x) n) (fun r => popc (zu τ 1 9 x 13 r &&& zu τ 1 9 x 1 6)) n = sq (hd σ n) (fun r => popc (τ 13 r &&& σ 1 6)) n := by
  have e1 : hd (zu τ 1 9 x) n = hd σ n := by
    funext r
    unfold hd
    rw [show zu τ 1 9 x 1 6 = σ 1 6 by rw [← h]; rfl]
  have e2 : (fun r => popc (zu τ 1 9 x 13 r &&& zu τ 1 9 x 1 6)) = fun r => popc (τ 13 r &&& σ 1 6) := by
    funext r
    rw [show zu τ 1 9 x 1 6 = σ 1 6 by rw [← h]; rfl]
    rfl
  rw [e1, e2]
theorem k_X4_forbid (l : Launch) (hst : l.stackTraces = false) {σ : Sg} {n : Nat} (hI : cI σ n) {p : Nat} (hp : σ 1 9 = nI p) (hp9 : p ≤ 12) (r o : Int32) : xMi l yX4_forbid cX4_forbid 3 .int 7 4 24 Lc [.ref 0, .int r, .int o] σ (fun v σ1 => ∃ a b, r = nI a ∧ o = nI b ∧ hd σ n a ∧ hd σ n b ∧ a ≠ b ∧ ¬ tb (σ 13 a) b = true ∧ p < 12 ∧ zu (ptM σ a b) 1 9 (nI (p + 1)) = σ1 ∧ v = nI (sq (hd σ n) (fun r => popc (ptM σ a b 13 r &&& σ 1 6)) n / 2)) (pT σ [(eIO, hdR σ n r), (eIO, hdR σ n o), (eIA, r ≠ o), (eIS, ¬ fbR σ r o), (eIS, p < 12)]) := by
  have h24 := hI.2
  refine zMetx_of (by decide +kernel) (Nat.le_of_ble_eq_true rfl) (fun D cT ad sz => ?_)
  show Wm zNoT l (rmx 7 4 24) RX4 cX4_forbid 3 (some .int) D cT ad Lc (zA ad Lc.length sz) (zZx (fun D cT ad L9 sz => zQi D cT ad L9 sz (fun v σ1 => ∃ a b, r = nI a ∧ o = nI b ∧ hd σ n a ∧ hd σ n b ∧ a ≠ b ∧ ¬ tb (σ 13 a) b = true ∧ p < 12 ∧ zu (ptM σ a b) 1 9 (nI (p + 1)) = σ1 ∧ v = nI (sq (hd σ n) (fun r => popc (ptM σ a b 13 r &&& σ 1 6)) n / 2))) (pT σ [(eIO, hdR σ n r), (eIO, hdR σ n o), (eIA, r ≠ o), (eIS, ¬ fbR σ r o), (eIS, p < 12)]) 4 24 D cT ad Lc sz) [] 0 (lv_args 0 [.ref 0, .int r, .int o]) [] σ 0 0
  refine wm_aload_n 1 rfl dX4_forbid_0 rfl rfl ?_
  refine wm_iload_n 2 rfl dX4_forbid_1 rfl rfl ?_
  refine wmx_callVv 5 rfl dX4_forbid_2 (k_X4_checkRecord l hst hI _) ca_X4_checkRecord cv_X4_checkRecord rfl aw_10_14 rfl rfl ⟨Nat.le_of_ble_eq_true rfl, Nat.le_of_ble_eq_true rfl⟩ (Nat.le_of_ble_eq_true rfl) ⟨Nat.le_of_ble_eq_true rfl, Nat.le_of_ble_eq_true rfl⟩ ⟨Nat.le_of_ble_eq_true rfl, Nat.le_of_ble_eq_true rfl⟩ (fun E σ1 ⟨e1, e2, e3⟩ => ⟨e2 ▸ stb.rf _, Or.inl ⟨e1, e3⟩⟩) ?_
  rintro σ9 ⟨rfl, p1⟩
  have q1 := p1
  obtain ⟨a, rfl, ha⟩ := q1
  have han := ha.1
  refine wm_aload_n 6 rfl dX4_forbid_5 rfl rfl ?_
  refine wm_iload_n 7 rfl dX4_forbid_6 rfl rfl ?_
  refine wmx_callVv 10 rfl dX4_forbid_7 (k_X4_checkRecord l hst hI _) ca_X4_checkRecord cv_X4_checkRecord rfl aw_10_14 rfl rfl ⟨Nat.le_of_ble_eq_true rfl, Nat.le_of_ble_eq_true rfl⟩ (Nat.le_of_ble_eq_true rfl) ⟨Nat.le_of_ble_eq_true rfl, Nat.le_of_ble_eq_true rfl⟩ ⟨Nat.le_of_ble_eq_true rfl, Nat.le_of_ble_eq_true rfl⟩ (fun E σ1 ⟨e1, e2, e3⟩ => ⟨e2 ▸ stb.rf _, Or.inr ⟨p1, Or.inl ⟨e1, e3⟩⟩⟩) ?_
  rintro σ9 ⟨rfl, p2⟩
  have q2 := p2
  obtain ⟨b, rfl, hb⟩ := q2
  have hbn := hb.1
  refine wm_iload_n 11 rfl dX4_forbid_10 rfl rfl ?_
  refine wm_iload_n 12 rfl dX4_forbid_11 rfl rfl ?_
  refine wmx_callSv 15 rfl dX4_forbid_12 (k_X4_checkDifferent l hst _ _) ca_X4_checkDifferent aw_18_17 aw_18_16 ⟨Nat.le_of_ble_eq_true rfl, Nat.le_of_ble_eq_true rfl⟩ (Nat.le_of_ble_eq_true rfl) ⟨Nat.le_of_ble_eq_true rfl, Nat.le_of_ble_eq_true rfl⟩ ⟨Nat.le_of_ble_eq_true rfl, Nat.le_of_ble_eq_true rfl⟩ (fun E σ1 ⟨e1, e2, e3⟩ => ⟨e2 ▸ stb.rf _, Or.inr ⟨p1, Or.inr ⟨p2, Or.inl ⟨e1, e3⟩⟩⟩⟩) ?_
  rintro σ9 ⟨rfl, p3⟩
  refine wm_aload_n 16 rfl dX4_forbid_15 rfl rfl ?_
  refine wm_getR 19 rfl dX4_forbid_16 gf_X4_12_3 rfl rfl ?_
  refine wm_iload_n 20 rfl dX4_forbid_19 rfl rfl ?_
  refine wm_iload_n 21 rfl dX4_forbid_20 rfl rfl ?_
  refine wm_callVi (ty := .boolean) 24 rfl dX4_forbid_21 (k_X1_isForbidden l (a := a) (b := b) (by omega) (by omega)) ca_X1_isForbidden cv_X1_isForbidden rfl aw_18_19 rfl rfl ⟨Nat.le_of_ble_eq_true rfl, Nat.le_of_ble_eq_true rfl⟩ (Nat.le_of_ble_eq_true rfl) ⟨Nat.le_of_ble_eq_true rfl, Nat.le_of_ble_eq_true rfl⟩ ?_
  rintro r9 σ9 ⟨rfl, rfl⟩
  refine wm_if_eq 37 27 rfl (by decide) dX4_forbid_24 (fun c24 => ?_) (fun c24 => ?_)
  · have p4 : ¬ fbR σ (nI a) (nI b) := fun q => zp_0.mp c24 ((fbR_n (by omega) (by omega)).mp q)
    refine wm_aload_n 38 rfl dX4_forbid_37 rfl rfl ?_
    refine wm_getR 41 rfl dX4_forbid_38 gf_X4_12_3 rfl rfl ?_
    refine wm_getI 44 rfl dX4_forbid_41 gf_X4_111_0 rfl rfl ?_
    refine wm_bipush (v := 12) 46 rfl dX4_forbid_44 (by decide) ?_
    refine wm_icmp_lt 59 49 rfl (by decide) dX4_forbid_46 (fun c46 => ?_) (fun c46 => ?_)
    · rw [hp] at c46
      have q46 : p < 12 := nI_gt (b := 12) c46 (by omega) (by omega)
      refine wm_aload_n 60 rfl dX4_forbid_59 rfl rfl ?_
      refine wm_getR 63 rfl dX4_forbid_60 gf_X4_12_3 rfl rfl ?_
      refine wm_iload_n 64 rfl dX4_forbid_63 rfl rfl ?_
      refine wm_iload_n 65 rfl dX4_forbid_64 rfl rfl ?_
      refine wm_callVv 68 rfl dX4_forbid_65 (k_X1_part l (a := a) (b := b) (by omega) (by omega)) ca_X1_part cv_X1_part rfl aw_18_23 rfl rfl ⟨Nat.le_of_ble_eq_true rfl, Nat.le_of_ble_eq_true rfl⟩ (Nat.le_of_ble_eq_true rfl) ⟨Nat.le_of_ble_eq_true rfl, Nat.le_of_ble_eq_true rfl⟩ ?_
      rintro σ9 rfl
      refine wm_aload_n 69 rfl dX4_forbid_68 rfl rfl ?_
      refine wm_getR 72 rfl dX4_forbid_69 gf_X4_12_3 rfl rfl ?_
      refine wm_dup 73 rfl rfl dX4_forbid_72 ?_
      refine wm_getI 76 rfl dX4_forbid_73 gf_X4_111_0 rfl rfl ?_
      rw [show ptM σ a b 1 9 = nI p by rw [ptM_o _ _ _ (by decide)]; exact hp]
      refine wm_iconst (v := 1) 77 rfl dX4_forbid_76 (by decide) ?_
      refine wm_iadd 78 rfl dX4_forbid_77 ?_
      rw [nI_1]
      refine wm_putI 81 rfl dX4_forbid_78 pf_X4_111_0 rfl rfl ?_
      refine wm_aload_n 82 rfl dX4_forbid_81 rfl rfl ?_
      refine wm_getR 85 rfl dX4_forbid_82 gf_X4_12_3 rfl rfl ?_
      refine wm_callVi (ty := .int) 88 rfl dX4_forbid_85 (k_X1_countPairs l (n := n) (show cI (zu (ptM σ a b) 1 9 (nI (p + 1))) n from ⟨by show ptM σ a b 1 8 = nI n; rw [ptM_o _ _ _ (by decide)]; exact hI.1, hI.2⟩)) ca_X1_countPairs cv_X1_countPairs rfl aw_19_3 rfl rfl ⟨Nat.le_of_ble_eq_true rfl, Nat.le_of_ble_eq_true rfl⟩ (Nat.le_of_ble_eq_true rfl) ⟨Nat.le_of_ble_eq_true rfl, Nat.le_of_ble_eq_true rfl⟩ ?_
      rintro r9 σ9 ⟨rfl, rfl⟩
      exact wmx_iret dX4_forbid_88 (by first | rfl | exact zp_nar) ⟨a, b, rfl, rfl, ha, hb, fun q => p3 (by rw [q]), zp_0.mp c24, q46, rfl, by rw [fb_sq (ptM σ a b) σ n p (ptM_o _ _ _ (by decide))]⟩ (Nat.le_of_ble_eq_true rfl) (Nat.le_of_ble_eq_true rfl)
    · rw [hp] at c46
      have q46 : 12 ≤ p := nI_ngt (b := 12) c46 (by omega) (by omega)
      exact wmx_throw th_ISE (List.mem_of_getElem? (i := 9) rfl) hst dX4_forbid_49 dX4_forbid_52 dX4_forbid_53 dX4_forbid_55 dX4_forbid_58 ⟨Nat.le_of_ble_eq_true rfl, Nat.le_of_ble_eq_true rfl, Nat.le_of_ble_eq_true rfl, Nat.le_of_ble_eq_true rfl⟩ (Nat.le_of_ble_eq_true rfl) (Nat.le_of_ble_eq_true rfl) (⟨stb.rf _, Or.inr ⟨p1, Or.inr ⟨p2, Or.inr ⟨p3, Or.inr ⟨p4, Or.inl ⟨rfl, by omega⟩⟩⟩⟩⟩⟩)
  · exact wmx_throw th_ISE (List.mem_of_getElem? (i := 8) rfl) hst dX4_forbid_27 dX4_forbid_30 dX4_forbid_31 dX4_forbid_33 dX4_forbid_36 ⟨Nat.le_of_ble_eq_true rfl, Nat.le_of_ble_eq_true rfl, Nat.le_of_ble_eq_true rfl, Nat.le_of_ble_eq_true rfl⟩ (Nat.le_of_ble_eq_true rfl) (Nat.le_of_ble_eq_true rfl) (⟨stb.rf _, Or.inr ⟨p1, Or.inr ⟨p2, Or.inr ⟨p3, Or.inl ⟨rfl, fun q => q ((fbR_n (by omega) (by omega)).mpr (zp_n.mp c24))⟩⟩⟩⟩⟩)
theorem k_X4_allow (l : Launch) (hst : l.stackTraces = false) {σ : Sg} {n : Nat} (hI : cI σ n) (r o : Int32) : xMi l yX4_allow cX4_allow 3 .int 7 3 18 Lc [.ref 0, .int r, .int o] σ (fun v σ1 => ∃ a b, r = nI a ∧ o = nI b ∧ hd σ n a ∧ hd σ n b ∧ tb (σ 13 a) b = true ∧ zu (upM σ a b) 1 9 (σ 1 9 - 1) = σ1 ∧ v = nI (sq (hd σ n) (fun r => popc (upM σ a b 13 r &&& σ 1 6)) n / 2)) (pT σ [(eIO, hdR σ n r), (eIO, hdR σ n o), (eNS, fbR σ r o)]) := by
  have h24 := hI.2
  refine zMetx_of (by decide +kernel) (Nat.le_of_ble_eq_true rfl) (fun D cT ad sz => ?_)
  show Wm zNoT l (rmx 7 3 18) RX4 cX4_allow 3 (some .int) D cT ad Lc (zA ad Lc.length sz) (zZx (fun D cT ad L9 sz => zQi D cT ad L9 sz (fun v σ1 => ∃ a b, r = nI a ∧ o = nI b ∧ hd σ n a ∧ hd σ n b ∧ tb (σ 13 a) b = true ∧ zu (upM σ a b) 1 9 (σ 1 9 - 1) = σ1 ∧ v = nI (sq (hd σ n) (fun r => popc (upM σ a b 13 r &&& σ 1 6)) n / 2))) (pT σ [(eIO, hdR σ n r), (eIO, hdR σ n o), (eNS, fbR σ r o)]) 3 18 D cT ad Lc sz) [] 0 (lv_args 0 [.ref 0, .int r, .int o]) [] σ 0 0
  refine wm_aload_n 1 rfl dX4_allow_0 rfl rfl ?_
  refine wm_iload_n 2 rfl dX4_allow_1 rfl rfl ?_
  refine wmx_callVv 5 rfl dX4_allow_2 (k_X4_checkRecord l hst hI _) ca_X4_checkRecord cv_X4_checkRecord rfl aw_10_14 rfl rfl ⟨Nat.le_of_ble_eq_true rfl, Nat.le_of_ble_eq_true rfl⟩ (Nat.le_of_ble_eq_true rfl) ⟨Nat.le_of_ble_eq_true rfl, Nat.le_of_ble_eq_true rfl⟩ ⟨Nat.le_of_ble_eq_true rfl, Nat.le_of_ble_eq_true rfl⟩ (fun E σ1 ⟨e1, e2, e3⟩ => ⟨e2 ▸ stb.rf _, Or.inl ⟨e1, e3⟩⟩) ?_
  rintro σ9 ⟨rfl, p1⟩
  have q1 := p1
  obtain ⟨a, rfl, ha⟩ := q1
  have han := ha.1
  refine wm_aload_n 6 rfl dX4_allow_5 rfl rfl ?_
  refine wm_iload_n 7 rfl dX4_allow_6 rfl rfl ?_
  refine wmx_callVv 10 rfl dX4_allow_7 (k_X4_checkRecord l hst hI _) ca_X4_checkRecord cv_X4_checkRecord rfl aw_10_14 rfl rfl ⟨Nat.le_of_ble_eq_true rfl, Nat.le_of_ble_eq_true rfl⟩ (Nat.le_of_ble_eq_true rfl) ⟨Nat.le_of_ble_eq_true rfl, Nat.le_of_ble_eq_true rfl⟩ ⟨Nat.le_of_ble_eq_true rfl, Nat.le_of_ble_eq_true rfl⟩ (fun E σ1 ⟨e1, e2, e3⟩ => ⟨e2 ▸ stb.rf _, Or.inr ⟨p1, Or.inl ⟨e1, e3⟩⟩⟩) ?_
  rintro σ9 ⟨rfl, p2⟩
  have q2 := p2
  obtain ⟨b, rfl, hb⟩ := q2
  have hbn := hb.1
  refine wm_aload_n 11 rfl dX4_allow_10 rfl rfl ?_
  refine wm_iload_n 12 rfl dX4_allow_11 rfl rfl ?_
  refine wm_iload_n 13 rfl dX4_allow_12 rfl rfl ?_
  refine wmx_callVv 16 rfl dX4_allow_13 (k_X4_checkForbidden l hst (a := a) (b := b) (by omega) (by omega)) ca_X4_checkForbidden cv_X4_checkForbidden rfl aw_19_11 rfl rfl ⟨Nat.le_of_ble_eq_true rfl, Nat.le_of_ble_eq_true rfl⟩ (Nat.le_of_ble_eq_true rfl) ⟨Nat.le_of_ble_eq_true rfl, Nat.le_of_ble_eq_true rfl⟩ ⟨Nat.le_of_ble_eq_true rfl, Nat.le_of_ble_eq_true rfl⟩ (fun E σ1 ⟨e1, e2, e3⟩ => ⟨e2 ▸ stb.rf _, Or.inr ⟨p1, Or.inr ⟨p2, Or.inl ⟨e1, fun q => e3 ((fbR_n (by omega) (by omega)).mp q)⟩⟩⟩⟩) ?_
  rintro σ9 ⟨rfl, p3⟩
  refine wm_aload_n 17 rfl dX4_allow_16 rfl rfl ?_
  refine wm_getR 20 rfl dX4_allow_17 gf_X4_12_3 rfl rfl ?_
  refine wm_iload_n 21 rfl dX4_allow_20 rfl rfl ?_
  refine wm_iload_n 22 rfl dX4_allow_21 rfl rfl ?_
  refine wm_callVv 25 rfl dX4_allow_22 (k_X1_unpart l (a := a) (b := b) (by omega) (by omega)) ca_X1_unpart cv_X1_unpart rfl aw_19_15 rfl rfl ⟨Nat.le_of_ble_eq_true rfl, Nat.le_of_ble_eq_true rfl⟩ (Nat.le_of_ble_eq_true rfl) ⟨Nat.le_of_ble_eq_true rfl, Nat.le_of_ble_eq_true rfl⟩ ?_
  rintro σ9 rfl
  refine wm_aload_n 26 rfl dX4_allow_25 rfl rfl ?_
  refine wm_getR 29 rfl dX4_allow_26 gf_X4_12_3 rfl rfl ?_
  refine wm_dup 30 rfl rfl dX4_allow_29 ?_
  refine wm_getI 33 rfl dX4_allow_30 gf_X4_111_0 rfl rfl ?_
  rw [show upM σ a b 1 9 = σ 1 9 by rw [upM_o _ _ _ (by decide)]]
  refine wm_iconst (v := 1) 34 rfl dX4_allow_33 (by decide) ?_
  refine wm_isub 35 rfl dX4_allow_34 ?_
  refine wm_putI 38 rfl dX4_allow_35 pf_X4_111_0 rfl rfl ?_
  refine wm_aload_n 39 rfl dX4_allow_38 rfl rfl ?_
  refine wm_getR 42 rfl dX4_allow_39 gf_X4_12_3 rfl rfl ?_
  refine wm_callVi (ty := .int) 45 rfl dX4_allow_42 (k_X1_countPairs l (n := n) (show cI (zu (upM σ a b) 1 9 (σ 1 9 - 1)) n from ⟨by show upM σ a b 1 8 = nI n; rw [upM_o _ _ _ (by decide)]; exact hI.1, hI.2⟩)) ca_X1_countPairs cv_X1_countPairs rfl aw_19_3 rfl rfl ⟨Nat.le_of_ble_eq_true rfl, Nat.le_of_ble_eq_true rfl⟩ (Nat.le_of_ble_eq_true rfl) ⟨Nat.le_of_ble_eq_true rfl, Nat.le_of_ble_eq_true rfl⟩ ?_
  rintro r9 σ9 ⟨rfl, rfl⟩
  exact wmx_iret dX4_allow_45 (by first | rfl | exact zp_nar) ⟨a, b, rfl, rfl, ha, hb, p3, rfl, by rw [fb_sq (upM σ a b) σ n 0 (upM_o _ _ _ (by decide))]⟩ (Nat.le_of_ble_eq_true rfl) (Nat.le_of_ble_eq_true rfl)
theorem k_X4_key (l : Launch) (hst : l.stackTraces = false) {σ : Sg} {n : Nat} (hI : cI σ n) (r k : Int32) : xMi l yX4_key cX4_key 3 .int 7 2 12 Lc [.ref 0, .int r, .int k] σ (fun o σ1 => ∃ a i, r = nI a ∧ hd σ n a ∧ k = nI i ∧ i < 3 ∧ σ = σ1 ∧ o = σ (7 + i) a) (pT σ [(eIO, hdR σ n r), (eIO, nR 3 k)]) := by
  have h24 := hI.2
  refine zMetx_of (by decide +kernel) (Nat.le_of_ble_eq_true rfl) (fun D cT ad sz => ?_)
  show Wm zNoT l (rmx 7 2 12) RX4 cX4_key 3 (some .int) D cT ad Lc (zA ad Lc.length sz) (zZx (fun D cT ad L9 sz => zQi D cT ad L9 sz (fun o σ1 => ∃ a i, r = nI a ∧ hd σ n a ∧ k = nI i ∧ i < 3 ∧ σ = σ1 ∧ o = σ (7 + i) a)) (pT σ [(eIO, hdR σ n r), (eIO, nR 3 k)]) 2 12 D cT ad Lc sz) [] 0 (lv_args 0 [.ref 0, .int r, .int k]) [] σ 0 0
  refine wm_aload_n 1 rfl dX4_key_0 rfl rfl ?_
  refine wm_iload_n 2 rfl dX4_key_1 rfl rfl ?_
  refine wmx_callVv 5 rfl dX4_key_2 (k_X4_checkRecord l hst hI _) ca_X4_checkRecord cv_X4_checkRecord rfl aw_10_14 rfl rfl ⟨Nat.le_of_ble_eq_true rfl, Nat.le_of_ble_eq_true rfl⟩ (Nat.le_of_ble_eq_true rfl) ⟨Nat.le_of_ble_eq_true rfl, Nat.le_of_ble_eq_true rfl⟩ ⟨Nat.le_of_ble_eq_true rfl, Nat.le_of_ble_eq_true rfl⟩ (fun E σ1 ⟨e1, e2, e3⟩ => ⟨e2 ▸ stb.rf _, Or.inl ⟨e1, e3⟩⟩) ?_
  rintro σ9 ⟨rfl, p1⟩
  have q1 := p1
  obtain ⟨a, rfl, ha⟩ := q1
  have han := ha.1
  refine wm_iload_n 6 rfl dX4_key_5 rfl rfl ?_
  refine wmx_callSv 9 rfl dX4_key_6 (k_X4_checkKind l hst _) ca_X4_checkKind aw_13_21 aw_13_20 ⟨Nat.le_of_ble_eq_true rfl, Nat.le_of_ble_eq_true rfl⟩ (Nat.le_of_ble_eq_true rfl) ⟨Nat.le_of_ble_eq_true rfl, Nat.le_of_ble_eq_true rfl⟩ ⟨Nat.le_of_ble_eq_true rfl, Nat.le_of_ble_eq_true rfl⟩ (fun E σ1 ⟨e1, e2, e3⟩ => ⟨e2 ▸ stb.rf _, Or.inr ⟨p1, Or.inl ⟨e1, e3⟩⟩⟩) ?_
  rintro σ9 ⟨rfl, p2⟩
  have qk := p2
  obtain ⟨i, rfl, hi⟩ := qk
  refine wm_aload_n 10 rfl dX4_key_9 rfl rfl ?_
  refine wm_getR 13 rfl dX4_key_10 gf_X4_12_3 rfl rfl ?_
  refine wm_getR 16 rfl dX4_key_13 gf_X4_75_0 rfl rfl ?_
  refine wm_iload_n 17 rfl dX4_key_16 rfl rfl ?_
  refine wm_aaload (r := 7 + i) 18 rfl dX4_key_17 rfl (vp_in_nI hi (by omega)) (by rw [nI_clamp (by omega)]) ?_
  refine wm_iload_n 19 rfl dX4_key_18 rfl rfl ?_
  refine wm_iaload 20 rfl dX4_key_19 (Lc_key hi) (in24 han h24) ?_
  exact wmx_iret dX4_key_20 (by first | rfl | exact zp_nar) ⟨a, i, rfl, ha, rfl, hi, rfl, by rw [nI_clamp (by omega)]⟩ (Nat.le_of_ble_eq_true rfl) (Nat.le_of_ble_eq_true rfl)
theorem k_X4_seen (l : Launch) (hst : l.stackTraces = false) {σ : Sg} {n : Nat} (hI : cI σ n) (r : Int32) : xMi l yX4_seen cX4_seen 2 .int 7 1 6 Lc [.ref 0, .int r] σ (fun o σ1 => ∃ a, r = nI a ∧ hd σ n a ∧ σ = σ1 ∧ o = σ 4 a) (pT σ [(eIO, hdR σ n r)]) := by
  have h24 := hI.2
  refine zMetx_of (by decide +kernel) (Nat.le_of_ble_eq_true rfl) (fun D cT ad sz => ?_)
  show Wm zNoT l (rmx 7 1 6) RX4 cX4_seen 2 (some .int) D cT ad Lc (zA ad Lc.length sz) (zZx (fun D cT ad L9 sz => zQi D cT ad L9 sz (fun o σ1 => ∃ a, r = nI a ∧ hd σ n a ∧ σ = σ1 ∧ o = σ 4 a)) (pT σ [(eIO, hdR σ n r)]) 1 6 D cT ad Lc sz) [] 0 (lv_args 0 [.ref 0, .int r]) [] σ 0 0
  refine wm_aload_n 1 rfl dX4_seen_0 rfl rfl ?_
  refine wm_iload_n 2 rfl dX4_seen_1 rfl rfl ?_
  refine wmx_callVv 5 rfl dX4_seen_2 (k_X4_checkRecord l hst hI _) ca_X4_checkRecord cv_X4_checkRecord rfl aw_10_14 rfl rfl ⟨Nat.le_of_ble_eq_true rfl, Nat.le_of_ble_eq_true rfl⟩ (Nat.le_of_ble_eq_true rfl) ⟨Nat.le_of_ble_eq_true rfl, Nat.le_of_ble_eq_true rfl⟩ ⟨Nat.le_of_ble_eq_true rfl, Nat.le_of_ble_eq_true rfl⟩ (fun E σ1 ⟨e1, e2, e3⟩ => ⟨e2 ▸ stb.rf _, Or.inl ⟨e1, e3⟩⟩) ?_
  rintro σ9 ⟨rfl, p1⟩
  have q1 := p1
  obtain ⟨a, rfl, ha⟩ := q1
  have han := ha.1
  refine wm_aload_n 6 rfl dX4_seen_5 rfl rfl ?_
  refine wm_getR 9 rfl dX4_seen_6 gf_X4_12_3 rfl rfl ?_
  refine wm_getR 12 rfl dX4_seen_9 gf_X4_91_0 rfl rfl ?_
  refine wm_iload_n 13 rfl dX4_seen_12 rfl rfl ?_
  refine wm_iaload 14 rfl dX4_seen_13 rfl (in24 han h24) ?_
  exact wmx_iret dX4_seen_14 (by first | rfl | exact zp_nar) ⟨a, rfl, ha, rfl, by rw [nI_clamp (by omega)]⟩ (Nat.le_of_ble_eq_true rfl) (Nat.le_of_ble_eq_true rfl)
theorem k_X4_thing (l : Launch) (hst : l.stackTraces = false) {σ : Sg} {n : Nat} (hI : cI σ n) (r : Int32) : xMi l yX4_thing cX4_thing 2 .int 8 1 6 Lc [.ref 0, .int r] σ (fun v σ1 => ∃ a, r = nI a ∧ hd σ n a ∧ JD σ n σ1 ∧ v = nI (gC σ n 2 a)) (pT σ [(eIO, hdR σ n r)]) := by
  have h24 := hI.2
  refine zMetx_of (by decide +kernel) (Nat.le_of_ble_eq_true rfl) (fun D cT ad sz => ?_)
  show Wm zNoT l (rmx 8 1 6) RX4 cX4_thing 2 (some .int) D cT ad Lc (zA ad Lc.length sz) (zZx (fun D cT ad L9 sz => zQi D cT ad L9 sz (fun v σ1 => ∃ a, r = nI a ∧ hd σ n a ∧ JD σ n σ1 ∧ v = nI (gC σ n 2 a))) (pT σ [(eIO, hdR σ n r)]) 1 6 D cT ad Lc sz) [] 0 (lv_args 0 [.ref 0, .int r]) [] σ 0 0
  refine wm_aload_n 1 rfl dX4_thing_0 rfl rfl ?_
  refine wm_iload_n 2 rfl dX4_thing_1 rfl rfl ?_
  refine wmx_callVv 5 rfl dX4_thing_2 (k_X4_checkRecord l hst hI _) ca_X4_checkRecord cv_X4_checkRecord rfl aw_10_14 rfl rfl ⟨Nat.le_of_ble_eq_true rfl, Nat.le_of_ble_eq_true rfl⟩ (Nat.le_of_ble_eq_true rfl) ⟨Nat.le_of_ble_eq_true rfl, Nat.le_of_ble_eq_true rfl⟩ ⟨Nat.le_of_ble_eq_true rfl, Nat.le_of_ble_eq_true rfl⟩ (fun E σ1 ⟨e1, e2, e3⟩ => ⟨e2 ▸ stb.rf _, Or.inl ⟨e1, e3⟩⟩) ?_
  rintro σ9 ⟨rfl, p1⟩
  have q1 := p1
  obtain ⟨a, rfl, ha⟩ := q1
  have han := ha.1
  refine wm_aload_n 6 rfl dX4_thing_5 rfl rfl ?_
  refine wm_iload_n 7 rfl dX4_thing_6 rfl rfl ?_
  refine wm_callVi (ty := .int) 10 rfl dX4_thing_7 (k_X4_findThing l hI (r := a) han) ca_X4_findThing cv_X4_findThing rfl aw_11_12 rfl rfl ⟨Nat.le_of_ble_eq_true rfl, Nat.le_of_ble_eq_true rfl⟩ (Nat.le_of_ble_eq_true rfl) ⟨Nat.le_of_ble_eq_true rfl, Nat.le_of_ble_eq_true rfl⟩ ?_
  rintro r9 τ ⟨hJ, rfl⟩
  have hI2 := hJ.1.cIy hI
  have hg2 : lab τ 19 n (gC σ n 2) := hJ.2.2 2 (by omega)
  have hga : gC σ n 2 a ≤ a := (hg2 a han).2
  have e := mbr_ag (n := n) (g := gC σ n 2) hJ.1
  exact wmx_iret dX4_thing_10 (by first | rfl | exact zp_nar) ⟨a, rfl, ha, hJ, rfl⟩ (Nat.le_of_ble_eq_true rfl) (Nat.le_of_ble_eq_true rfl)
theorem k_X4_thingByRounds (l : Launch) (hst : l.stackTraces = false) {σ : Sg} {n : Nat} (hI : cI σ n) (r : Int32) : xMi l yX4_thingByRounds cX4_thingByRounds 2 .int 7 1 6 Lc [.ref 0, .int r] σ (fun v σ1 => ∃ a, r = nI a ∧ hd σ n a ∧ stb σ σ1 ∧ v = nI (gC σ n 2 a)) (pT σ [(eIO, hdR σ n r)]) := by
  have h24 := hI.2
  refine zMetx_of (by decide +kernel) (Nat.le_of_ble_eq_true rfl) (fun D cT ad sz => ?_)
  show Wm zNoT l (rmx 7 1 6) RX4 cX4_thingByRounds 2 (some .int) D cT ad Lc (zA ad Lc.length sz) (zZx (fun D cT ad L9 sz => zQi D cT ad L9 sz (fun v σ1 => ∃ a, r = nI a ∧ hd σ n a ∧ stb σ σ1 ∧ v = nI (gC σ n 2 a))) (pT σ [(eIO, hdR σ n r)]) 1 6 D cT ad Lc sz) [] 0 (lv_args 0 [.ref 0, .int r]) [] σ 0 0
  refine wm_aload_n 1 rfl dX4_thingByRounds_0 rfl rfl ?_
  refine wm_iload_n 2 rfl dX4_thingByRounds_1 rfl rfl ?_
  refine wmx_callVv 5 rfl dX4_thingByRounds_2 (k_X4_checkRecord l hst hI _) ca_X4_checkRecord cv_X4_checkRecord rfl aw_10_14 rfl rfl ⟨Nat.le_of_ble_eq_true rfl, Nat.le_of_ble_eq_true rfl⟩ (Nat.le_of_ble_eq_true rfl) ⟨Nat.le_of_ble_eq_true rfl, Nat.le_of_ble_eq_true rfl⟩ ⟨Nat.le_of_ble_eq_true rfl, Nat.le_of_ble_eq_true rfl⟩ (fun E σ1 ⟨e1, e2, e3⟩ => ⟨e2 ▸ stb.rf _, Or.inl ⟨e1, e3⟩⟩) ?_
  rintro σ9 ⟨rfl, p1⟩
  have q1 := p1
  obtain ⟨a, rfl, ha⟩ := q1
  have han := ha.1
  refine wm_aload_n 6 rfl dX4_thingByRounds_5 rfl rfl ?_
  refine wm_getR 9 rfl dX4_thingByRounds_6 gf_X4_26_3 rfl rfl ?_
  refine wm_aload_n 10 rfl dX4_thingByRounds_9 rfl rfl ?_
  refine wm_getR 13 rfl dX4_thingByRounds_10 gf_X4_12_3 rfl rfl ?_
  refine wm_callUv (x := ⟨"Assetmerge$Spreading", "findGroups", "(LAssetmerge$Inventory;)V"⟩) (C := RX3) 16 rfl dX4_thingByRounds_13 (k_fgS l hI) ca_X0_findGroups rfl aw_5_0 aw_12_0 aw_11_23 aw_11_22 rfl rfl ⟨Nat.le_of_ble_eq_true rfl, Nat.le_of_ble_eq_true rfl⟩ (Nat.le_of_ble_eq_true rfl) ⟨Nat.le_of_ble_eq_true rfl, Nat.le_of_ble_eq_true rfl⟩ ?_
  rintro τ hfg
  have hg2 : lab τ 25 n (gC σ n 2) := hfg.2.2 2 (by omega)
  refine wm_aload_n 17 rfl dX4_thingByRounds_16 rfl rfl ?_
  refine wm_getR 20 rfl dX4_thingByRounds_17 gf_X4_26_3 rfl rfl ?_
  refine wm_getR 23 rfl dX4_thingByRounds_20 gf_X4_135_2 rfl rfl ?_
  refine wm_iconst (v := 2) 24 rfl dX4_thingByRounds_23 (by decide) ?_
  refine wm_aaload (r := 25) 25 rfl dX4_thingByRounds_24 rfl vp23 rfl ?_
  refine wm_iload_n 26 rfl dX4_thingByRounds_25 rfl rfl ?_
  refine wm_iaload 27 rfl dX4_thingByRounds_26 rfl (in24 han h24) ?_
  exact wmx_iret dX4_thingByRounds_27 (by first | rfl | exact zp_nar) ⟨a, rfl, ha, fun c hc => hfg.1 c (Or.inl (by omega)), by rw [nI_clamp (by omega), (hg2 a han).1]⟩ (Nat.le_of_ble_eq_true rfl) (Nat.le_of_ble_eq_true rfl)
theorem k_X4_size (l : Launch) (hst : l.stackTraces = false) {σ : Sg} {n : Nat} (hI : cI σ n) (r : Int32) : xMi l yX4_size cX4_size 2 .int 8 1 6 Lc [.ref 0, .int r] σ (fun v σ1 => ∃ a, r = nI a ∧ hd σ n a ∧ JD σ n σ1 ∧ v = nI (cq (mbr σ n (gC σ n 2) (gC σ n 2 a)) n)) (pT σ [(eIO, hdR σ n r)]) := by
  have h24 := hI.2
  refine zMetx_of (by decide +kernel) (Nat.le_of_ble_eq_true rfl) (fun D cT ad sz => ?_)
  show Wm zNoT l (rmx 8 1 6) RX4 cX4_size 2 (some .int) D cT ad Lc (zA ad Lc.length sz) (zZx (fun D cT ad L9 sz => zQi D cT ad L9 sz (fun v σ1 => ∃ a, r = nI a ∧ hd σ n a ∧ JD σ n σ1 ∧ v = nI (cq (mbr σ n (gC σ n 2) (gC σ n 2 a)) n))) (pT σ [(eIO, hdR σ n r)]) 1 6 D cT ad Lc sz) [] 0 (lv_args 0 [.ref 0, .int r]) [] σ 0 0
  refine wm_aload_n 1 rfl dX4_size_0 rfl rfl ?_
  refine wm_iload_n 2 rfl dX4_size_1 rfl rfl ?_
  refine wmx_callVv 5 rfl dX4_size_2 (k_X4_checkRecord l hst hI _) ca_X4_checkRecord cv_X4_checkRecord rfl aw_10_14 rfl rfl ⟨Nat.le_of_ble_eq_true rfl, Nat.le_of_ble_eq_true rfl⟩ (Nat.le_of_ble_eq_true rfl) ⟨Nat.le_of_ble_eq_true rfl, Nat.le_of_ble_eq_true rfl⟩ ⟨Nat.le_of_ble_eq_true rfl, Nat.le_of_ble_eq_true rfl⟩ (fun E σ1 ⟨e1, e2, e3⟩ => ⟨e2 ▸ stb.rf _, Or.inl ⟨e1, e3⟩⟩) ?_
  rintro σ9 ⟨rfl, p1⟩
  have q1 := p1
  obtain ⟨a, rfl, ha⟩ := q1
  have han := ha.1
  refine wm_aload_n 6 rfl dX4_size_5 rfl rfl ?_
  refine wm_aload_n 7 rfl dX4_size_6 rfl rfl ?_
  refine wm_iload_n 8 rfl dX4_size_7 rfl rfl ?_
  refine wm_callVi (ty := .int) 11 rfl dX4_size_8 (k_X4_findThing l hI (r := a) han) ca_X4_findThing cv_X4_findThing rfl aw_11_12 rfl rfl ⟨Nat.le_of_ble_eq_true rfl, Nat.le_of_ble_eq_true rfl⟩ (Nat.le_of_ble_eq_true rfl) ⟨Nat.le_of_ble_eq_true rfl, Nat.le_of_ble_eq_true rfl⟩ ?_
  rintro r9 τ ⟨hJ, rfl⟩
  have hI2 := hJ.1.cIy hI
  have hg2 : lab τ 19 n (gC σ n 2) := hJ.2.2 2 (by omega)
  have hga : gC σ n 2 a ≤ a := (hg2 a han).2
  have e := mbr_ag (n := n) (g := gC σ n 2) hJ.1
  refine wm_callVi (ty := .int) 14 rfl dX4_size_11 (k_X4_countMembers l hI2 hg2 (h := gC σ n 2 a) (by omega)) ca_X4_countMembers cv_X4_countMembers rfl aw_8_23 rfl rfl ⟨Nat.le_of_ble_eq_true rfl, Nat.le_of_ble_eq_true rfl⟩ (Nat.le_of_ble_eq_true rfl) ⟨Nat.le_of_ble_eq_true rfl, Nat.le_of_ble_eq_true rfl⟩ ?_
  rintro r9 σ9 ⟨rfl, rfl⟩
  exact wmx_iret dX4_size_14 (by first | rfl | exact zp_nar) ⟨a, rfl, ha, hJ, by rw [e]⟩ (Nat.le_of_ble_eq_true rfl) (Nat.le_of_ble_eq_true rfl)
theorem k_X4_member (l : Launch) (hst : l.stackTraces = false) {σ : Sg} {n : Nat} (hI : cI σ n) (r ix : Int32) : xMi l yX4_member cX4_member 4 .int 8 2 12 Lc [.ref 0, .int r, .int ix] σ (fun v σ1 => ∃ x, mbx σ n r ix x ∧ JD σ n σ1 ∧ v = nI x) (pT σ [(eIO, hdR σ n r), (eNS, ∃ x, mbx σ n r ix x)]) := by
  have h24 := hI.2
  refine zMetx_of (by decide +kernel) (Nat.le_of_ble_eq_true rfl) (fun D cT ad sz => ?_)
  show Wm zNoT l (rmx 8 2 12) RX4 cX4_member 4 (some .int) D cT ad Lc (zA ad Lc.length sz) (zZx (fun D cT ad L9 sz => zQi D cT ad L9 sz (fun v σ1 => ∃ x, mbx σ n r ix x ∧ JD σ n σ1 ∧ v = nI x)) (pT σ [(eIO, hdR σ n r), (eNS, ∃ x, mbx σ n r ix x)]) 2 12 D cT ad Lc sz) [] 0 (lv_args 0 [.ref 0, .int r, .int ix]) [] σ 0 0
  refine wm_aload_n 1 rfl dX4_member_0 rfl rfl ?_
  refine wm_iload_n 2 rfl dX4_member_1 rfl rfl ?_
  refine wmx_callVv 5 rfl dX4_member_2 (k_X4_checkRecord l hst hI _) ca_X4_checkRecord cv_X4_checkRecord rfl aw_10_14 rfl rfl ⟨Nat.le_of_ble_eq_true rfl, Nat.le_of_ble_eq_true rfl⟩ (Nat.le_of_ble_eq_true rfl) ⟨Nat.le_of_ble_eq_true rfl, Nat.le_of_ble_eq_true rfl⟩ ⟨Nat.le_of_ble_eq_true rfl, Nat.le_of_ble_eq_true rfl⟩ (fun E σ1 ⟨e1, e2, e3⟩ => ⟨e2 ▸ stb.rf _, Or.inl ⟨e1, e3⟩⟩) ?_
  rintro σ9 ⟨rfl, p1⟩
  have q1 := p1
  obtain ⟨a, rfl, ha⟩ := q1
  have han := ha.1
  refine wm_aload_n 6 rfl dX4_member_5 rfl rfl ?_
  refine wm_aload_n 7 rfl dX4_member_6 rfl rfl ?_
  refine wm_iload_n 8 rfl dX4_member_7 rfl rfl ?_
  refine wm_callVi (ty := .int) 11 rfl dX4_member_8 (k_X4_findThing l hI (r := a) han) ca_X4_findThing cv_X4_findThing rfl aw_11_12 rfl rfl ⟨Nat.le_of_ble_eq_true rfl, Nat.le_of_ble_eq_true rfl⟩ (Nat.le_of_ble_eq_true rfl) ⟨Nat.le_of_ble_eq_true rfl, Nat.le_of_ble_eq_true rfl⟩ ?_
  rintro r9 τ ⟨hJ, rfl⟩
  have hI2 := hJ.1.cIy hI
  have hg2 : lab τ 19 n (gC σ n 2) := hJ.2.2 2 (by omega)
  have hga : gC σ n 2 a ≤ a := (hg2 a han).2
  have e := mbr_ag (n := n) (g := gC σ n 2) hJ.1
  refine wm_iload_n 12 rfl dX4_member_11 rfl rfl ?_
  refine wm_callVi (ty := .int) 15 rfl dX4_member_12 (k_X4_findMember l hI2 hg2 (h := gC σ n 2 a) (by omega) ix) ca_X4_findMember cv_X4_findMember rfl aw_13_11 rfl rfl ⟨Nat.le_of_ble_eq_true rfl, Nat.le_of_ble_eq_true rfl⟩ (Nat.le_of_ble_eq_true rfl) ⟨Nat.le_of_ble_eq_true rfl, Nat.le_of_ble_eq_true rfl⟩ ?_
  rintro r9 σ9 ⟨rfl, hm⟩
  rw [e] at hm
  refine wm_istore_n (ls' := [(3, _), (0, _), (1, _), (2, _)]) 16 rfl dX4_member_15 rfl (by decide) rfl ?_
  refine wm_iload_n 17 rfl dX4_member_16 rfl rfl ?_
  refine wm_iconst (v := (-1)) 18 rfl dX4_member_17 (by decide) ?_
  refine wm_icmp_ne 31 21 rfl (by decide) dX4_member_18 (fun c18 => ?_) (fun c18 => ?_)
  · refine wm_iload_n 32 rfl dX4_member_31 rfl rfl ?_
    exact wmx_iret dX4_member_32 (by first | rfl | exact zp_nar) (by rcases hm with ⟨x, hx, h1, h2, rfl⟩ | ⟨h2, -⟩; exact ⟨x, ⟨a, rfl, ha, hx, h1, h2⟩, hJ, rfl⟩; exact absurd h2 c18) (Nat.le_of_ble_eq_true rfl) (Nat.le_of_ble_eq_true rfl)
  · exact wmx_throw th_NSE (List.mem_of_getElem? (i := 11) rfl) hst dX4_member_21 dX4_member_24 dX4_member_25 dX4_member_27 dX4_member_30 ⟨Nat.le_of_ble_eq_true rfl, Nat.le_of_ble_eq_true rfl, Nat.le_of_ble_eq_true rfl, Nat.le_of_ble_eq_true rfl⟩ (Nat.le_of_ble_eq_true rfl) (Nat.le_of_ble_eq_true rfl) (⟨hJ.1, Or.inr ⟨p1, Or.inl ⟨rfl, by
  rintro ⟨x, a2, e1, ha2, hx, h1, h2⟩
  have ea := eq_of_nI e1 (by omega) (by have := ha2.1; omega)
  subst ea
  rcases hm with ⟨x2, hx2, -, -, h3⟩ | ⟨-, h3⟩
  · exact nI_ne_m1 (by omega) (h3.symm.trans c18)
  · exact h3 x hx h1 h2⟩⟩⟩)
theorem k_X4_areTogether (l : Launch) (hst : l.stackTraces = false) {σ : Sg} {n : Nat} (hI : cI σ n) (r o : Int32) : xMi l yX4_areTogether cX4_areTogether 3 .boolean 8 2 12 Lc [.ref 0, .int r, .int o] σ (fun v σ1 => ∃ a b, r = nI a ∧ o = nI b ∧ hd σ n a ∧ hd σ n b ∧ JD σ n σ1 ∧ v = zp (gC σ n 2 a = gC σ n 2 b)) (pT σ [(eIO, hdR σ n r), (eIO, hdR σ n o)]) := by
  have h24 := hI.2
  refine zMetx_of (by decide +kernel) (Nat.le_of_ble_eq_true rfl) (fun D cT ad sz => ?_)
  show Wm zNoT l (rmx 8 2 12) RX4 cX4_areTogether 3 (some .boolean) D cT ad Lc (zA ad Lc.length sz) (zZx (fun D cT ad L9 sz => zQi D cT ad L9 sz (fun v σ1 => ∃ a b, r = nI a ∧ o = nI b ∧ hd σ n a ∧ hd σ n b ∧ JD σ n σ1 ∧ v = zp (gC σ n 2 a = gC σ n 2 b))) (pT σ [(eIO, hdR σ n r), (eIO, hdR σ n o)]) 2 12 D cT ad Lc sz) [] 0 (lv_args 0 [.ref 0, .int r, .int o]) [] σ 0 0
  refine wm_aload_n 1 rfl dX4_areTogether_0 rfl rfl ?_
  refine wm_iload_n 2 rfl dX4_areTogether_1 rfl rfl ?_
  refine wmx_callVv 5 rfl dX4_areTogether_2 (k_X4_checkRecord l hst hI _) ca_X4_checkRecord cv_X4_checkRecord rfl aw_10_14 rfl rfl ⟨Nat.le_of_ble_eq_true rfl, Nat.le_of_ble_eq_true rfl⟩ (Nat.le_of_ble_eq_true rfl) ⟨Nat.le_of_ble_eq_true rfl, Nat.le_of_ble_eq_true rfl⟩ ⟨Nat.le_of_ble_eq_true rfl, Nat.le_of_ble_eq_true rfl⟩ (fun E σ1 ⟨e1, e2, e3⟩ => ⟨e2 ▸ stb.rf _, Or.inl ⟨e1, e3⟩⟩) ?_
  rintro σ9 ⟨rfl, p1⟩
  have q1 := p1
  obtain ⟨a, rfl, ha⟩ := q1
  have han := ha.1
  refine wm_aload_n 6 rfl dX4_areTogether_5 rfl rfl ?_
  refine wm_iload_n 7 rfl dX4_areTogether_6 rfl rfl ?_
  refine wmx_callVv 10 rfl dX4_areTogether_7 (k_X4_checkRecord l hst hI _) ca_X4_checkRecord cv_X4_checkRecord rfl aw_10_14 rfl rfl ⟨Nat.le_of_ble_eq_true rfl, Nat.le_of_ble_eq_true rfl⟩ (Nat.le_of_ble_eq_true rfl) ⟨Nat.le_of_ble_eq_true rfl, Nat.le_of_ble_eq_true rfl⟩ ⟨Nat.le_of_ble_eq_true rfl, Nat.le_of_ble_eq_true rfl⟩ (fun E σ1 ⟨e1, e2, e3⟩ => ⟨e2 ▸ stb.rf _, Or.inr ⟨p1, Or.inl ⟨e1, e3⟩⟩⟩) ?_
  rintro σ9 ⟨rfl, p2⟩
  have q2 := p2
  obtain ⟨b, rfl, hb⟩ := q2
  have hbn := hb.1
  refine wm_aload_n 11 rfl dX4_areTogether_10 rfl rfl ?_
  refine wm_iload_n 12 rfl dX4_areTogether_11 rfl rfl ?_
  refine wm_callVi (ty := .int) 15 rfl dX4_areTogether_12 (k_X4_findThing l hI (r := a) han) ca_X4_findThing cv_X4_findThing rfl aw_11_12 rfl rfl ⟨Nat.le_of_ble_eq_true rfl, Nat.le_of_ble_eq_true rfl⟩ (Nat.le_of_ble_eq_true rfl) ⟨Nat.le_of_ble_eq_true rfl, Nat.le_of_ble_eq_true rfl⟩ ?_
  rintro r9 τ ⟨hJ, rfl⟩
  have hI2 := hJ.1.cIy hI
  have hg2 : lab τ 19 n (gC σ n 2) := hJ.2.2 2 (by omega)
  have hga : gC σ n 2 a ≤ a := (hg2 a han).2
  have e := mbr_ag (n := n) (g := gC σ n 2) hJ.1
  refine wm_aload_n 16 rfl dX4_areTogether_15 rfl rfl ?_
  refine wm_getR 19 rfl dX4_areTogether_16 gf_X4_19_3 rfl rfl ?_
  refine wm_getR 22 rfl dX4_areTogether_19 gf_X4_152_1 rfl rfl ?_
  refine wm_iconst (v := 2) 23 rfl dX4_areTogether_22 (by decide) ?_
  refine wm_aaload (r := 19) 24 rfl dX4_areTogether_23 rfl vp23 rfl ?_
  refine wm_iload_n 25 rfl dX4_areTogether_24 rfl rfl ?_
  refine wm_iaload 26 rfl dX4_areTogether_25 rfl (in24 hbn h24) ?_
  refine wm_icmp_ne 33 29 rfl (by decide) dX4_areTogether_26 (fun c26 => ?_) (fun c26 => ?_)
  · rw [nI_clamp (by omega), (hg2 b hbn).1] at c26
    refine wm_iconst (v := 0) 34 rfl dX4_areTogether_33 (by decide) ?_
    exact wmx_iret dX4_areTogether_34 (by first | rfl | exact zp_nar) ⟨a, b, rfl, rfl, ha, hb, hJ, (zp_f (fun q => c26 (by rw [q]))).symm⟩ (Nat.le_of_ble_eq_true rfl) (Nat.le_of_ble_eq_true rfl)
  · rw [nI_clamp (by omega), (hg2 b hbn).1] at c26
    refine wm_iconst (v := 1) 30 rfl dX4_areTogether_29 (by decide) ?_
    refine wm_goto 34 (by decide) dX4_areTogether_30 ?_
    exact wmx_iret dX4_areTogether_34 (by first | rfl | exact zp_nar) ⟨a, b, rfl, rfl, ha, hb, hJ, (zp_t (eq_of_nI c26 (by omega) (by have := (hg2 b hbn).2; omega))).symm⟩ (Nat.le_of_ble_eq_true rfl) (Nat.le_of_ble_eq_true rfl)
theorem k_X4_step (l : Launch) (hst : l.stackTraces = false) {σ : Sg} {n : Nat} (hI : cI σ n) (r o : Int32) : xMi l yX4_step cX4_step 4 .int 8 4 24 Lc [.ref 0, .int r, .int o] σ (fun v σ1 => ∃ k, r ≠ o ∧ tgx σ n r o k ∧ (∀ s, s < k → ¬ tgx σ n r o s) ∧ JD σ n σ1 ∧ v = nI k) (pT σ [(eIO, hdR σ n r), (eIO, hdR σ n o), (eIA, r ≠ o), (eNS, ∃ k, tgx σ n r o k)]) := by
  have h24 := hI.2
  refine zMetx_of (by decide +kernel) (Nat.le_of_ble_eq_true rfl) (fun D cT ad sz => ?_)
  show Wm zNoT l (rmx 8 4 24) RX4 cX4_step 4 (some .int) D cT ad Lc (zA ad Lc.length sz) (zZx (fun D cT ad L9 sz => zQi D cT ad L9 sz (fun v σ1 => ∃ k, r ≠ o ∧ tgx σ n r o k ∧ (∀ s, s < k → ¬ tgx σ n r o s) ∧ JD σ n σ1 ∧ v = nI k)) (pT σ [(eIO, hdR σ n r), (eIO, hdR σ n o), (eIA, r ≠ o), (eNS, ∃ k, tgx σ n r o k)]) 4 24 D cT ad Lc sz) [] 0 (lv_args 0 [.ref 0, .int r, .int o]) [] σ 0 0
  refine wm_aload_n 1 rfl dX4_step_0 rfl rfl ?_
  refine wm_iload_n 2 rfl dX4_step_1 rfl rfl ?_
  refine wmx_callVv 5 rfl dX4_step_2 (k_X4_checkRecord l hst hI _) ca_X4_checkRecord cv_X4_checkRecord rfl aw_10_14 rfl rfl ⟨Nat.le_of_ble_eq_true rfl, Nat.le_of_ble_eq_true rfl⟩ (Nat.le_of_ble_eq_true rfl) ⟨Nat.le_of_ble_eq_true rfl, Nat.le_of_ble_eq_true rfl⟩ ⟨Nat.le_of_ble_eq_true rfl, Nat.le_of_ble_eq_true rfl⟩ (fun E σ1 ⟨e1, e2, e3⟩ => ⟨e2 ▸ stb.rf _, Or.inl ⟨e1, e3⟩⟩) ?_
  rintro σ9 ⟨rfl, p1⟩
  have q1 := p1
  obtain ⟨a, rfl, ha⟩ := q1
  have han := ha.1
  refine wm_aload_n 6 rfl dX4_step_5 rfl rfl ?_
  refine wm_iload_n 7 rfl dX4_step_6 rfl rfl ?_
  refine wmx_callVv 10 rfl dX4_step_7 (k_X4_checkRecord l hst hI _) ca_X4_checkRecord cv_X4_checkRecord rfl aw_10_14 rfl rfl ⟨Nat.le_of_ble_eq_true rfl, Nat.le_of_ble_eq_true rfl⟩ (Nat.le_of_ble_eq_true rfl) ⟨Nat.le_of_ble_eq_true rfl, Nat.le_of_ble_eq_true rfl⟩ ⟨Nat.le_of_ble_eq_true rfl, Nat.le_of_ble_eq_true rfl⟩ (fun E σ1 ⟨e1, e2, e3⟩ => ⟨e2 ▸ stb.rf _, Or.inr ⟨p1, Or.inl ⟨e1, e3⟩⟩⟩) ?_
  rintro σ9 ⟨rfl, p2⟩
  have q2 := p2
  obtain ⟨b, rfl, hb⟩ := q2
  have hbn := hb.1
  refine wm_iload_n 11 rfl dX4_step_10 rfl rfl ?_
  refine wm_iload_n 12 rfl dX4_step_11 rfl rfl ?_
  refine wmx_callSv 15 rfl dX4_step_12 (k_X4_checkDifferent l hst _ _) ca_X4_checkDifferent aw_18_17 aw_18_16 ⟨Nat.le_of_ble_eq_true rfl, Nat.le_of_ble_eq_true rfl⟩ (Nat.le_of_ble_eq_true rfl) ⟨Nat.le_of_ble_eq_true rfl, Nat.le_of_ble_eq_true rfl⟩ ⟨Nat.le_of_ble_eq_true rfl, Nat.le_of_ble_eq_true rfl⟩ (fun E σ1 ⟨e1, e2, e3⟩ => ⟨e2 ▸ stb.rf _, Or.inr ⟨p1, Or.inr ⟨p2, Or.inl ⟨e1, e3⟩⟩⟩⟩) ?_
  rintro σ9 ⟨rfl, p3⟩
  have tg : ∀ k, tgx σ n (nI a) (nI b) k → k < 3 ∧ gC σ n k a = gC σ n k b := by
    rintro k ⟨a2, b2, e1, e2, h2, h3, hk, h⟩
    rw [eq_of_nI e1 (by omega) (by have := h2.1; omega), eq_of_nI e2 (by omega) (by have := h3.1; omega)]
    exact ⟨hk, h⟩
  refine wm_aload_n 16 rfl dX4_step_15 rfl rfl ?_
  refine wm_iload_n 17 rfl dX4_step_16 rfl rfl ?_
  refine wm_iload_n 18 rfl dX4_step_17 rfl rfl ?_
  refine wm_callVi (ty := .int) 21 rfl dX4_step_18 (k_X4_findStep l hI han hbn) ca_X4_findStep cv_X4_findStep rfl aw_20_3 rfl rfl ⟨Nat.le_of_ble_eq_true rfl, Nat.le_of_ble_eq_true rfl⟩ (Nat.le_of_ble_eq_true rfl) ⟨Nat.le_of_ble_eq_true rfl, Nat.le_of_ble_eq_true rfl⟩ ?_
  rintro r9 τ ⟨hJ, hs⟩
  refine wm_istore_n (ls' := [(3, _), (0, _), (1, _), (2, _)]) 22 rfl dX4_step_21 rfl (by decide) rfl ?_
  refine wm_iload_n 23 rfl dX4_step_22 rfl rfl ?_
  refine wm_iconst (v := (-1)) 24 rfl dX4_step_23 (by decide) ?_
  refine wm_icmp_ne 37 27 rfl (by decide) dX4_step_24 (fun c24 => ?_) (fun c24 => ?_)
  · refine wm_iload_n 38 rfl dX4_step_37 rfl rfl ?_
    exact wmx_iret dX4_step_38 (by first | rfl | exact zp_nar) (by rcases hs with ⟨k, hk, rfl, h1, h2⟩ | ⟨h2, -⟩; exact ⟨k, p3, ⟨a, b, rfl, rfl, ha, hb, hk, h1⟩, fun s hs q => h2 s hs (tg s q).2, hJ, rfl⟩; exact absurd h2 c24) (Nat.le_of_ble_eq_true rfl) (Nat.le_of_ble_eq_true rfl)
  · exact wmx_throw th_NSE (List.mem_of_getElem? (i := 12) rfl) hst dX4_step_27 dX4_step_30 dX4_step_31 dX4_step_33 dX4_step_36 ⟨Nat.le_of_ble_eq_true rfl, Nat.le_of_ble_eq_true rfl, Nat.le_of_ble_eq_true rfl, Nat.le_of_ble_eq_true rfl⟩ (Nat.le_of_ble_eq_true rfl) (Nat.le_of_ble_eq_true rfl) (⟨hJ.1, Or.inr ⟨p1, Or.inr ⟨p2, Or.inr ⟨p3, Or.inl ⟨rfl, by
  rintro ⟨k, hk⟩
  obtain ⟨h1, h2⟩ := tg k hk
  rcases hs with ⟨k2, hk2, h3, -⟩ | ⟨-, h3⟩
  · exact nI_ne_m1 (by omega) (h3.symm.trans c24)
  · exact h3 k h1 h2⟩⟩⟩⟩⟩)
