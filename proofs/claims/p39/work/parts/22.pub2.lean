theorem ca_X1_isFirstWithKey : zCal yX1_isFirstWithKey cX1_isFirstWithKey 4 (some .boolean) 2 := ⟨aw_22_4, aw_1_17, by decide +kernel, by decide +kernel, by decide +kernel⟩
theorem cv_X1_isFirstWithKey : zCaV RX1 yX1_isFirstWithKey := ⟨aw_22_2, aw_22_3⟩
theorem ca_X4_isKeyElsewhere : zCal yX4_isKeyElsewhere cX4_isKeyElsewhere 5 (some .boolean) 2 := ⟨aw_22_9, aw_1_2, by decide +kernel, by decide +kernel, by decide +kernel⟩
theorem cv_X4_isKeyElsewhere : zCaV RX4 yX4_isKeyElsewhere := ⟨aw_22_7, aw_22_8⟩
theorem ca_X4_findFirstByOrder : zCal yX4_findFirstByOrder cX4_findFirstByOrder 5 (some .int) 2 := ⟨aw_14_13, aw_1_2, by decide +kernel, by decide +kernel, by decide +kernel⟩
theorem cv_X4_findFirstByOrder : zCaV RX4 yX4_findFirstByOrder := ⟨aw_14_11, aw_14_12⟩
theorem ca_X4_checkFactRecord : zCal yX4_checkFactRecord cX4_checkFactRecord 1 none 1 := ⟨aw_15_1, aw_1_2, by decide +kernel, by decide +kernel, by decide +kernel⟩
theorem ca_X4_findFirstByPairs : zCal yX4_findFirstByPairs cX4_findFirstByPairs 4 (some .int) 2 := ⟨aw_15_9, aw_1_2, by decide +kernel, by decide +kernel, by decide +kernel⟩
theorem cv_X4_findFirstByPairs : zCaV RX4 yX4_findFirstByPairs := ⟨aw_15_7, aw_15_8⟩
theorem pf_X4_34_3 : zPF RX4 34 3 5 := ⟨RX4, TX4, 6, "Assetmerge", tyX4, rfl, zin_X4, by decide, aw_2_5, rfl, tyX4_ok, nmX4, rfl, by decide +kernel⟩
theorem pf_X4_68_3 : zPF RX4 68 3 4 := ⟨RX4, TX4, 6, "Assetmerge", tyX4, rfl, zin_X4, by decide, aw_9_11, rfl, tyX4_ok, nmX4, rfl, by decide +kernel⟩
def shP (σ : Sg) (n : Nat) (k : Int32) : Int32 → Sg → Prop := fun v σ1 => ∃ i, k = nI i ∧ i < 3 ∧ JD σ n σ1 ∧ v = nI (cq (fun r => (∀ j, j < r → ¬ smK σ n i r j) ∧ ∃ o, o < n ∧ smK σ n i r o ∧ gC σ n 2 o ≠ gC σ n 2 r) n)
def agP (σ : Sg) (n : Nat) (r f : Int32) : UInt32 → Sg → Prop := fun v σ1 => ∃ a i x, bsx σ n r f i x ∧ (r = nI a ∧ a < n) ∧ stb σ σ1 ∧ v = FP.fdiv (FP.i2f (nI (cq (fun y => tf σ n (gC σ n 2) (gC σ n 2 a) i y ∧ σ (10 + i) y = σ (10 + i) x) n))) (FP.i2f (nI (cq (tf σ n (gC σ n 2) (gC σ n 2 a) i) n)))
theorem k_X4_shared (l : Launch) (hst : l.stackTraces = false) {σ : Sg} {n : Nat} (hI : cI σ n) (k : Int32) : xMi l yX4_shared cX4_shared 4 .int 7 1 6 Lc [.ref 0, .int k] σ (shP σ n k) (pT σ [(eIO, nR 3 k)]) := by
  have h24 := hI.2
  refine zMetx_of (by decide +kernel) (Nat.le_of_ble_eq_true rfl) (fun D cT ad sz => ?_)
  show Wm zNoT l (rmx 7 1 6) RX4 cX4_shared 4 (some .int) D cT ad Lc (zA ad Lc.length sz) (zZx (fun D cT ad L9 sz => zQi D cT ad L9 sz (shP σ n k)) (pT σ [(eIO, nR 3 k)]) 1 6 D cT ad Lc sz) [] 0 (lv_args 0 [.ref 0, .int k]) [] σ 0 0
  refine wm_iload_n 1 rfl dX4_shared_0 rfl rfl ?_
  refine wmx_callSv 4 rfl dX4_shared_1 (k_X4_checkKind l hst _) ca_X4_checkKind aw_13_21 aw_13_20 ⟨Nat.le_of_ble_eq_true rfl, Nat.le_of_ble_eq_true rfl⟩ (Nat.le_of_ble_eq_true rfl) ⟨Nat.le_of_ble_eq_true rfl, Nat.le_of_ble_eq_true rfl⟩ ⟨Nat.le_of_ble_eq_true rfl, Nat.le_of_ble_eq_true rfl⟩ (fun E σ1 ⟨e1, e2, e3⟩ => ⟨e2 ▸ stb.rf _, Or.inl ⟨e1, e3⟩⟩) ?_
  rintro σ9 ⟨rfl, p1⟩
  have qk := p1
  obtain ⟨i, rfl, hi⟩ := qk
  let SH : Nat → Prop := fun r => (∀ j, j < r → ¬ smK σ n i r j) ∧ ∃ o, o < n ∧ smK σ n i r o ∧ gC σ n 2 o ≠ gC σ n 2 r
  have lp : ∀ (q9 j : Nat) (τ : Sg), n - j = q9 → j ≤ n → JD σ n τ → Wm zNoT l (rmx 7 1 6) RX4 cX4_shared 4 (some .int) D cT ad Lc (zA ad Lc.length sz) (zZx (fun D cT ad L9 sz => zQi D cT ad L9 sz (shP σ n (nI i))) (pT σ [(eIO, nR 3 (nI i))]) 1 6 D cT ad Lc sz) [] 19 [(0, .ref 0), (1, .int (nI i)), (2, .int (nI (cq SH j))), (3, .int (nI j))] [] τ (0 + 1) (0 + 6) := by
    intro q9
    induction q9 using Nat.strongRecOn with
    | ind q9 ih =>
      intro j τ hmj hjj hJ
      have hI2 := hJ.1.cIy hI
      have hg2 : lab τ 19 n (gC σ n 2) := hJ.2.2 2 (by omega)
      have esm := fun a b => propext (smK_ag (σ := σ) (τ := τ) (n := n) (k := i) a b (hJ.1 1 (by omega)) (hJ.1 (7 + i) (by omega)))
      refine wm_iload_n 20 rfl dX4_shared_19 rfl rfl ?_
      refine wm_aload_n 21 rfl dX4_shared_20 rfl rfl ?_
      refine wm_getR 24 rfl dX4_shared_21 gf_X4_12_3 rfl rfl ?_
      refine wm_getI 27 rfl dX4_shared_24 gf_X4_63_0 rfl rfl ?_
      refine wm_icmp_ge 60 30 rfl (by decide) dX4_shared_27 (fun c27 => ?_) (fun c27 => ?_)
      · rw [hI2.1] at c27
        have gj : j = n := by have := le_of_nI c27 (by omega) (by omega); omega
        refine wm_iload_n 61 rfl dX4_shared_60 rfl rfl ?_
        exact wmx_iret dX4_shared_61 (by first | rfl | exact zp_nar) ⟨i, rfl, hi, hJ, by rw [gj]⟩ (Nat.le_of_ble_eq_true rfl) (Nat.le_of_ble_eq_true rfl)
      · rw [hI2.1] at c27
        have gj : j < n := lt_of_nnI c27 (by omega) (by omega)
        refine wm_aload_n 31 rfl dX4_shared_30 rfl rfl ?_
        refine wm_getR 34 rfl dX4_shared_31 gf_X4_12_3 rfl rfl ?_
        refine wm_iload_n 35 rfl dX4_shared_34 rfl rfl ?_
        refine wm_iload_n 36 rfl dX4_shared_35 rfl rfl ?_
        refine wm_callVi (ty := .boolean) 39 rfl dX4_shared_36 (k_X1_isFirstWithKey l hI2 j i gj hi) ca_X1_isFirstWithKey cv_X1_isFirstWithKey rfl aw_22_1 rfl rfl ⟨Nat.le_of_ble_eq_true rfl, Nat.le_of_ble_eq_true rfl⟩ (Nat.le_of_ble_eq_true rfl) ⟨Nat.le_of_ble_eq_true rfl, Nat.le_of_ble_eq_true rfl⟩ ?_
        rintro r9 σ9 ⟨rfl, rfl⟩
        simp only [esm]
        refine wm_if_eq 54 42 rfl (by decide) dX4_shared_39 (fun c39 => ?_) (fun c39 => ?_)
        · rw [← cq_f (P := SH) (fun q => zp_0.mp c39 q.1)]
          refine wm_iinc (ls' := [(3, _), (0, _), (1, _), (2, _)]) 57 rfl dX4_shared_54 rfl (nI_inc _) (by decide) rfl ?_
          refine wm_goto 19 (by decide) dX4_shared_57 ?_
          refine wm_loc (ls2 := [(0, _), (1, _), (2, _), (3, _)]) [1, 2, 3, 0] rfl ?_
          exact ih (n - (j + 1)) (by omega) (j + 1) τ rfl (by omega) hJ
        · refine wm_aload_n 43 rfl dX4_shared_42 rfl rfl ?_
          refine wm_iload_n 44 rfl dX4_shared_43 rfl rfl ?_
          refine wm_iload_n 45 rfl dX4_shared_44 rfl rfl ?_
          refine wm_callVi (ty := .boolean) 48 rfl dX4_shared_45 (k_X4_isKeyElsewhere l hI2 hg2 gj hi) ca_X4_isKeyElsewhere cv_X4_isKeyElsewhere rfl aw_22_6 rfl rfl ⟨Nat.le_of_ble_eq_true rfl, Nat.le_of_ble_eq_true rfl⟩ (Nat.le_of_ble_eq_true rfl) ⟨Nat.le_of_ble_eq_true rfl, Nat.le_of_ble_eq_true rfl⟩ ?_
          rintro r9 σ9 ⟨rfl, rfl⟩
          simp only [esm]
          refine wm_if_eq 54 51 rfl (by decide) dX4_shared_48 (fun c48 => ?_) (fun c48 => ?_)
          · rw [← cq_f (P := SH) (fun q => zp_0.mp c48 q.2)]
            refine wm_iinc (ls' := [(3, _), (0, _), (1, _), (2, _)]) 57 rfl dX4_shared_54 rfl (nI_inc _) (by decide) rfl ?_
            refine wm_goto 19 (by decide) dX4_shared_57 ?_
            refine wm_loc (ls2 := [(0, _), (1, _), (2, _), (3, _)]) [1, 2, 3, 0] rfl ?_
            exact ih (n - (j + 1)) (by omega) (j + 1) τ rfl (by omega) hJ
          · refine wm_iinc (ls' := [(2, _), (0, _), (1, _), (3, _)]) 54 rfl dX4_shared_51 rfl (by rw [nI_inc, ← cq_t (P := SH) ⟨zp_n.mp c39, zp_n.mp c48⟩]) (by decide) rfl ?_
            refine wm_iinc (ls' := [(3, _), (2, _), (0, _), (1, _)]) 57 rfl dX4_shared_54 rfl (nI_inc _) (by decide) rfl ?_
            refine wm_goto 19 (by decide) dX4_shared_57 ?_
            refine wm_loc (ls2 := [(0, _), (1, _), (2, _), (3, _)]) [2, 3, 1, 0] rfl ?_
            exact ih (n - (j + 1)) (by omega) (j + 1) τ rfl (by omega) hJ
  refine wm_aload_n 5 rfl dX4_shared_4 rfl rfl ?_
  refine wm_getR 8 rfl dX4_shared_5 gf_X4_19_3 rfl rfl ?_
  refine wm_aload_n 9 rfl dX4_shared_8 rfl rfl ?_
  refine wm_getR 12 rfl dX4_shared_9 gf_X4_12_3 rfl rfl ?_
  refine wm_callUv (x := ⟨"Assetmerge$Joining", "findGroups", "(LAssetmerge$Inventory;)V"⟩) (C := RX2) 15 rfl dX4_shared_12 (k_fgJ l hI) ca_X0_findGroups rfl aw_5_0 aw_4_23 aw_4_22 aw_4_21 rfl rfl ⟨Nat.le_of_ble_eq_true rfl, Nat.le_of_ble_eq_true rfl⟩ (Nat.le_of_ble_eq_true rfl) ⟨Nat.le_of_ble_eq_true rfl, Nat.le_of_ble_eq_true rfl⟩ ?_
  rintro τ hfg
  have hJ := JD_fg hfg
  refine wm_iconst (v := 0) 16 rfl dX4_shared_15 (by decide) ?_
  refine wm_istore_n (ls' := [(2, _), (0, _), (1, _)]) 17 rfl dX4_shared_16 rfl (by decide) rfl ?_
  refine wm_iconst (v := 0) 18 rfl dX4_shared_17 (by decide) ?_
  refine wm_istore_n (ls' := [(3, _), (2, _), (0, _), (1, _)]) 19 rfl dX4_shared_18 rfl (by decide) rfl ?_
  refine wm_loc (ls2 := [(0, _), (1, _), (2, _), (3, _)]) [2, 3, 1, 0] rfl ?_
  exact lp n 0 τ rfl (Nat.zero_le _) hJ
theorem k_X4_thingsWithout (l : Launch) (hst : l.stackTraces = false) {σ : Sg} {n : Nat} (hI : cI σ n) (r : Int32) : xMi l yX4_thingsWithout cX4_thingsWithout 3 .int 8 1 6 Lc [.ref 0, .int r] σ (fun v σ1 => ∃ a, r = nI a ∧ hd σ n a ∧ stb σ σ1 ∧ v = nI (cq (THs (zu σ 1 6 (σ 1 6 &&& (((1 : Int32) <<< (nI a &&& 31)) ^^^ (-1)))) n) n)) (pT σ [(eIO, hdR σ n r)]) := by
  have h24 := hI.2
  refine zMetx_of (by decide +kernel) (Nat.le_of_ble_eq_true rfl) (fun D cT ad sz => ?_)
  show Wm zNoT l (rmx 8 1 6) RX4 cX4_thingsWithout 3 (some .int) D cT ad Lc (zA ad Lc.length sz) (zZx (fun D cT ad L9 sz => zQi D cT ad L9 sz (fun v σ1 => ∃ a, r = nI a ∧ hd σ n a ∧ stb σ σ1 ∧ v = nI (cq (THs (zu σ 1 6 (σ 1 6 &&& (((1 : Int32) <<< (nI a &&& 31)) ^^^ (-1)))) n) n))) (pT σ [(eIO, hdR σ n r)]) 1 6 D cT ad Lc sz) [] 0 (lv_args 0 [.ref 0, .int r]) [] σ 0 0
  refine wm_aload_n 1 rfl dX4_thingsWithout_0 rfl rfl ?_
  refine wm_iload_n 2 rfl dX4_thingsWithout_1 rfl rfl ?_
  refine wmx_callVv 5 rfl dX4_thingsWithout_2 (k_X4_checkRecord l hst hI _) ca_X4_checkRecord cv_X4_checkRecord rfl aw_10_14 rfl rfl ⟨Nat.le_of_ble_eq_true rfl, Nat.le_of_ble_eq_true rfl⟩ (Nat.le_of_ble_eq_true rfl) ⟨Nat.le_of_ble_eq_true rfl, Nat.le_of_ble_eq_true rfl⟩ ⟨Nat.le_of_ble_eq_true rfl, Nat.le_of_ble_eq_true rfl⟩ (fun E σ1 ⟨e1, e2, e3⟩ => ⟨e2 ▸ stb.rf _, Or.inl ⟨e1, e3⟩⟩) ?_
  rintro σ9 ⟨rfl, p1⟩
  have q1 := p1
  obtain ⟨a, rfl, ha⟩ := q1
  have han := ha.1
  refine wm_aload_n 6 rfl dX4_thingsWithout_5 rfl rfl ?_
  refine wm_getR 9 rfl dX4_thingsWithout_6 gf_X4_12_3 rfl rfl ?_
  refine wm_iload_n 10 rfl dX4_thingsWithout_9 rfl rfl ?_
  refine wm_callVv 13 rfl dX4_thingsWithout_10 (k_X1_hide l a) ca_X1_hide cv_X1_hide rfl aw_11_0 rfl rfl ⟨Nat.le_of_ble_eq_true rfl, Nat.le_of_ble_eq_true rfl⟩ (Nat.le_of_ble_eq_true rfl) ⟨Nat.le_of_ble_eq_true rfl, Nat.le_of_ble_eq_true rfl⟩ ?_
  rintro σ9 rfl
  refine wm_aload_n 14 rfl dX4_thingsWithout_13 rfl rfl ?_
  refine wm_callVi (ty := .int) 17 rfl dX4_thingsWithout_14 (k_X4_countThings l (σ := zu σ 1 6 (σ 1 6 &&& (((1 : Int32) <<< (nI a &&& 31)) ^^^ (-1)))) (n := n) ⟨hI.1, hI.2⟩) ca_X4_countThings cv_X4_countThings rfl aw_4_16 rfl rfl ⟨Nat.le_of_ble_eq_true rfl, Nat.le_of_ble_eq_true rfl⟩ (Nat.le_of_ble_eq_true rfl) ⟨Nat.le_of_ble_eq_true rfl, Nat.le_of_ble_eq_true rfl⟩ ?_
  rintro r9 τ ⟨hJ, rfl⟩
  refine wm_istore_n (ls' := [(2, _), (0, _), (1, _)]) 18 rfl dX4_thingsWithout_17 rfl (by decide) rfl ?_
  refine wm_aload_n 19 rfl dX4_thingsWithout_18 rfl rfl ?_
  refine wm_getR 22 rfl dX4_thingsWithout_19 gf_X4_12_3 rfl rfl ?_
  refine wm_iload_n 23 rfl dX4_thingsWithout_22 rfl rfl ?_
  refine wm_callVv 26 rfl dX4_thingsWithout_23 (k_X1_unhide l a) ca_X1_unhide cv_X1_unhide rfl aw_12_17 rfl rfl ⟨Nat.le_of_ble_eq_true rfl, Nat.le_of_ble_eq_true rfl⟩ (Nat.le_of_ble_eq_true rfl) ⟨Nat.le_of_ble_eq_true rfl, Nat.le_of_ble_eq_true rfl⟩ ?_
  rintro σ9 rfl
  refine wm_iload_n 27 rfl dX4_thingsWithout_26 rfl rfl ?_
  exact wmx_iret dX4_thingsWithout_27 (by first | rfl | exact zp_nar) ⟨a, rfl, ha, by
  have h1 : τ 1 6 = (σ 1 6 &&& (((1 : Int32) <<< (nI a &&& 31)) ^^^ (-1))) := by rw [hJ.1 1 (by omega)]; unfold zu; simp
  rw [h1, hid_un (by omega) ha.2]
  exact stb_back hJ.1, rfl⟩ (Nat.le_of_ble_eq_true rfl) (Nat.le_of_ble_eq_true rfl)
theorem k_X4_thingsIf (l : Launch) (hst : l.stackTraces = false) {σ : Sg} {n : Nat} (hI : cI σ n) (r k v : Int32) : xMi l yX4_thingsIf cX4_thingsIf 6 .int 8 3 18 Lc [.ref 0, .int r, .int k, .int v] σ (fun o σ1 => rg v (-1) 99 ∧ ∃ a i, r = nI a ∧ hd σ n a ∧ k = nI i ∧ i < 3 ∧ stb σ σ1 ∧ o = nI (cq (THs (zu σ (7 + i) a v) n) n)) (pT σ [(eIO, hdR σ n r), (eIO, nR 3 k), (eIA, rg v (-1) 99)]) := by
  have h24 := hI.2
  refine zMetx_of (by decide +kernel) (Nat.le_of_ble_eq_true rfl) (fun D cT ad sz => ?_)
  show Wm zNoT l (rmx 8 3 18) RX4 cX4_thingsIf 6 (some .int) D cT ad Lc (zA ad Lc.length sz) (zZx (fun D cT ad L9 sz => zQi D cT ad L9 sz (fun o σ1 => rg v (-1) 99 ∧ ∃ a i, r = nI a ∧ hd σ n a ∧ k = nI i ∧ i < 3 ∧ stb σ σ1 ∧ o = nI (cq (THs (zu σ (7 + i) a v) n) n))) (pT σ [(eIO, hdR σ n r), (eIO, nR 3 k), (eIA, rg v (-1) 99)]) 3 18 D cT ad Lc sz) [] 0 (lv_args 0 [.ref 0, .int r, .int k, .int v]) [] σ 0 0
  refine wm_aload_n 1 rfl dX4_thingsIf_0 rfl rfl ?_
  refine wm_iload_n 2 rfl dX4_thingsIf_1 rfl rfl ?_
  refine wmx_callVv 5 rfl dX4_thingsIf_2 (k_X4_checkRecord l hst hI _) ca_X4_checkRecord cv_X4_checkRecord rfl aw_10_14 rfl rfl ⟨Nat.le_of_ble_eq_true rfl, Nat.le_of_ble_eq_true rfl⟩ (Nat.le_of_ble_eq_true rfl) ⟨Nat.le_of_ble_eq_true rfl, Nat.le_of_ble_eq_true rfl⟩ ⟨Nat.le_of_ble_eq_true rfl, Nat.le_of_ble_eq_true rfl⟩ (fun E σ1 ⟨e1, e2, e3⟩ => ⟨e2 ▸ stb.rf _, Or.inl ⟨e1, e3⟩⟩) ?_
  rintro σ9 ⟨rfl, p1⟩
  have q1 := p1
  obtain ⟨a, rfl, ha⟩ := q1
  have han := ha.1
  refine wm_iload_n 6 rfl dX4_thingsIf_5 rfl rfl ?_
  refine wmx_callSv 9 rfl dX4_thingsIf_6 (k_X4_checkKind l hst _) ca_X4_checkKind aw_13_21 aw_13_20 ⟨Nat.le_of_ble_eq_true rfl, Nat.le_of_ble_eq_true rfl⟩ (Nat.le_of_ble_eq_true rfl) ⟨Nat.le_of_ble_eq_true rfl, Nat.le_of_ble_eq_true rfl⟩ ⟨Nat.le_of_ble_eq_true rfl, Nat.le_of_ble_eq_true rfl⟩ (fun E σ1 ⟨e1, e2, e3⟩ => ⟨e2 ▸ stb.rf _, Or.inr ⟨p1, Or.inl ⟨e1, e3⟩⟩⟩) ?_
  rintro σ9 ⟨rfl, p2⟩
  have qk := p2
  obtain ⟨i, rfl, hi⟩ := qk
  refine wm_iload_n 10 rfl dX4_thingsIf_9 rfl rfl ?_
  refine wm_iconst (v := (-1)) 11 rfl dX4_thingsIf_10 (by decide) ?_
  refine wm_bipush (v := 99) 13 rfl dX4_thingsIf_11 (by decide) ?_
  refine wmx_callSv 16 rfl dX4_thingsIf_13 (k_X4_checkRange l hst _ (-1) 99) ca_X4_checkRange aw_16_11 aw_16_10 ⟨Nat.le_of_ble_eq_true rfl, Nat.le_of_ble_eq_true rfl⟩ (Nat.le_of_ble_eq_true rfl) ⟨Nat.le_of_ble_eq_true rfl, Nat.le_of_ble_eq_true rfl⟩ ⟨Nat.le_of_ble_eq_true rfl, Nat.le_of_ble_eq_true rfl⟩ (fun E σ1 ⟨e1, e2, e3⟩ => ⟨e2 ▸ stb.rf _, Or.inr ⟨p1, Or.inr ⟨p2, Or.inl ⟨e1, e3⟩⟩⟩⟩) ?_
  rintro σ9 ⟨rfl, p3⟩
  refine wm_aload_n 17 rfl dX4_thingsIf_16 rfl rfl ?_
  refine wm_getR 20 rfl dX4_thingsIf_17 gf_X4_12_3 rfl rfl ?_
  refine wm_getR 23 rfl dX4_thingsIf_20 gf_X4_75_0 rfl rfl ?_
  refine wm_iload_n 24 rfl dX4_thingsIf_23 rfl rfl ?_
  refine wm_aaload (r := 7 + i) 25 rfl dX4_thingsIf_24 rfl (vp_in_nI hi (by omega)) (by rw [nI_clamp (by omega)]) ?_
  refine wm_iload_n 26 rfl dX4_thingsIf_25 rfl rfl ?_
  refine wm_iaload 27 rfl dX4_thingsIf_26 (Lc_key hi) (in24 han h24) ?_
  rw [nI_clamp (by omega)]
  refine wm_istore (ls' := [(4, _), (0, _), (1, _), (2, _), (3, _)]) 29 rfl dX4_thingsIf_27 (by decide) rfl ?_
  refine wm_aload_n 30 rfl dX4_thingsIf_29 rfl rfl ?_
  refine wm_getR 33 rfl dX4_thingsIf_30 gf_X4_12_3 rfl rfl ?_
  refine wm_getR 36 rfl dX4_thingsIf_33 gf_X4_75_0 rfl rfl ?_
  refine wm_iload_n 37 rfl dX4_thingsIf_36 rfl rfl ?_
  refine wm_aaload (r := 7 + i) 38 rfl dX4_thingsIf_37 rfl (vp_in_nI hi (by omega)) (by rw [nI_clamp (by omega)]) ?_
  refine wm_iload_n 39 rfl dX4_thingsIf_38 rfl rfl ?_
  refine wm_iload_n 40 rfl dX4_thingsIf_39 rfl rfl ?_
  refine wm_iastore 41 rfl dX4_thingsIf_40 (Lc_key hi) (in24 han h24) ?_
  rw [nI_clamp (by omega)]
  refine wm_aload_n 42 rfl dX4_thingsIf_41 rfl rfl ?_
  refine wm_callVi (ty := .int) 45 rfl dX4_thingsIf_42 (k_X4_countThings l (σ := zu σ (7 + i) a v) (n := n) ⟨by rw [zu_ne _ _ _ (by omega)]; exact hI.1, hI.2⟩) ca_X4_countThings cv_X4_countThings rfl aw_4_16 rfl rfl ⟨Nat.le_of_ble_eq_true rfl, Nat.le_of_ble_eq_true rfl⟩ (Nat.le_of_ble_eq_true rfl) ⟨Nat.le_of_ble_eq_true rfl, Nat.le_of_ble_eq_true rfl⟩ ?_
  rintro r9 τ ⟨hJ, rfl⟩
  refine wm_istore (ls' := [(5, _), (4, _), (0, _), (1, _), (2, _), (3, _)]) 47 rfl dX4_thingsIf_45 (by decide) rfl ?_
  refine wm_aload_n 48 rfl dX4_thingsIf_47 rfl rfl ?_
  refine wm_getR 51 rfl dX4_thingsIf_48 gf_X4_12_3 rfl rfl ?_
  refine wm_getR 54 rfl dX4_thingsIf_51 gf_X4_75_0 rfl rfl ?_
  refine wm_iload_n 55 rfl dX4_thingsIf_54 rfl rfl ?_
  refine wm_aaload (r := 7 + i) 56 rfl dX4_thingsIf_55 rfl (vp_in_nI hi (by omega)) (by rw [nI_clamp (by omega)]) ?_
  refine wm_iload_n 57 rfl dX4_thingsIf_56 rfl rfl ?_
  refine wm_iload 59 rfl dX4_thingsIf_57 rfl ?_
  refine wm_iastore 60 rfl dX4_thingsIf_59 (Lc_key hi) (in24 han h24) ?_
  rw [nI_clamp (by omega)]
  refine wm_iload 62 rfl dX4_thingsIf_60 rfl ?_
  exact wmx_iret dX4_thingsIf_62 (by first | rfl | exact zp_nar) ⟨p3, a, i, rfl, ha, rfl, hi, stb_back hJ.1, rfl⟩ (Nat.le_of_ble_eq_true rfl) (Nat.le_of_ble_eq_true rfl)
theorem k_X4_thingsIfAllowed (l : Launch) (hst : l.stackTraces = false) {σ : Sg} {n : Nat} (hI : cI σ n) (hsy : ∀ a b, a < 24 → b < 24 → tb (σ 13 a) b = true → a ≠ b ∧ tb (σ 13 b) a = true) (r o : Int32) : xMi l yX4_thingsIfAllowed cX4_thingsIfAllowed 4 .int 8 3 18 Lc [.ref 0, .int r, .int o] σ (fun v σ1 => ∃ a b, r = nI a ∧ o = nI b ∧ hd σ n a ∧ hd σ n b ∧ tb (σ 13 a) b = true ∧ stb σ σ1 ∧ v = nI (cq (THs (upM σ a b) n) n)) (pT σ [(eIO, hdR σ n r), (eIO, hdR σ n o), (eNS, fbR σ r o)]) := by
  have h24 := hI.2
  refine zMetx_of (by decide +kernel) (Nat.le_of_ble_eq_true rfl) (fun D cT ad sz => ?_)
  show Wm zNoT l (rmx 8 3 18) RX4 cX4_thingsIfAllowed 4 (some .int) D cT ad Lc (zA ad Lc.length sz) (zZx (fun D cT ad L9 sz => zQi D cT ad L9 sz (fun v σ1 => ∃ a b, r = nI a ∧ o = nI b ∧ hd σ n a ∧ hd σ n b ∧ tb (σ 13 a) b = true ∧ stb σ σ1 ∧ v = nI (cq (THs (upM σ a b) n) n))) (pT σ [(eIO, hdR σ n r), (eIO, hdR σ n o), (eNS, fbR σ r o)]) 3 18 D cT ad Lc sz) [] 0 (lv_args 0 [.ref 0, .int r, .int o]) [] σ 0 0
  refine wm_aload_n 1 rfl dX4_thingsIfAllowed_0 rfl rfl ?_
  refine wm_iload_n 2 rfl dX4_thingsIfAllowed_1 rfl rfl ?_
  refine wmx_callVv 5 rfl dX4_thingsIfAllowed_2 (k_X4_checkRecord l hst hI _) ca_X4_checkRecord cv_X4_checkRecord rfl aw_10_14 rfl rfl ⟨Nat.le_of_ble_eq_true rfl, Nat.le_of_ble_eq_true rfl⟩ (Nat.le_of_ble_eq_true rfl) ⟨Nat.le_of_ble_eq_true rfl, Nat.le_of_ble_eq_true rfl⟩ ⟨Nat.le_of_ble_eq_true rfl, Nat.le_of_ble_eq_true rfl⟩ (fun E σ1 ⟨e1, e2, e3⟩ => ⟨e2 ▸ stb.rf _, Or.inl ⟨e1, e3⟩⟩) ?_
  rintro σ9 ⟨rfl, p1⟩
  have q1 := p1
  obtain ⟨a, rfl, ha⟩ := q1
  have han := ha.1
  refine wm_aload_n 6 rfl dX4_thingsIfAllowed_5 rfl rfl ?_
  refine wm_iload_n 7 rfl dX4_thingsIfAllowed_6 rfl rfl ?_
  refine wmx_callVv 10 rfl dX4_thingsIfAllowed_7 (k_X4_checkRecord l hst hI _) ca_X4_checkRecord cv_X4_checkRecord rfl aw_10_14 rfl rfl ⟨Nat.le_of_ble_eq_true rfl, Nat.le_of_ble_eq_true rfl⟩ (Nat.le_of_ble_eq_true rfl) ⟨Nat.le_of_ble_eq_true rfl, Nat.le_of_ble_eq_true rfl⟩ ⟨Nat.le_of_ble_eq_true rfl, Nat.le_of_ble_eq_true rfl⟩ (fun E σ1 ⟨e1, e2, e3⟩ => ⟨e2 ▸ stb.rf _, Or.inr ⟨p1, Or.inl ⟨e1, e3⟩⟩⟩) ?_
  rintro σ9 ⟨rfl, p2⟩
  have q2 := p2
  obtain ⟨b, rfl, hb⟩ := q2
  have hbn := hb.1
  refine wm_aload_n 11 rfl dX4_thingsIfAllowed_10 rfl rfl ?_
  refine wm_iload_n 12 rfl dX4_thingsIfAllowed_11 rfl rfl ?_
  refine wm_iload_n 13 rfl dX4_thingsIfAllowed_12 rfl rfl ?_
  refine wmx_callVv 16 rfl dX4_thingsIfAllowed_13 (k_X4_checkForbidden l hst (a := a) (b := b) (by omega) (by omega)) ca_X4_checkForbidden cv_X4_checkForbidden rfl aw_19_11 rfl rfl ⟨Nat.le_of_ble_eq_true rfl, Nat.le_of_ble_eq_true rfl⟩ (Nat.le_of_ble_eq_true rfl) ⟨Nat.le_of_ble_eq_true rfl, Nat.le_of_ble_eq_true rfl⟩ ⟨Nat.le_of_ble_eq_true rfl, Nat.le_of_ble_eq_true rfl⟩ (fun E σ1 ⟨e1, e2, e3⟩ => ⟨e2 ▸ stb.rf _, Or.inr ⟨p1, Or.inr ⟨p2, Or.inl ⟨e1, fun q => e3 ((fbR_n (by omega) (by omega)).mp q)⟩⟩⟩⟩) ?_
  rintro σ9 ⟨rfl, p3⟩
  obtain ⟨hab, hba⟩ := hsy a b (by omega) (by omega) p3
  refine wm_aload_n 17 rfl dX4_thingsIfAllowed_16 rfl rfl ?_
  refine wm_getR 20 rfl dX4_thingsIfAllowed_17 gf_X4_12_3 rfl rfl ?_
  refine wm_iload_n 21 rfl dX4_thingsIfAllowed_20 rfl rfl ?_
  refine wm_iload_n 22 rfl dX4_thingsIfAllowed_21 rfl rfl ?_
  refine wm_callVv 25 rfl dX4_thingsIfAllowed_22 (k_X1_unpart l (a := a) (b := b) (by omega) (by omega)) ca_X1_unpart cv_X1_unpart rfl aw_19_15 rfl rfl ⟨Nat.le_of_ble_eq_true rfl, Nat.le_of_ble_eq_true rfl⟩ (Nat.le_of_ble_eq_true rfl) ⟨Nat.le_of_ble_eq_true rfl, Nat.le_of_ble_eq_true rfl⟩ ?_
  rintro σ9 rfl
  refine wm_aload_n 26 rfl dX4_thingsIfAllowed_25 rfl rfl ?_
  refine wm_callVi (ty := .int) 29 rfl dX4_thingsIfAllowed_26 (k_X4_countThings l (σ := upM σ a b) (n := n) ⟨by rw [upM_o _ _ _ (by decide)]; exact hI.1, hI.2⟩) ca_X4_countThings cv_X4_countThings rfl aw_4_16 rfl rfl ⟨Nat.le_of_ble_eq_true rfl, Nat.le_of_ble_eq_true rfl⟩ (Nat.le_of_ble_eq_true rfl) ⟨Nat.le_of_ble_eq_true rfl, Nat.le_of_ble_eq_true rfl⟩ ?_
  rintro r9 τ ⟨hJ, rfl⟩
  refine wm_istore_n (ls' := [(3, _), (0, _), (1, _), (2, _)]) 30 rfl dX4_thingsIfAllowed_29 rfl (by decide) rfl ?_
  refine wm_aload_n 31 rfl dX4_thingsIfAllowed_30 rfl rfl ?_
  refine wm_getR 34 rfl dX4_thingsIfAllowed_31 gf_X4_12_3 rfl rfl ?_
  refine wm_iload_n 35 rfl dX4_thingsIfAllowed_34 rfl rfl ?_
  refine wm_iload_n 36 rfl dX4_thingsIfAllowed_35 rfl rfl ?_
  refine wm_callVv 39 rfl dX4_thingsIfAllowed_36 (k_X1_part l (a := a) (b := b) (by omega) (by omega)) ca_X1_part cv_X1_part rfl aw_18_23 rfl rfl ⟨Nat.le_of_ble_eq_true rfl, Nat.le_of_ble_eq_true rfl⟩ (Nat.le_of_ble_eq_true rfl) ⟨Nat.le_of_ble_eq_true rfl, Nat.le_of_ble_eq_true rfl⟩ ?_
  rintro σ9 rfl
  refine wm_iload_n 40 rfl dX4_thingsIfAllowed_39 rfl rfl ?_
  exact wmx_iret dX4_thingsIfAllowed_40 (by first | rfl | exact zp_nar) ⟨a, b, rfl, rfl, ha, hb, p3, pt_up hab (by omega) (by omega) p3 hba hJ.1, rfl⟩ (Nat.le_of_ble_eq_true rfl) (Nat.le_of_ble_eq_true rfl)
theorem k_X4_weight (l : Launch) (hst : l.stackTraces = false) {σ : Sg} {n : Nat} (hI : cI σ n) (hS : cS σ n) (r : Int32) : xMi l yX4_weight cX4_weight 2 .int 7 1 6 Lc [.ref 0, .int r] σ (fun v σ1 => ∃ a, r = nI a ∧ hd σ n a ∧ σ = σ1 ∧ v = wg σ a (σ 0 4)) (pT σ [(eIO, hdR σ n r)]) := by
  have h24 := hI.2
  refine zMetx_of (by decide +kernel) (Nat.le_of_ble_eq_true rfl) (fun D cT ad sz => ?_)
  show Wm zNoT l (rmx 7 1 6) RX4 cX4_weight 2 (some .int) D cT ad Lc (zA ad Lc.length sz) (zZx (fun D cT ad L9 sz => zQi D cT ad L9 sz (fun v σ1 => ∃ a, r = nI a ∧ hd σ n a ∧ σ = σ1 ∧ v = wg σ a (σ 0 4))) (pT σ [(eIO, hdR σ n r)]) 1 6 D cT ad Lc sz) [] 0 (lv_args 0 [.ref 0, .int r]) [] σ 0 0
  refine wm_aload_n 1 rfl dX4_weight_0 rfl rfl ?_
  refine wm_iload_n 2 rfl dX4_weight_1 rfl rfl ?_
  refine wmx_callVv 5 rfl dX4_weight_2 (k_X4_checkRecord l hst hI _) ca_X4_checkRecord cv_X4_checkRecord rfl aw_10_14 rfl rfl ⟨Nat.le_of_ble_eq_true rfl, Nat.le_of_ble_eq_true rfl⟩ (Nat.le_of_ble_eq_true rfl) ⟨Nat.le_of_ble_eq_true rfl, Nat.le_of_ble_eq_true rfl⟩ ⟨Nat.le_of_ble_eq_true rfl, Nat.le_of_ble_eq_true rfl⟩ (fun E σ1 ⟨e1, e2, e3⟩ => ⟨e2 ▸ stb.rf _, Or.inl ⟨e1, e3⟩⟩) ?_
  rintro σ9 ⟨rfl, p1⟩
  have q1 := p1
  obtain ⟨a, rfl, ha⟩ := q1
  have han := ha.1
  refine wm_aload_n 6 rfl dX4_weight_5 rfl rfl ?_
  refine wm_getR 9 rfl dX4_weight_6 gf_X4_12_3 rfl rfl ?_
  refine wm_iload_n 10 rfl dX4_weight_9 rfl rfl ?_
  refine wm_aload_n 11 rfl dX4_weight_10 rfl rfl ?_
  refine wm_getI 14 rfl dX4_weight_11 gf_X4_68_3 rfl rfl ?_
  refine wm_callVi (ty := .int) 17 rfl dX4_weight_14 (k_X1_weigh l h24 hS han _) ca_X1_weigh cv_X1_weigh rfl aw_12_9 rfl rfl ⟨Nat.le_of_ble_eq_true rfl, Nat.le_of_ble_eq_true rfl⟩ (Nat.le_of_ble_eq_true rfl) ⟨Nat.le_of_ble_eq_true rfl, Nat.le_of_ble_eq_true rfl⟩ ?_
  rintro r9 σ9 ⟨rfl, rfl⟩
  exact wmx_iret dX4_weight_17 (by first | rfl | exact zp_nar) ⟨a, rfl, ha, rfl, rfl⟩ (Nat.le_of_ble_eq_true rfl) (Nat.le_of_ble_eq_true rfl)
theorem k_X4_fact (l : Launch) (hst : l.stackTraces = false) {σ : Sg} {n : Nat} (hI : cI σ n) (hS : cS σ n) (r f : Int32) : xMi l yX4_fact cX4_fact 4 .int 8 3 18 Lc [.ref 0, .int r, .int f] σ (fun v σ1 => ∃ i x, bsx σ n r f i x ∧ stb σ σ1 ∧ v = σ (10 + i) x) (pT σ [(eIO, hdR σ n r), (eIO, nR 3 f), (eNS, ∃ x, ftx σ n r f x)]) := by
  have h24 := hI.2
  refine zMetx_of (by decide +kernel) (Nat.le_of_ble_eq_true rfl) (fun D cT ad sz => ?_)
  show Wm zNoT l (rmx 8 3 18) RX4 cX4_fact 4 (some .int) D cT ad Lc (zA ad Lc.length sz) (zZx (fun D cT ad L9 sz => zQi D cT ad L9 sz (fun v σ1 => ∃ i x, bsx σ n r f i x ∧ stb σ σ1 ∧ v = σ (10 + i) x)) (pT σ [(eIO, hdR σ n r), (eIO, nR 3 f), (eNS, ∃ x, ftx σ n r f x)]) 3 18 D cT ad Lc sz) [] 0 (lv_args 0 [.ref 0, .int r, .int f]) [] σ 0 0
  refine wm_aload_n 1 rfl dX4_fact_0 rfl rfl ?_
  refine wm_iload_n 2 rfl dX4_fact_1 rfl rfl ?_
  refine wmx_callVv 5 rfl dX4_fact_2 (k_X4_checkRecord l hst hI _) ca_X4_checkRecord cv_X4_checkRecord rfl aw_10_14 rfl rfl ⟨Nat.le_of_ble_eq_true rfl, Nat.le_of_ble_eq_true rfl⟩ (Nat.le_of_ble_eq_true rfl) ⟨Nat.le_of_ble_eq_true rfl, Nat.le_of_ble_eq_true rfl⟩ ⟨Nat.le_of_ble_eq_true rfl, Nat.le_of_ble_eq_true rfl⟩ (fun E σ1 ⟨e1, e2, e3⟩ => ⟨e2 ▸ stb.rf _, Or.inl ⟨e1, e3⟩⟩) ?_
  rintro σ9 ⟨rfl, p1⟩
  have q1 := p1
  obtain ⟨a, rfl, ha⟩ := q1
  have han := ha.1
  refine wm_iload_n 6 rfl dX4_fact_5 rfl rfl ?_
  refine wmx_callSv 9 rfl dX4_fact_6 (k_X4_checkField l hst _) ca_X4_checkField aw_14_8 aw_14_7 ⟨Nat.le_of_ble_eq_true rfl, Nat.le_of_ble_eq_true rfl⟩ (Nat.le_of_ble_eq_true rfl) ⟨Nat.le_of_ble_eq_true rfl, Nat.le_of_ble_eq_true rfl⟩ ⟨Nat.le_of_ble_eq_true rfl, Nat.le_of_ble_eq_true rfl⟩ (fun E σ1 ⟨e1, e2, e3⟩ => ⟨e2 ▸ stb.rf _, Or.inr ⟨p1, Or.inl ⟨e1, e3⟩⟩⟩) ?_
  rintro σ9 ⟨rfl, p2⟩
  have qk := p2
  obtain ⟨i, rfl, hi⟩ := qk
  refine wm_aload_n 10 rfl dX4_fact_9 rfl rfl ?_
  refine wm_aload_n 11 rfl dX4_fact_10 rfl rfl ?_
  refine wm_iload_n 12 rfl dX4_fact_11 rfl rfl ?_
  refine wm_callVi (ty := .int) 15 rfl dX4_fact_12 (k_X4_findThing l hI (r := a) han) ca_X4_findThing cv_X4_findThing rfl aw_11_12 rfl rfl ⟨Nat.le_of_ble_eq_true rfl, Nat.le_of_ble_eq_true rfl⟩ (Nat.le_of_ble_eq_true rfl) ⟨Nat.le_of_ble_eq_true rfl, Nat.le_of_ble_eq_true rfl⟩ ?_
  rintro r9 τ ⟨hJ, rfl⟩
  have hI2 := hJ.1.cIy hI
  have hg2 : lab τ 19 n (gC σ n 2) := hJ.2.2 2 (by omega)
  have hga : gC σ n 2 a ≤ a := (hg2 a han).2
  have e := mbr_ag (n := n) (g := gC σ n 2) hJ.1
  refine wm_iload_n 16 rfl dX4_fact_15 rfl rfl ?_
  refine wm_callVi (ty := .int) 19 rfl dX4_fact_16 (k_X4_findFirstByOrder l hI2 hg2 (hJ.1.cSy hS) (h := gC σ n 2 a) (by omega) hi) ca_X4_findFirstByOrder cv_X4_findFirstByOrder rfl aw_14_10 rfl rfl ⟨Nat.le_of_ble_eq_true rfl, Nat.le_of_ble_eq_true rfl⟩ (Nat.le_of_ble_eq_true rfl) ⟨Nat.le_of_ble_eq_true rfl, Nat.le_of_ble_eq_true rfl⟩ ?_
  rintro r9 τ2 ⟨hag, hb⟩
  rw [bsI_ag hJ.1 hi] at hb
  have hst2 : stb σ τ2 := fun c hc => (hag c (by omega)).trans (hJ.1 c hc)
  refine wm_istore_n (ls' := [(3, _), (0, _), (1, _), (2, _)]) 20 rfl dX4_fact_19 rfl (by decide) rfl ?_
  refine wm_iload_n 21 rfl dX4_fact_20 rfl rfl ?_
  refine wmx_callSv 24 rfl dX4_fact_21 (k_X4_checkFactRecord l hst _) ca_X4_checkFactRecord aw_15_0 aw_14_23 ⟨Nat.le_of_ble_eq_true rfl, Nat.le_of_ble_eq_true rfl⟩ (Nat.le_of_ble_eq_true rfl) ⟨Nat.le_of_ble_eq_true rfl, Nat.le_of_ble_eq_true rfl⟩ ⟨Nat.le_of_ble_eq_true rfl, Nat.le_of_ble_eq_true rfl⟩ (fun E σ1 ⟨e1, e2, e3⟩ => ⟨e2 ▸ hst2, Or.inr ⟨p1, Or.inr ⟨p2, Or.inl ⟨e1, by
  rintro ⟨x, a2, i2, ea, ei, ha2, hi2, hx, ht⟩
  rw [← eq_of_nI ea (by omega) (by have := ha2.1; omega), ← eq_of_nI ei (by omega) (by omega)] at ht
  rcases hb with ⟨x2, hx2, -, h3⟩ | ⟨-, h3⟩
  · exact e3 ⟨x2, h3, by omega⟩
  · exact h3 x hx ht⟩⟩⟩⟩) ?_
  rintro σ9 ⟨rfl, p3⟩
  rcases hb with ⟨x, hx, hbx, rfl⟩ | ⟨rfl, -⟩
  rotate_left
  · obtain ⟨x, e9, hx⟩ := p3
    exact absurd e9.symm (nI_ne_m1 (by omega))
  have p3 : ∃ x, ftx σ n (nI a) (nI i) x := ⟨x, a, i, rfl, rfl, ha, hi, hx, hbx.1⟩
  refine wm_aload_n 25 rfl dX4_fact_24 rfl rfl ?_
  refine wm_getR 28 rfl dX4_fact_25 gf_X4_12_3 rfl rfl ?_
  refine wm_getR 31 rfl dX4_fact_28 gf_X4_88_0 rfl rfl ?_
  refine wm_iload_n 32 rfl dX4_fact_31 rfl rfl ?_
  refine wm_aaload (r := 10 + i) 33 rfl dX4_fact_32 rfl (vp_in_nI hi (by omega)) (by rw [nI_clamp (by omega)]) ?_
  refine wm_iload_n 34 rfl dX4_fact_33 rfl rfl ?_
  refine wm_iaload 35 rfl dX4_fact_34 (Lc_fact hi) (in24 hx h24) ?_
  exact wmx_iret dX4_fact_35 (by first | rfl | exact zp_nar) ⟨i, x, ⟨a, rfl, rfl, ha, hi, hx, hbx⟩, hst2, by rw [nI_clamp (by omega), hst2 (10 + i) (by omega)]⟩ (Nat.le_of_ble_eq_true rfl) (Nat.le_of_ble_eq_true rfl)
theorem k_X4_factByPairs (l : Launch) (hst : l.stackTraces = false) {σ : Sg} {n : Nat} (hI : cI σ n) (hS : cS σ n) (r f : Int32) : xMi l yX4_factByPairs cX4_factByPairs 4 .int 8 3 18 Lc [.ref 0, .int r, .int f] σ (fun v σ1 => ∃ i x, bsx σ n r f i x ∧ stb σ σ1 ∧ v = σ (10 + i) x) (pT σ [(eIO, hdR σ n r), (eIO, nR 3 f), (eNS, ∃ x, ftx σ n r f x)]) := by
  have h24 := hI.2
  refine zMetx_of (by decide +kernel) (Nat.le_of_ble_eq_true rfl) (fun D cT ad sz => ?_)
  show Wm zNoT l (rmx 8 3 18) RX4 cX4_factByPairs 4 (some .int) D cT ad Lc (zA ad Lc.length sz) (zZx (fun D cT ad L9 sz => zQi D cT ad L9 sz (fun v σ1 => ∃ i x, bsx σ n r f i x ∧ stb σ σ1 ∧ v = σ (10 + i) x)) (pT σ [(eIO, hdR σ n r), (eIO, nR 3 f), (eNS, ∃ x, ftx σ n r f x)]) 3 18 D cT ad Lc sz) [] 0 (lv_args 0 [.ref 0, .int r, .int f]) [] σ 0 0
  refine wm_aload_n 1 rfl dX4_factByPairs_0 rfl rfl ?_
  refine wm_iload_n 2 rfl dX4_factByPairs_1 rfl rfl ?_
  refine wmx_callVv 5 rfl dX4_factByPairs_2 (k_X4_checkRecord l hst hI _) ca_X4_checkRecord cv_X4_checkRecord rfl aw_10_14 rfl rfl ⟨Nat.le_of_ble_eq_true rfl, Nat.le_of_ble_eq_true rfl⟩ (Nat.le_of_ble_eq_true rfl) ⟨Nat.le_of_ble_eq_true rfl, Nat.le_of_ble_eq_true rfl⟩ ⟨Nat.le_of_ble_eq_true rfl, Nat.le_of_ble_eq_true rfl⟩ (fun E σ1 ⟨e1, e2, e3⟩ => ⟨e2 ▸ stb.rf _, Or.inl ⟨e1, e3⟩⟩) ?_
  rintro σ9 ⟨rfl, p1⟩
  have q1 := p1
  obtain ⟨a, rfl, ha⟩ := q1
  have han := ha.1
  refine wm_iload_n 6 rfl dX4_factByPairs_5 rfl rfl ?_
  refine wmx_callSv 9 rfl dX4_factByPairs_6 (k_X4_checkField l hst _) ca_X4_checkField aw_14_8 aw_14_7 ⟨Nat.le_of_ble_eq_true rfl, Nat.le_of_ble_eq_true rfl⟩ (Nat.le_of_ble_eq_true rfl) ⟨Nat.le_of_ble_eq_true rfl, Nat.le_of_ble_eq_true rfl⟩ ⟨Nat.le_of_ble_eq_true rfl, Nat.le_of_ble_eq_true rfl⟩ (fun E σ1 ⟨e1, e2, e3⟩ => ⟨e2 ▸ stb.rf _, Or.inr ⟨p1, Or.inl ⟨e1, e3⟩⟩⟩) ?_
  rintro σ9 ⟨rfl, p2⟩
  have qk := p2
  obtain ⟨i, rfl, hi⟩ := qk
  refine wm_aload_n 10 rfl dX4_factByPairs_9 rfl rfl ?_
  refine wm_aload_n 11 rfl dX4_factByPairs_10 rfl rfl ?_
  refine wm_iload_n 12 rfl dX4_factByPairs_11 rfl rfl ?_
  refine wm_callVi (ty := .int) 15 rfl dX4_factByPairs_12 (k_X4_findThing l hI (r := a) han) ca_X4_findThing cv_X4_findThing rfl aw_11_12 rfl rfl ⟨Nat.le_of_ble_eq_true rfl, Nat.le_of_ble_eq_true rfl⟩ (Nat.le_of_ble_eq_true rfl) ⟨Nat.le_of_ble_eq_true rfl, Nat.le_of_ble_eq_true rfl⟩ ?_
  rintro r9 τ ⟨hJ, rfl⟩
  have hI2 := hJ.1.cIy hI
  have hg2 : lab τ 19 n (gC σ n 2) := hJ.2.2 2 (by omega)
  have hga : gC σ n 2 a ≤ a := (hg2 a han).2
  have e := mbr_ag (n := n) (g := gC σ n 2) hJ.1
  refine wm_iload_n 16 rfl dX4_factByPairs_15 rfl rfl ?_
  refine wm_callVi (ty := .int) 19 rfl dX4_factByPairs_16 (k_X4_findFirstByPairs l hI2 hg2 (hJ.1.cSy hS) (h := gC σ n 2 a) (by omega) hi) ca_X4_findFirstByPairs cv_X4_findFirstByPairs rfl aw_15_6 rfl rfl ⟨Nat.le_of_ble_eq_true rfl, Nat.le_of_ble_eq_true rfl⟩ (Nat.le_of_ble_eq_true rfl) ⟨Nat.le_of_ble_eq_true rfl, Nat.le_of_ble_eq_true rfl⟩ ?_
  rintro r9 σ9 ⟨rfl, hb⟩
  rw [bsI_ag hJ.1 hi] at hb
  have hst2 := hJ.1
  refine wm_istore_n (ls' := [(3, _), (0, _), (1, _), (2, _)]) 20 rfl dX4_factByPairs_19 rfl (by decide) rfl ?_
  refine wm_iload_n 21 rfl dX4_factByPairs_20 rfl rfl ?_
  refine wmx_callSv 24 rfl dX4_factByPairs_21 (k_X4_checkFactRecord l hst _) ca_X4_checkFactRecord aw_15_0 aw_14_23 ⟨Nat.le_of_ble_eq_true rfl, Nat.le_of_ble_eq_true rfl⟩ (Nat.le_of_ble_eq_true rfl) ⟨Nat.le_of_ble_eq_true rfl, Nat.le_of_ble_eq_true rfl⟩ ⟨Nat.le_of_ble_eq_true rfl, Nat.le_of_ble_eq_true rfl⟩ (fun E σ1 ⟨e1, e2, e3⟩ => ⟨e2 ▸ hst2, Or.inr ⟨p1, Or.inr ⟨p2, Or.inl ⟨e1, by
  rintro ⟨x, a2, i2, ea, ei, ha2, hi2, hx, ht⟩
  rw [← eq_of_nI ea (by omega) (by have := ha2.1; omega), ← eq_of_nI ei (by omega) (by omega)] at ht
  rcases hb with ⟨x2, hx2, -, h3⟩ | ⟨-, h3⟩
  · exact e3 ⟨x2, h3, by omega⟩
  · exact h3 x hx ht⟩⟩⟩⟩) ?_
  rintro σ9 ⟨rfl, p3⟩
  rcases hb with ⟨x, hx, hbx, rfl⟩ | ⟨rfl, -⟩
  rotate_left
  · obtain ⟨x, e9, hx⟩ := p3
    exact absurd e9.symm (nI_ne_m1 (by omega))
  have p3 : ∃ x, ftx σ n (nI a) (nI i) x := ⟨x, a, i, rfl, rfl, ha, hi, hx, hbx.1⟩
  refine wm_aload_n 25 rfl dX4_factByPairs_24 rfl rfl ?_
  refine wm_getR 28 rfl dX4_factByPairs_25 gf_X4_12_3 rfl rfl ?_
  refine wm_getR 31 rfl dX4_factByPairs_28 gf_X4_88_0 rfl rfl ?_
  refine wm_iload_n 32 rfl dX4_factByPairs_31 rfl rfl ?_
  refine wm_aaload (r := 10 + i) 33 rfl dX4_factByPairs_32 rfl (vp_in_nI hi (by omega)) (by rw [nI_clamp (by omega)]) ?_
  refine wm_iload_n 34 rfl dX4_factByPairs_33 rfl rfl ?_
  refine wm_iaload 35 rfl dX4_factByPairs_34 (Lc_fact hi) (in24 hx h24) ?_
  exact wmx_iret dX4_factByPairs_35 (by first | rfl | exact zp_nar) ⟨i, x, ⟨a, rfl, rfl, ha, hi, hx, hbx⟩, hst2, by rw [nI_clamp (by omega), hst2 (10 + i) (by omega)]⟩ (Nat.le_of_ble_eq_true rfl) (Nat.le_of_ble_eq_true rfl)
theorem k_X4_factFrom (l : Launch) (hst : l.stackTraces = false) {σ : Sg} {n : Nat} (hI : cI σ n) (hS : cS σ n) (r f : Int32) : xMi l yX4_factFrom cX4_factFrom 4 .int 8 3 18 Lc [.ref 0, .int r, .int f] σ (fun v σ1 => ∃ i x, bsx σ n r f i x ∧ stb σ σ1 ∧ v = nI x) (pT σ [(eIO, hdR σ n r), (eIO, nR 3 f), (eNS, ∃ x, ftx σ n r f x)]) := by
  have h24 := hI.2
  refine zMetx_of (by decide +kernel) (Nat.le_of_ble_eq_true rfl) (fun D cT ad sz => ?_)
  show Wm zNoT l (rmx 8 3 18) RX4 cX4_factFrom 4 (some .int) D cT ad Lc (zA ad Lc.length sz) (zZx (fun D cT ad L9 sz => zQi D cT ad L9 sz (fun v σ1 => ∃ i x, bsx σ n r f i x ∧ stb σ σ1 ∧ v = nI x)) (pT σ [(eIO, hdR σ n r), (eIO, nR 3 f), (eNS, ∃ x, ftx σ n r f x)]) 3 18 D cT ad Lc sz) [] 0 (lv_args 0 [.ref 0, .int r, .int f]) [] σ 0 0
  refine wm_aload_n 1 rfl dX4_factFrom_0 rfl rfl ?_
  refine wm_iload_n 2 rfl dX4_factFrom_1 rfl rfl ?_
  refine wmx_callVv 5 rfl dX4_factFrom_2 (k_X4_checkRecord l hst hI _) ca_X4_checkRecord cv_X4_checkRecord rfl aw_10_14 rfl rfl ⟨Nat.le_of_ble_eq_true rfl, Nat.le_of_ble_eq_true rfl⟩ (Nat.le_of_ble_eq_true rfl) ⟨Nat.le_of_ble_eq_true rfl, Nat.le_of_ble_eq_true rfl⟩ ⟨Nat.le_of_ble_eq_true rfl, Nat.le_of_ble_eq_true rfl⟩ (fun E σ1 ⟨e1, e2, e3⟩ => ⟨e2 ▸ stb.rf _, Or.inl ⟨e1, e3⟩⟩) ?_
  rintro σ9 ⟨rfl, p1⟩
  have q1 := p1
  obtain ⟨a, rfl, ha⟩ := q1
  have han := ha.1
  refine wm_iload_n 6 rfl dX4_factFrom_5 rfl rfl ?_
  refine wmx_callSv 9 rfl dX4_factFrom_6 (k_X4_checkField l hst _) ca_X4_checkField aw_14_8 aw_14_7 ⟨Nat.le_of_ble_eq_true rfl, Nat.le_of_ble_eq_true rfl⟩ (Nat.le_of_ble_eq_true rfl) ⟨Nat.le_of_ble_eq_true rfl, Nat.le_of_ble_eq_true rfl⟩ ⟨Nat.le_of_ble_eq_true rfl, Nat.le_of_ble_eq_true rfl⟩ (fun E σ1 ⟨e1, e2, e3⟩ => ⟨e2 ▸ stb.rf _, Or.inr ⟨p1, Or.inl ⟨e1, e3⟩⟩⟩) ?_
  rintro σ9 ⟨rfl, p2⟩
  have qk := p2
  obtain ⟨i, rfl, hi⟩ := qk
  refine wm_aload_n 10 rfl dX4_factFrom_9 rfl rfl ?_
  refine wm_aload_n 11 rfl dX4_factFrom_10 rfl rfl ?_
  refine wm_iload_n 12 rfl dX4_factFrom_11 rfl rfl ?_
  refine wm_callVi (ty := .int) 15 rfl dX4_factFrom_12 (k_X4_findThing l hI (r := a) han) ca_X4_findThing cv_X4_findThing rfl aw_11_12 rfl rfl ⟨Nat.le_of_ble_eq_true rfl, Nat.le_of_ble_eq_true rfl⟩ (Nat.le_of_ble_eq_true rfl) ⟨Nat.le_of_ble_eq_true rfl, Nat.le_of_ble_eq_true rfl⟩ ?_
  rintro r9 τ ⟨hJ, rfl⟩
  have hI2 := hJ.1.cIy hI
  have hg2 : lab τ 19 n (gC σ n 2) := hJ.2.2 2 (by omega)
  have hga : gC σ n 2 a ≤ a := (hg2 a han).2
  have e := mbr_ag (n := n) (g := gC σ n 2) hJ.1
  refine wm_iload_n 16 rfl dX4_factFrom_15 rfl rfl ?_
  refine wm_callVi (ty := .int) 19 rfl dX4_factFrom_16 (k_X4_findFirstByOrder l hI2 hg2 (hJ.1.cSy hS) (h := gC σ n 2 a) (by omega) hi) ca_X4_findFirstByOrder cv_X4_findFirstByOrder rfl aw_14_10 rfl rfl ⟨Nat.le_of_ble_eq_true rfl, Nat.le_of_ble_eq_true rfl⟩ (Nat.le_of_ble_eq_true rfl) ⟨Nat.le_of_ble_eq_true rfl, Nat.le_of_ble_eq_true rfl⟩ ?_
  rintro r9 τ2 ⟨hag, hb⟩
  rw [bsI_ag hJ.1 hi] at hb
  have hst2 : stb σ τ2 := fun c hc => (hag c (by omega)).trans (hJ.1 c hc)
  refine wm_istore_n (ls' := [(3, _), (0, _), (1, _), (2, _)]) 20 rfl dX4_factFrom_19 rfl (by decide) rfl ?_
  refine wm_iload_n 21 rfl dX4_factFrom_20 rfl rfl ?_
  refine wmx_callSv 24 rfl dX4_factFrom_21 (k_X4_checkFactRecord l hst _) ca_X4_checkFactRecord aw_15_0 aw_14_23 ⟨Nat.le_of_ble_eq_true rfl, Nat.le_of_ble_eq_true rfl⟩ (Nat.le_of_ble_eq_true rfl) ⟨Nat.le_of_ble_eq_true rfl, Nat.le_of_ble_eq_true rfl⟩ ⟨Nat.le_of_ble_eq_true rfl, Nat.le_of_ble_eq_true rfl⟩ (fun E σ1 ⟨e1, e2, e3⟩ => ⟨e2 ▸ hst2, Or.inr ⟨p1, Or.inr ⟨p2, Or.inl ⟨e1, by
  rintro ⟨x, a2, i2, ea, ei, ha2, hi2, hx, ht⟩
  rw [← eq_of_nI ea (by omega) (by have := ha2.1; omega), ← eq_of_nI ei (by omega) (by omega)] at ht
  rcases hb with ⟨x2, hx2, -, h3⟩ | ⟨-, h3⟩
  · exact e3 ⟨x2, h3, by omega⟩
  · exact h3 x hx ht⟩⟩⟩⟩) ?_
  rintro σ9 ⟨rfl, p3⟩
  rcases hb with ⟨x, hx, hbx, rfl⟩ | ⟨rfl, -⟩
  rotate_left
  · obtain ⟨x, e9, hx⟩ := p3
    exact absurd e9.symm (nI_ne_m1 (by omega))
  have p3 : ∃ x, ftx σ n (nI a) (nI i) x := ⟨x, a, i, rfl, rfl, ha, hi, hx, hbx.1⟩
  refine wm_iload_n 25 rfl dX4_factFrom_24 rfl rfl ?_
  exact wmx_iret dX4_factFrom_25 (by first | rfl | exact zp_nar) ⟨i, x, ⟨a, rfl, rfl, ha, hi, hx, hbx⟩, hst2, rfl⟩ (Nat.le_of_ble_eq_true rfl) (Nat.le_of_ble_eq_true rfl)
theorem k_X4_agreement (l : Launch) (hst : l.stackTraces = false) {σ : Sg} {n : Nat} (hI : cI σ n) (hS : cS σ n) (r f : Int32) : xMf l yX4_agreement cX4_agreement 8 8 3 18 Lc [.ref 0, .int r, .int f] σ (agP σ n r f) (pT σ [(eIO, hdR σ n r), (eIO, nR 3 f), (eNS, ∃ x, ftx σ n r f x)]) := by
  have h24 := hI.2
  refine zMetx_of (by decide +kernel) (Nat.le_of_ble_eq_true rfl) (fun D cT ad sz => ?_)
  show Wm zNoT l (rmx 8 3 18) RX4 cX4_agreement 8 (some .float) D cT ad Lc (zA ad Lc.length sz) (zZx (fun D cT ad L9 sz => zQf D cT ad L9 sz (agP σ n r f)) (pT σ [(eIO, hdR σ n r), (eIO, nR 3 f), (eNS, ∃ x, ftx σ n r f x)]) 3 18 D cT ad Lc sz) [] 0 (lv_args 0 [.ref 0, .int r, .int f]) [] σ 0 0
  refine wm_aload_n 1 rfl dX4_agreement_0 rfl rfl ?_
  refine wm_iload_n 2 rfl dX4_agreement_1 rfl rfl ?_
  refine wmx_callVv 5 rfl dX4_agreement_2 (k_X4_checkRecord l hst hI _) ca_X4_checkRecord cv_X4_checkRecord rfl aw_10_14 rfl rfl ⟨Nat.le_of_ble_eq_true rfl, Nat.le_of_ble_eq_true rfl⟩ (Nat.le_of_ble_eq_true rfl) ⟨Nat.le_of_ble_eq_true rfl, Nat.le_of_ble_eq_true rfl⟩ ⟨Nat.le_of_ble_eq_true rfl, Nat.le_of_ble_eq_true rfl⟩ (fun E σ1 ⟨e1, e2, e3⟩ => ⟨e2 ▸ stb.rf _, Or.inl ⟨e1, e3⟩⟩) ?_
  rintro σ9 ⟨rfl, p1⟩
  have q1 := p1
  obtain ⟨a, rfl, ha⟩ := q1
  have han := ha.1
  refine wm_iload_n 6 rfl dX4_agreement_5 rfl rfl ?_
  refine wmx_callSv 9 rfl dX4_agreement_6 (k_X4_checkField l hst _) ca_X4_checkField aw_14_8 aw_14_7 ⟨Nat.le_of_ble_eq_true rfl, Nat.le_of_ble_eq_true rfl⟩ (Nat.le_of_ble_eq_true rfl) ⟨Nat.le_of_ble_eq_true rfl, Nat.le_of_ble_eq_true rfl⟩ ⟨Nat.le_of_ble_eq_true rfl, Nat.le_of_ble_eq_true rfl⟩ (fun E σ1 ⟨e1, e2, e3⟩ => ⟨e2 ▸ stb.rf _, Or.inr ⟨p1, Or.inl ⟨e1, e3⟩⟩⟩) ?_
  rintro σ9 ⟨rfl, p2⟩
  have qk := p2
  obtain ⟨i, rfl, hi⟩ := qk
  refine wm_aload_n 10 rfl dX4_agreement_9 rfl rfl ?_
  refine wm_iload_n 11 rfl dX4_agreement_10 rfl rfl ?_
  refine wm_callVi (ty := .int) 14 rfl dX4_agreement_11 (k_X4_findThing l hI (r := a) han) ca_X4_findThing cv_X4_findThing rfl aw_11_12 rfl rfl ⟨Nat.le_of_ble_eq_true rfl, Nat.le_of_ble_eq_true rfl⟩ (Nat.le_of_ble_eq_true rfl) ⟨Nat.le_of_ble_eq_true rfl, Nat.le_of_ble_eq_true rfl⟩ ?_
  rintro r9 τ ⟨hJ, rfl⟩
  have hI2 := hJ.1.cIy hI
  have hg2 : lab τ 19 n (gC σ n 2) := hJ.2.2 2 (by omega)
  have hga : gC σ n 2 a ≤ a := (hg2 a han).2
  have e := mbr_ag (n := n) (g := gC σ n 2) hJ.1
  refine wm_istore_n (ls' := [(3, _), (0, _), (1, _), (2, _)]) 15 rfl dX4_agreement_14 rfl (by decide) rfl ?_
  refine wm_aload_n 16 rfl dX4_agreement_15 rfl rfl ?_
  refine wm_iload_n 17 rfl dX4_agreement_16 rfl rfl ?_
  refine wm_iload_n 18 rfl dX4_agreement_17 rfl rfl ?_
  refine wm_callVi (ty := .int) 21 rfl dX4_agreement_18 (k_X4_findFirstByOrder l hI2 hg2 (hJ.1.cSy hS) (h := gC σ n 2 a) (by omega) hi) ca_X4_findFirstByOrder cv_X4_findFirstByOrder rfl aw_14_10 rfl rfl ⟨Nat.le_of_ble_eq_true rfl, Nat.le_of_ble_eq_true rfl⟩ (Nat.le_of_ble_eq_true rfl) ⟨Nat.le_of_ble_eq_true rfl, Nat.le_of_ble_eq_true rfl⟩ ?_
  rintro r9 τ2 ⟨hag, hb⟩
  rw [bsI_ag hJ.1 hi] at hb
  have hst2 : stb σ τ2 := fun c hc => (hag c (by omega)).trans (hJ.1 c hc)
  refine wm_istore (ls' := [(4, _), (3, _), (0, _), (1, _), (2, _)]) 23 rfl dX4_agreement_21 (by decide) rfl ?_
  refine wm_iload 25 rfl dX4_agreement_23 rfl ?_
  refine wmx_callSv 28 rfl dX4_agreement_25 (k_X4_checkFactRecord l hst _) ca_X4_checkFactRecord aw_15_0 aw_14_23 ⟨Nat.le_of_ble_eq_true rfl, Nat.le_of_ble_eq_true rfl⟩ (Nat.le_of_ble_eq_true rfl) ⟨Nat.le_of_ble_eq_true rfl, Nat.le_of_ble_eq_true rfl⟩ ⟨Nat.le_of_ble_eq_true rfl, Nat.le_of_ble_eq_true rfl⟩ (fun E σ1 ⟨e1, e2, e3⟩ => ⟨e2 ▸ hst2, Or.inr ⟨p1, Or.inr ⟨p2, Or.inl ⟨e1, by
  rintro ⟨x, a2, i2, ea, ei, ha2, hi2, hx, ht⟩
  rw [← eq_of_nI ea (by omega) (by have := ha2.1; omega), ← eq_of_nI ei (by omega) (by omega)] at ht
  rcases hb with ⟨x2, hx2, -, h3⟩ | ⟨-, h3⟩
  · exact e3 ⟨x2, h3, by omega⟩
  · exact h3 x hx ht⟩⟩⟩⟩) ?_
  rintro σ9 ⟨rfl, p3⟩
  rcases hb with ⟨x, hx, hbx, rfl⟩ | ⟨rfl, -⟩
  rotate_left
  · obtain ⟨x, e9, hx⟩ := p3
    exact absurd e9.symm (nI_ne_m1 (by omega))
  have p3 : ∃ x, ftx σ n (nI a) (nI i) x := ⟨x, a, i, rfl, rfl, ha, hi, hx, hbx.1⟩
  have hg3 : lab τ2 19 n (gC σ n 2) := fun c hc => by rw [hag 19 (by omega)]; exact hg2 c hc
  have hI3 := hst2.cIy hI
  have etf : ∀ y, tf τ2 n (gC σ n 2) (gC σ n 2 a) i y ↔ tf σ n (gC σ n 2) (gC σ n 2 a) i y := fun y => tf_ag hst2 hi
  have lp : ∀ (q9 j : Nat), n - j = q9 → j ≤ n → True → Wm zNoT l (rmx 8 3 18) RX4 cX4_agreement 8 (some .float) D cT ad Lc (zA ad Lc.length sz) (zZx (fun D cT ad L9 sz => zQf D cT ad L9 sz (agP σ n (nI a) (nI i))) (pT σ [(eIO, hdR σ n (nI a)), (eIO, nR 3 (nI i)), (eNS, ∃ x, ftx σ n (nI a) (nI i) x)]) 3 18 D cT ad Lc sz) [] 37 [(0, .ref 0), (1, .int (nI a)), (2, .int (nI i)), (3, .int (nI (gC σ n 2 a))), (4, .int (nI x)), (5, .int (nI (cq (tf σ n (gC σ n 2) (gC σ n 2 a) i) j))), (6, .int (nI (cq (fun y => tf σ n (gC σ n 2) (gC σ n 2 a) i y ∧ σ (10 + i) y = σ (10 + i) x) j))), (7, .int (nI j))] [] τ2 (0 + 1 + 1 + 1) (0 + 6 + 6 + 6) := by
    intro q9
    induction q9 using Nat.strongRecOn with
    | ind q9 ih =>
      intro j  hmj hjj hinv
      refine wm_iload 39 rfl dX4_agreement_37 rfl ?_
      refine wm_aload_n 40 rfl dX4_agreement_39 rfl rfl ?_
      refine wm_getR 43 rfl dX4_agreement_40 gf_X4_12_3 rfl rfl ?_
      refine wm_getI 46 rfl dX4_agreement_43 gf_X4_63_0 rfl rfl ?_
      refine wm_icmp_ge 106 49 rfl (by decide) dX4_agreement_46 (fun c46 => ?_) (fun c46 => ?_)
      · rw [hI3.1] at c46
        have gj : j = n := by have := le_of_nI c46 (by omega) (by omega); omega
        refine wm_iload 108 rfl dX4_agreement_106 rfl ?_
        refine wm_if_ne 115 111 rfl (by decide) dX4_agreement_108 (fun c108 => ?_) (fun c108 => ?_)
        · have hne : cq (tf σ n (gC σ n 2) (gC σ n 2 a) i) n ≠ 0 := fun q => c108 (by rw [gj, q]; rfl)
          have hl1 := cq_le (tf σ n (gC σ n 2) (gC σ n 2 a) i) n
          have hl2 := cq_le (fun y => tf σ n (gC σ n 2) (gC σ n 2 a) i y ∧ σ (10 + i) y = σ (10 + i) x) n
          rw [gj]
          refine wm_iload 117 rfl dX4_agreement_115 rfl ?_
          refine wm_i2f 118 rfl dX4_agreement_117 ?_
          refine wm_iload 120 rfl dX4_agreement_118 rfl ?_
          refine wm_i2f 121 rfl dX4_agreement_120 ?_
          refine wm_fdiv 122 rfl dX4_agreement_121 (ff_ok _ (by omega) _ (by omega) hne) ?_
          exact wmx_fret dX4_agreement_122 ⟨a, i, x, ⟨a, rfl, rfl, ha, hi, hx, hbx⟩, ⟨rfl, han⟩, hst2, rfl⟩ (Nat.le_of_ble_eq_true rfl) (Nat.le_of_ble_eq_true rfl)
        · exfalso
          have hlt := cq_lt (P := fun _ => False) (Q := (tf σ n (gC σ n 2) (gC σ n 2 a) i)) (n := n) (fun _ _ q => q.elim) ⟨x, hx, id, hbx.1⟩
          rw [gj] at c108
          have := eq_of_nI (b := 0) c108 (by have := cq_le (tf σ n (gC σ n 2) (gC σ n 2 a) i) n; omega) (by omega)
          omega
      · rw [hI3.1] at c46
        have gj : j < n := lt_of_nnI c46 (by omega) (by omega)
        refine wm_aload_n 50 rfl dX4_agreement_49 rfl rfl ?_
        refine wm_iload 52 rfl dX4_agreement_50 rfl ?_
        refine wm_iload_n 53 rfl dX4_agreement_52 rfl rfl ?_
        refine wm_iload_n 54 rfl dX4_agreement_53 rfl rfl ?_
        refine wm_callVi (ty := .boolean) 57 rfl dX4_agreement_54 (k_X4_tellsFact l hI3 hg3 gj (h := gC σ n 2 a) (by omega) hi) ca_X4_tellsFact cv_X4_tellsFact rfl aw_15_10 rfl rfl ⟨Nat.le_of_ble_eq_true rfl, Nat.le_of_ble_eq_true rfl⟩ (Nat.le_of_ble_eq_true rfl) ⟨Nat.le_of_ble_eq_true rfl, Nat.le_of_ble_eq_true rfl⟩ ?_
        rintro r9 σ9 ⟨rfl, rfl⟩
        refine wm_if_eq 100 60 rfl (by decide) dX4_agreement_57 (fun c57 => ?_) (fun c57 => ?_)
        · have q57 := fun q => zp_0.mp c57 ((etf j).mpr q)
          rw [← cq_f (P := (tf σ n (gC σ n 2) (gC σ n 2 a) i)) q57, ← cq_f (P := (fun y => tf σ n (gC σ n 2) (gC σ n 2 a) i y ∧ σ (10 + i) y = σ (10 + i) x)) (fun q => q57 q.1)]
          refine wm_iinc (ls' := [(7, _), (0, _), (1, _), (2, _), (3, _), (4, _), (5, _), (6, _)]) 103 rfl dX4_agreement_100 rfl (nI_inc _) (by decide) rfl ?_
          refine wm_goto 37 (by decide) dX4_agreement_103 ?_
          refine wm_loc (ls2 := [(0, _), (1, _), (2, _), (3, _), (4, _), (5, _), (6, _), (7, _)]) [1, 2, 3, 4, 5, 6, 7, 0] rfl ?_
          exact ih (n - (j + 1)) (by omega) (j + 1) rfl (by omega) trivial
        · have q57 := (etf j).mp (zp_n.mp c57)
          refine wm_iinc (ls' := [(5, _), (0, _), (1, _), (2, _), (3, _), (4, _), (6, _), (7, _)]) 63 rfl dX4_agreement_60 rfl (by rw [nI_inc, ← cq_t (P := (tf σ n (gC σ n 2) (gC σ n 2 a) i)) q57]) (by decide) rfl ?_
          refine wm_iload 65 rfl dX4_agreement_63 rfl ?_
          refine wm_aload_n 66 rfl dX4_agreement_65 rfl rfl ?_
          refine wm_getR 69 rfl dX4_agreement_66 gf_X4_12_3 rfl rfl ?_
          refine wm_getR 72 rfl dX4_agreement_69 gf_X4_88_0 rfl rfl ?_
          refine wm_iload_n 73 rfl dX4_agreement_72 rfl rfl ?_
          refine wm_aaload (r := 10 + i) 74 rfl dX4_agreement_73 rfl (vp_in_nI hi (by omega)) (by rw [nI_clamp (by omega)]) ?_
          refine wm_iload 76 rfl dX4_agreement_74 rfl ?_
          refine wm_iaload 77 rfl dX4_agreement_76 (Lc_fact hi) (in24 gj h24) ?_
          refine wm_aload_n 78 rfl dX4_agreement_77 rfl rfl ?_
          refine wm_getR 81 rfl dX4_agreement_78 gf_X4_12_3 rfl rfl ?_
          refine wm_getR 84 rfl dX4_agreement_81 gf_X4_88_0 rfl rfl ?_
          refine wm_iload_n 85 rfl dX4_agreement_84 rfl rfl ?_
          refine wm_aaload (r := 10 + i) 86 rfl dX4_agreement_85 rfl (vp_in_nI hi (by omega)) (by rw [nI_clamp (by omega)]) ?_
          refine wm_iload 88 rfl dX4_agreement_86 rfl ?_
          refine wm_iaload 89 rfl dX4_agreement_88 (Lc_fact hi) (in24 hx h24) ?_
          refine wm_icmp_ne 96 92 rfl (by decide) dX4_agreement_89 (fun c89 => ?_) (fun c89 => ?_)
          · rw [nI_clamp (by omega), nI_clamp (by omega), hst2 (10 + i) (by omega)] at c89
            refine wm_iconst (v := 0) 97 rfl dX4_agreement_96 (by decide) ?_
            refine wm_iadd 98 rfl dX4_agreement_97 ?_
            first
              | rw [show nI (cq (fun y => tf σ n (gC σ n 2) (gC σ n 2 a) i y ∧ σ (10 + i) y = σ (10 + i) x) j) + 0 = nI (cq (fun y => tf σ n (gC σ n 2) (gC σ n 2 a) i y ∧ σ (10 + i) y = σ (10 + i) x) (j + 1)) by rw [cq_f (P := (fun y => tf σ n (gC σ n 2) (gC σ n 2 a) i y ∧ σ (10 + i) y = σ (10 + i) x)) (fun q => c89 q.2)]; exact Int32.add_zero _]
              | rw [show nI (cq (fun y => tf σ n (gC σ n 2) (gC σ n 2 a) i y ∧ σ (10 + i) y = σ (10 + i) x) j) + 1 = nI (cq (fun y => tf σ n (gC σ n 2) (gC σ n 2 a) i y ∧ σ (10 + i) y = σ (10 + i) x) (j + 1)) by rw [cq_t (P := (fun y => tf σ n (gC σ n 2) (gC σ n 2 a) i y ∧ σ (10 + i) y = σ (10 + i) x)) ⟨q57, c89⟩]; exact nI_1 _]
            refine wm_istore (ls' := [(6, _), (5, _), (0, _), (1, _), (2, _), (3, _), (4, _), (7, _)]) 100 rfl dX4_agreement_98 (by decide) rfl ?_
            refine wm_iinc (ls' := [(7, _), (6, _), (5, _), (0, _), (1, _), (2, _), (3, _), (4, _)]) 103 rfl dX4_agreement_100 rfl (nI_inc _) (by decide) rfl ?_
            refine wm_goto 37 (by decide) dX4_agreement_103 ?_
            refine wm_loc (ls2 := [(0, _), (1, _), (2, _), (3, _), (4, _), (5, _), (6, _), (7, _)]) [3, 4, 5, 6, 7, 2, 1, 0] rfl ?_
            exact ih (n - (j + 1)) (by omega) (j + 1) rfl (by omega) trivial
          · rw [nI_clamp (by omega), nI_clamp (by omega), hst2 (10 + i) (by omega)] at c89
            refine wm_iconst (v := 1) 93 rfl dX4_agreement_92 (by decide) ?_
            refine wm_goto 97 (by decide) dX4_agreement_93 ?_
            refine wm_iadd 98 rfl dX4_agreement_97 ?_
            first
              | rw [show nI (cq (fun y => tf σ n (gC σ n 2) (gC σ n 2 a) i y ∧ σ (10 + i) y = σ (10 + i) x) j) + 0 = nI (cq (fun y => tf σ n (gC σ n 2) (gC σ n 2 a) i y ∧ σ (10 + i) y = σ (10 + i) x) (j + 1)) by rw [cq_f (P := (fun y => tf σ n (gC σ n 2) (gC σ n 2 a) i y ∧ σ (10 + i) y = σ (10 + i) x)) (fun q => c89 q.2)]; exact Int32.add_zero _]
              | rw [show nI (cq (fun y => tf σ n (gC σ n 2) (gC σ n 2 a) i y ∧ σ (10 + i) y = σ (10 + i) x) j) + 1 = nI (cq (fun y => tf σ n (gC σ n 2) (gC σ n 2 a) i y ∧ σ (10 + i) y = σ (10 + i) x) (j + 1)) by rw [cq_t (P := (fun y => tf σ n (gC σ n 2) (gC σ n 2 a) i y ∧ σ (10 + i) y = σ (10 + i) x)) ⟨q57, c89⟩]; exact nI_1 _]
            refine wm_istore (ls' := [(6, _), (5, _), (0, _), (1, _), (2, _), (3, _), (4, _), (7, _)]) 100 rfl dX4_agreement_98 (by decide) rfl ?_
            refine wm_iinc (ls' := [(7, _), (6, _), (5, _), (0, _), (1, _), (2, _), (3, _), (4, _)]) 103 rfl dX4_agreement_100 rfl (nI_inc _) (by decide) rfl ?_
            refine wm_goto 37 (by decide) dX4_agreement_103 ?_
            refine wm_loc (ls2 := [(0, _), (1, _), (2, _), (3, _), (4, _), (5, _), (6, _), (7, _)]) [3, 4, 5, 6, 7, 2, 1, 0] rfl ?_
            exact ih (n - (j + 1)) (by omega) (j + 1) rfl (by omega) trivial
  refine wm_iconst (v := 0) 29 rfl dX4_agreement_28 (by decide) ?_
  refine wm_istore (ls' := [(5, _), (4, _), (3, _), (0, _), (1, _), (2, _)]) 31 rfl dX4_agreement_29 (by decide) rfl ?_
  refine wm_iconst (v := 0) 32 rfl dX4_agreement_31 (by decide) ?_
  refine wm_istore (ls' := [(6, _), (5, _), (4, _), (3, _), (0, _), (1, _), (2, _)]) 34 rfl dX4_agreement_32 (by decide) rfl ?_
  refine wm_iconst (v := 0) 35 rfl dX4_agreement_34 (by decide) ?_
  refine wm_istore (ls' := [(7, _), (6, _), (5, _), (4, _), (3, _), (0, _), (1, _), (2, _)]) 37 rfl dX4_agreement_35 (by decide) rfl ?_
  refine wm_loc (ls2 := [(0, _), (1, _), (2, _), (3, _), (4, _), (5, _), (6, _), (7, _)]) [5, 6, 7, 4, 3, 2, 1, 0] rfl ?_
  exact lp n 0 rfl (Nat.zero_le _) trivial
theorem k_X4_setLimit (l : Launch) (hst : l.stackTraces = false) {σ : Sg} (x : Int32) : xMi l yX4_setLimit cX4_setLimit 3 .int 7 1 6 Lc [.ref 0, .int x] σ (fun v σ1 => rg x 1 99 ∧ zu σ 0 5 x = σ1 ∧ v = σ 0 5) (pT σ [(eIA, rg x 1 99)]) := by
  refine zMetx_of (by decide +kernel) (Nat.le_of_ble_eq_true rfl) (fun D cT ad sz => ?_)
  show Wm zNoT l (rmx 7 1 6) RX4 cX4_setLimit 3 (some .int) D cT ad Lc (zA ad Lc.length sz) (zZx (fun D cT ad L9 sz => zQi D cT ad L9 sz (fun v σ1 => rg x 1 99 ∧ zu σ 0 5 x = σ1 ∧ v = σ 0 5)) (pT σ [(eIA, rg x 1 99)]) 1 6 D cT ad Lc sz) [] 0 (lv_args 0 [.ref 0, .int x]) [] σ 0 0
  refine wm_iload_n 1 rfl dX4_setLimit_0 rfl rfl ?_
  refine wm_iconst (v := 1) 2 rfl dX4_setLimit_1 (by decide) ?_
  refine wm_bipush (v := 99) 4 rfl dX4_setLimit_2 (by decide) ?_
  refine wmx_callSv 7 rfl dX4_setLimit_4 (k_X4_checkRange l hst _ 1 99) ca_X4_checkRange aw_16_11 aw_16_10 ⟨Nat.le_of_ble_eq_true rfl, Nat.le_of_ble_eq_true rfl⟩ (Nat.le_of_ble_eq_true rfl) ⟨Nat.le_of_ble_eq_true rfl, Nat.le_of_ble_eq_true rfl⟩ ⟨Nat.le_of_ble_eq_true rfl, Nat.le_of_ble_eq_true rfl⟩ (fun E σ1 ⟨e1, e2, e3⟩ => ⟨e2 ▸ stb.rf _, Or.inl ⟨e1, e3⟩⟩) ?_
  rintro σ9 ⟨rfl, p1⟩
  refine wm_aload_n 8 rfl dX4_setLimit_7 rfl rfl ?_
  refine wm_getI 11 rfl dX4_setLimit_8 gf_X4_34_3 rfl rfl ?_
  refine wm_istore_n (ls' := [(2, _), (0, _), (1, _)]) 12 rfl dX4_setLimit_11 rfl (by decide) rfl ?_
  refine wm_aload_n 13 rfl dX4_setLimit_12 rfl rfl ?_
  refine wm_iload_n 14 rfl dX4_setLimit_13 rfl rfl ?_
  refine wm_putI 17 rfl dX4_setLimit_14 pf_X4_34_3 rfl rfl ?_
  refine wm_iload_n 18 rfl dX4_setLimit_17 rfl rfl ?_
  exact wmx_iret dX4_setLimit_18 (by first | rfl | exact zp_nar) ⟨p1, rfl, rfl⟩ (Nat.le_of_ble_eq_true rfl) (Nat.le_of_ble_eq_true rfl)
theorem k_X4_isGhost (l : Launch) (hst : l.stackTraces = false) {σ : Sg} {n : Nat} (hI : cI σ n) {sn : Nat → Nat} {d L : Nat} (hD : cD σ n sn d L) (r : Int32) : xMi l yX4_isGhost cX4_isGhost 2 .boolean 8 1 6 Lc [.ref 0, .int r] σ (fun v σ1 => ∃ a, r = nI a ∧ hd σ n a ∧ JD σ n σ1 ∧ v = zp (gho σ n (gC σ n 2) sn L d (gC σ n 2 a))) (pT σ [(eIO, hdR σ n r)]) := by
  have h24 := hI.2
  refine zMetx_of (by decide +kernel) (Nat.le_of_ble_eq_true rfl) (fun D cT ad sz => ?_)
  show Wm zNoT l (rmx 8 1 6) RX4 cX4_isGhost 2 (some .boolean) D cT ad Lc (zA ad Lc.length sz) (zZx (fun D cT ad L9 sz => zQi D cT ad L9 sz (fun v σ1 => ∃ a, r = nI a ∧ hd σ n a ∧ JD σ n σ1 ∧ v = zp (gho σ n (gC σ n 2) sn L d (gC σ n 2 a)))) (pT σ [(eIO, hdR σ n r)]) 1 6 D cT ad Lc sz) [] 0 (lv_args 0 [.ref 0, .int r]) [] σ 0 0
  refine wm_aload_n 1 rfl dX4_isGhost_0 rfl rfl ?_
  refine wm_iload_n 2 rfl dX4_isGhost_1 rfl rfl ?_
  refine wmx_callVv 5 rfl dX4_isGhost_2 (k_X4_checkRecord l hst hI _) ca_X4_checkRecord cv_X4_checkRecord rfl aw_10_14 rfl rfl ⟨Nat.le_of_ble_eq_true rfl, Nat.le_of_ble_eq_true rfl⟩ (Nat.le_of_ble_eq_true rfl) ⟨Nat.le_of_ble_eq_true rfl, Nat.le_of_ble_eq_true rfl⟩ ⟨Nat.le_of_ble_eq_true rfl, Nat.le_of_ble_eq_true rfl⟩ (fun E σ1 ⟨e1, e2, e3⟩ => ⟨e2 ▸ stb.rf _, Or.inl ⟨e1, e3⟩⟩) ?_
  rintro σ9 ⟨rfl, p1⟩
  have q1 := p1
  obtain ⟨a, rfl, ha⟩ := q1
  have han := ha.1
  refine wm_aload_n 6 rfl dX4_isGhost_5 rfl rfl ?_
  refine wm_aload_n 7 rfl dX4_isGhost_6 rfl rfl ?_
  refine wm_iload_n 8 rfl dX4_isGhost_7 rfl rfl ?_
  refine wm_callVi (ty := .int) 11 rfl dX4_isGhost_8 (k_X4_findThing l hI (r := a) han) ca_X4_findThing cv_X4_findThing rfl aw_11_12 rfl rfl ⟨Nat.le_of_ble_eq_true rfl, Nat.le_of_ble_eq_true rfl⟩ (Nat.le_of_ble_eq_true rfl) ⟨Nat.le_of_ble_eq_true rfl, Nat.le_of_ble_eq_true rfl⟩ ?_
  rintro r9 τ ⟨hJ, rfl⟩
  have hI2 := hJ.1.cIy hI
  have hg2 : lab τ 19 n (gC σ n 2) := hJ.2.2 2 (by omega)
  have hga : gC σ n 2 a ≤ a := (hg2 a han).2
  have e := mbr_ag (n := n) (g := gC σ n 2) hJ.1
  have hD2 := hJ.1.cDy hD
  have eg := gho_ag (n := n) (g := gC σ n 2) (sn := sn) hJ.1
  refine wm_aload_n 12 rfl dX4_isGhost_11 rfl rfl ?_
  refine wm_getI 15 rfl dX4_isGhost_12 gf_X4_68_3 rfl rfl ?_
  rw [hD2.2.1]
  refine wm_callVi (ty := .boolean) 18 rfl dX4_isGhost_15 (k_X4_isGhostOn l hI2 hg2 hD2 (h := gC σ n 2 a) (t := d) (by omega) (Nat.le_refl _) (by have := hD.2.2.1; omega)) ca_X4_isGhostOn cv_X4_isGhostOn rfl aw_9_16 rfl rfl ⟨Nat.le_of_ble_eq_true rfl, Nat.le_of_ble_eq_true rfl⟩ (Nat.le_of_ble_eq_true rfl) ⟨Nat.le_of_ble_eq_true rfl, Nat.le_of_ble_eq_true rfl⟩ ?_
  rintro r9 σ9 ⟨rfl, rfl⟩
  rw [eg]
  exact wmx_iret dX4_isGhost_18 (by first | rfl | exact zp_nar) ⟨a, rfl, ha, hJ, rfl⟩ (Nat.le_of_ble_eq_true rfl) (Nat.le_of_ble_eq_true rfl)
theorem k_X4_pass (l : Launch) (hst : l.stackTraces = false) {σ : Sg} (x : Int32) : xMi l yX4_pass cX4_pass 2 .int 7 2 12 Lc [.ref 0, .int x] σ (fun v σ1 => rg x 1 99 ∧ rg (σ 0 4 + x) 0 999 ∧ zu σ 0 4 (σ 0 4 + x) = σ1 ∧ v = σ 0 4 + x) (pT σ [(eIA, rg x 1 99), (eIA, rg (σ 0 4 + x) 0 999)]) := by
  refine zMetx_of (by decide +kernel) (Nat.le_of_ble_eq_true rfl) (fun D cT ad sz => ?_)
  show Wm zNoT l (rmx 7 2 12) RX4 cX4_pass 2 (some .int) D cT ad Lc (zA ad Lc.length sz) (zZx (fun D cT ad L9 sz => zQi D cT ad L9 sz (fun v σ1 => rg x 1 99 ∧ rg (σ 0 4 + x) 0 999 ∧ zu σ 0 4 (σ 0 4 + x) = σ1 ∧ v = σ 0 4 + x)) (pT σ [(eIA, rg x 1 99), (eIA, rg (σ 0 4 + x) 0 999)]) 2 12 D cT ad Lc sz) [] 0 (lv_args 0 [.ref 0, .int x]) [] σ 0 0
  refine wm_iload_n 1 rfl dX4_pass_0 rfl rfl ?_
  refine wm_iconst (v := 1) 2 rfl dX4_pass_1 (by decide) ?_
  refine wm_bipush (v := 99) 4 rfl dX4_pass_2 (by decide) ?_
  refine wmx_callSv 7 rfl dX4_pass_4 (k_X4_checkRange l hst _ 1 99) ca_X4_checkRange aw_16_11 aw_16_10 ⟨Nat.le_of_ble_eq_true rfl, Nat.le_of_ble_eq_true rfl⟩ (Nat.le_of_ble_eq_true rfl) ⟨Nat.le_of_ble_eq_true rfl, Nat.le_of_ble_eq_true rfl⟩ ⟨Nat.le_of_ble_eq_true rfl, Nat.le_of_ble_eq_true rfl⟩ (fun E σ1 ⟨e1, e2, e3⟩ => ⟨e2 ▸ stb.rf _, Or.inl ⟨e1, e3⟩⟩) ?_
  rintro σ9 ⟨rfl, p1⟩
  refine wm_aload_n 8 rfl dX4_pass_7 rfl rfl ?_
  refine wm_getI 11 rfl dX4_pass_8 gf_X4_68_3 rfl rfl ?_
  refine wm_iload_n 12 rfl dX4_pass_11 rfl rfl ?_
  refine wm_iadd 13 rfl dX4_pass_12 ?_
  refine wm_iconst (v := 0) 14 rfl dX4_pass_13 (by decide) ?_
  refine wm_sipush (v := 999) 17 rfl dX4_pass_14 (by decide) ?_
  refine wmx_callSv 20 rfl dX4_pass_17 (k_X4_checkRange l hst _ 0 999) ca_X4_checkRange aw_16_11 aw_16_10 ⟨Nat.le_of_ble_eq_true rfl, Nat.le_of_ble_eq_true rfl⟩ (Nat.le_of_ble_eq_true rfl) ⟨Nat.le_of_ble_eq_true rfl, Nat.le_of_ble_eq_true rfl⟩ ⟨Nat.le_of_ble_eq_true rfl, Nat.le_of_ble_eq_true rfl⟩ (fun E σ1 ⟨e1, e2, e3⟩ => ⟨e2 ▸ stb.rf _, Or.inr ⟨p1, Or.inl ⟨e1, e3⟩⟩⟩) ?_
  rintro σ9 ⟨rfl, p2⟩
  refine wm_aload_n 21 rfl dX4_pass_20 rfl rfl ?_
  refine wm_dup 22 rfl rfl dX4_pass_21 ?_
  refine wm_getI 25 rfl dX4_pass_22 gf_X4_68_3 rfl rfl ?_
  refine wm_iload_n 26 rfl dX4_pass_25 rfl rfl ?_
  refine wm_iadd 27 rfl dX4_pass_26 ?_
  refine wm_putI 30 rfl dX4_pass_27 pf_X4_68_3 rfl rfl ?_
  refine wm_aload_n 31 rfl dX4_pass_30 rfl rfl ?_
  refine wm_getI 34 rfl dX4_pass_31 gf_X4_68_3 rfl rfl ?_
  exact wmx_iret dX4_pass_34 (by first | rfl | exact zp_nar) ⟨p1, p2, rfl, by unfold zu; simp⟩ (Nat.le_of_ble_eq_true rfl) (Nat.le_of_ble_eq_true rfl)
