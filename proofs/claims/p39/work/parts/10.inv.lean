theorem gf_X1_36_0 : zGF RX1 36 0 8 := ⟨RX1, TX1, 10, "Assetmerge$Inventory", rfl, zin_X1, by decide, aw_6_1, Or.inl rfl⟩
theorem gf_X1_43_0 : zGF RX1 43 0 6 := ⟨RX1, TX1, 10, "Assetmerge$Inventory", rfl, zin_X1, by decide, aw_4_4, Or.inl rfl⟩
theorem ca_X1_isIn : zCal yX1_isIn cX1_isIn 2 (some .boolean) 2 := ⟨aw_8_2, aw_1_17, by decide +kernel, by decide +kernel, by decide +kernel⟩
theorem ca_X1_holds : zCal yX1_holds cX1_holds 2 (some .boolean) 1 := ⟨aw_6_0, aw_1_17, by decide +kernel, by decide +kernel, by decide +kernel⟩
theorem cv_X1_holds : zCaV RX1 yX1_holds := ⟨aw_5_22, aw_5_23⟩
theorem gf_X1_23_0 : zGF RX1 23 0 3 := ⟨RX1, TX1, 10, "Assetmerge$Inventory", rfl, zin_X1, by decide, aw_2_13, Or.inl rfl⟩
theorem ca_X1_haveSameKey : zCal yX1_haveSameKey cX1_haveSameKey 4 (some .boolean) 3 := ⟨aw_5_20, aw_1_17, by decide +kernel, by decide +kernel, by decide +kernel⟩
theorem cv_X1_haveSameKey : zCaV RX1 yX1_haveSameKey := ⟨aw_5_18, aw_5_19⟩
theorem gf_X1_32_0 : zGF RX1 32 0 7 := ⟨RX1, TX1, 10, "Assetmerge$Inventory", rfl, zin_X1, by decide, aw_16_19, Or.inl rfl⟩
theorem gf_X1_9_0 : zGF RX1 9 0 0 := ⟨RX1, TX1, 10, "Assetmerge$Inventory", rfl, zin_X1, by decide, aw_2_9, Or.inl rfl⟩
theorem pf_X1_32_0 : zPF RX1 32 0 7 := ⟨RX1, TX1, 10, "Assetmerge$Inventory", tyX1, rfl, zin_X1, by decide, aw_16_19, rfl, tyX1_ok, nmX1, rfl, by decide +kernel⟩
theorem pf_X1_43_0 : zPF RX1 43 0 6 := ⟨RX1, TX1, 10, "Assetmerge$Inventory", tyX1, rfl, zin_X1, by decide, aw_4_4, rfl, tyX1_ok, nmX1, rfl, by decide +kernel⟩
theorem pf_X1_36_0 : zPF RX1 36 0 8 := ⟨RX1, TX1, 10, "Assetmerge$Inventory", tyX1, rfl, zin_X1, by decide, aw_6_1, rfl, tyX1_ok, nmX1, rfl, by decide +kernel⟩
theorem ca_X1_unhide : zCal yX1_unhide cX1_unhide 2 none 1 := ⟨aw_12_20, aw_1_17, by decide +kernel, by decide +kernel, by decide +kernel⟩
theorem cv_X1_unhide : zCaV RX1 yX1_unhide := ⟨aw_12_18, aw_12_19⟩
theorem gf_X1_26_0 : zGF RX1 26 0 4 := ⟨RX1, TX1, 10, "Assetmerge$Inventory", rfl, zin_X1, by decide, aw_2_14, Or.inl rfl⟩
theorem gf_X1_15_0 : zGF RX1 15 0 1 := ⟨RX1, TX1, 10, "Assetmerge$Inventory", rfl, zin_X1, by decide, aw_2_10, Or.inl rfl⟩
theorem gf_X1_18_0 : zGF RX1 18 0 2 := ⟨RX1, TX1, 10, "Assetmerge$Inventory", rfl, zin_X1, by decide, aw_2_11, Or.inl rfl⟩
theorem gf_X1_29_0 : zGF RX1 29 0 5 := ⟨RX1, TX1, 10, "Assetmerge$Inventory", rfl, zin_X1, by decide, aw_2_15, Or.inl rfl⟩
theorem ca_X1_haveForbiddenPair : zCal yX1_haveForbiddenPair cX1_haveForbiddenPair 3 (some .boolean) 1 := ⟨aw_8_6, aw_1_17, by decide +kernel, by decide +kernel, by decide +kernel⟩
theorem cv_X1_haveForbiddenPair : zCaV RX1 yX1_haveForbiddenPair := ⟨aw_8_4, aw_8_5⟩
theorem ca_X1_haveTwoKeys : zCal yX1_haveTwoKeys cX1_haveTwoKeys 6 (some .boolean) 2 := ⟨aw_7_23, aw_1_17, by decide +kernel, by decide +kernel, by decide +kernel⟩
theorem cv_X1_haveTwoKeys : zCaV RX1 yX1_haveTwoKeys := ⟨aw_7_21, aw_7_22⟩
theorem ca_X1_weigh : zCal yX1_weigh cX1_weigh 3 (some .int) 2 := ⟨aw_12_12, aw_1_17, by decide +kernel, by decide +kernel, by decide +kernel⟩
theorem cv_X1_weigh : zCaV RX1 yX1_weigh := ⟨aw_12_10, aw_12_11⟩
theorem k_X1_isIn (l : Launch) {σ : Sg} (m : Int32) {i : Nat} (hi : i < 31) : cMi l yX1_isIn cX1_isIn 2 .boolean 0 Lc [.int (nI i), .int m] σ (pP σ (zp (tb m i = true))) := by
  refine zMet_of (by decide +kernel) (Nat.le_of_ble_eq_true rfl) (fun D cT ad sz => ?_)
  show Wm (fun _ _ => True) l (rmh 0) RX1 cX1_isIn 2 (some .boolean) D cT ad Lc (zA ad Lc.length sz) (zZ (fun D cT ad L sz => zQi D cT ad L sz (pP σ (zp (tb m i = true)))) D cT ad Lc sz) [] 0 (lv_args 0 [.int (nI i), .int m]) [] σ 0 0
  refine wm_iload_n 1 rfl dX1_isIn_0 rfl rfl ?_
  refine wm_iload_n 2 rfl dX1_isIn_1 rfl rfl ?_
  refine wm_ishr 3 rfl dX1_isIn_2 ?_
  refine wm_iconst (v := 1) 4 rfl dX1_isIn_3 (by decide) ?_
  refine wm_iand 5 rfl dX1_isIn_4 ?_
  refine wm_if_eq 12 8 rfl (by decide) dX1_isIn_5 (fun c5 => ?_) (fun c5 => ?_)
  · refine wm_iconst (v := 0) 13 rfl dX1_isIn_12 (by decide) ?_
    exact wm_iret dX1_isIn_13 (by first | rfl | exact zp_nar) (pP_i (zp_f (by rw [(tb_isIn hi).mp c5]; decide)))
  · refine wm_iconst (v := 1) 9 rfl dX1_isIn_8 (by decide) ?_
    refine wm_goto 13 (by decide) dX1_isIn_9 ?_
    exact wm_iret dX1_isIn_13 (by first | rfl | exact zp_nar) (pP_i (zp_t (by have h := mt (tb_isIn hi).mpr c5; simpa using h)))
theorem k_X1_holds (l : Launch) {σ : Sg} {n : Nat} (hI : cI σ n) (r : Int32) : cMi l yX1_holds cX1_holds 2 .boolean 1 Lc [.ref 1, .int r] σ (pP σ (zp (hdR σ n r))) := by
  refine zMet_of (by decide +kernel) (Nat.le_of_ble_eq_true rfl) (fun D cT ad sz => ?_)
  show Wm (fun _ _ => True) l (rmh 1) RX1 cX1_holds 2 (some .boolean) D cT ad Lc (zA ad Lc.length sz) (zZ (fun D cT ad L sz => zQi D cT ad L sz (pP σ (zp (hdR σ n r)))) D cT ad Lc sz) [] 0 (lv_args 0 [.ref 1, .int r]) [] σ 0 0
  refine wm_iload_n 1 rfl dX1_holds_0 rfl rfl ?_
  refine wm_if_lt 27 4 rfl (by decide) dX1_holds_1 (fun c1 => ?_) (fun c1 => ?_)
  · refine wm_iconst (v := 0) 28 rfl dX1_holds_27 (by decide) ?_
    exact wm_iret dX1_holds_28 (by first | rfl | exact zp_nar) (pP_i (zp_f (fun h => by obtain ⟨i, e, h1, h2⟩ := h; have := hI.2; rw [e] at c1; exact nI_pos (by omega) c1)))
  · refine wm_iload_n 5 rfl dX1_holds_4 rfl rfl ?_
    refine wm_aload_n 6 rfl dX1_holds_5 rfl rfl ?_
    refine wm_getI 9 rfl dX1_holds_6 gf_X1_36_0 rfl rfl ?_
    refine wm_icmp_ge 27 12 rfl (by decide) dX1_holds_9 (fun c9 => ?_) (fun c9 => ?_)
    · rw [hI.1] at c9
      refine wm_iconst (v := 0) 28 rfl dX1_holds_27 (by decide) ?_
      exact wm_iret dX1_holds_28 (by first | rfl | exact zp_nar) (pP_i (zp_f (fun h => by obtain ⟨i, e, h1, h2⟩ := h; have := hI.2; rw [e] at c9; exact absurd (le_of_nI c9 (by omega) (by omega)) (by omega))))
    · rw [hI.1] at c9
      obtain ⟨i, hi, rfl⟩ : ∃ i : Nat, i < n ∧ r = nI i := by
        rcases pk_ix r (n := n) (by have := hI.2; omega) with h | h | ⟨j, hj, e⟩
        · exact absurd h c1
        · exact absurd h c9
        · exact ⟨j, hj, e⟩
      refine wm_aload_n 13 rfl dX1_holds_12 rfl rfl ?_
      refine wm_getI 16 rfl dX1_holds_13 gf_X1_43_0 rfl rfl ?_
      refine wm_iload_n 17 rfl dX1_holds_16 rfl rfl ?_
      refine wm_ishr 18 rfl dX1_holds_17 ?_
      refine wm_iconst (v := 1) 19 rfl dX1_holds_18 (by decide) ?_
      refine wm_iand 20 rfl dX1_holds_19 ?_
      refine wm_if_eq 27 23 rfl (by decide) dX1_holds_20 (fun c20 => ?_) (fun c20 => ?_)
      · refine wm_iconst (v := 0) 28 rfl dX1_holds_27 (by decide) ?_
        exact wm_iret dX1_holds_28 (by first | rfl | exact zp_nar) (pP_i (zp_f (fun h => by
          have g := (tb_isIn (i := i) (by have := hI.2; omega)).mp c20
          have g2 := ((hdR_n hI.2 (by have := hI.2; omega)).mp h).2
          rw [g] at g2; exact absurd g2 (by decide))))
      · refine wm_iconst (v := 1) 24 rfl dX1_holds_23 (by decide) ?_
        refine wm_goto 28 (by decide) dX1_holds_24 ?_
        exact wm_iret dX1_holds_28 (by first | rfl | exact zp_nar) (pP_i (zp_t ((hdR_n hI.2 (by have := hI.2; omega)).mpr ⟨hi, by
          have g := mt (tb_isIn (i := i) (by have := hI.2; omega)).mpr c20
          simpa using g⟩)))
theorem k_holds (l : Launch) {σ : Sg} {n : Nat} (hI : cI σ n) (i : Nat) (hi : i < 2 ^ 31) : cMi l yX1_holds cX1_holds 2 .boolean 1 Lc [.ref 1, .int (nI i)] σ (pP σ (zp (hd σ n i))) := by
  rw [← zp_c (hdR_n hI.2 hi)]
  exact k_X1_holds l hI (nI i)
theorem k_X1_haveSameKey (l : Launch) {σ : Sg} {n : Nat} (hI : cI σ n) (a b k : Nat) (ha : a < n) (hb : b < n) (hk : k < 3) : cMi l yX1_haveSameKey cX1_haveSameKey 4 .boolean 2 Lc [.ref 1, .int (nI a), .int (nI b), .int (nI k)] σ (pP σ (zp (smK σ n k a b))) := by
  have h24 := hI.2
  refine zMet_of (by decide +kernel) (Nat.le_of_ble_eq_true rfl) (fun D cT ad sz => ?_)
  show Wm (fun _ _ => True) l (rmh 2) RX1 cX1_haveSameKey 4 (some .boolean) D cT ad Lc (zA ad Lc.length sz) (zZ (fun D cT ad L sz => zQi D cT ad L sz (pP σ (zp (smK σ n k a b)))) D cT ad Lc sz) [] 0 (lv_args 0 [.ref 1, .int (nI a), .int (nI b), .int (nI k)]) [] σ 0 0
  refine wm_aload_n 1 rfl dX1_haveSameKey_0 rfl rfl ?_
  refine wm_iload_n 2 rfl dX1_haveSameKey_1 rfl rfl ?_
  refine wm_callVi (ty := .boolean) 5 rfl dX1_haveSameKey_2 (k_holds l hI a (by omega)) ca_X1_holds cv_X1_holds rfl aw_5_21 rfl rfl ⟨Nat.le_of_ble_eq_true rfl, Nat.le_of_ble_eq_true rfl⟩ (Nat.le_of_ble_eq_true rfl) ⟨Nat.zero_le _, Nat.zero_le _⟩ ?_
  rintro r9 σ9 ⟨rfl, rfl⟩
  refine wm_if_eq 51 8 rfl (by decide) dX1_haveSameKey_5 (fun c5 => ?_) (fun c5 => ?_)
  · refine wm_iconst (v := 0) 52 rfl dX1_haveSameKey_51 (by decide) ?_
    exact wm_iret dX1_haveSameKey_52 (by first | rfl | exact zp_nar) (pP_i (zp_f (fun h => (zp_0.mp c5) h.1)))
  · refine wm_aload_n 9 rfl dX1_haveSameKey_8 rfl rfl ?_
    refine wm_iload_n 10 rfl dX1_haveSameKey_9 rfl rfl ?_
    refine wm_callVi (ty := .boolean) 13 rfl dX1_haveSameKey_10 (k_holds l hI b (by omega)) ca_X1_holds cv_X1_holds rfl aw_5_21 rfl rfl ⟨Nat.le_of_ble_eq_true rfl, Nat.le_of_ble_eq_true rfl⟩ (Nat.le_of_ble_eq_true rfl) ⟨Nat.zero_le _, Nat.zero_le _⟩ ?_
    rintro r9 σ9 ⟨rfl, rfl⟩
    refine wm_if_eq 51 16 rfl (by decide) dX1_haveSameKey_13 (fun c13 => ?_) (fun c13 => ?_)
    · refine wm_iconst (v := 0) 52 rfl dX1_haveSameKey_51 (by decide) ?_
      exact wm_iret dX1_haveSameKey_52 (by first | rfl | exact zp_nar) (pP_i (zp_f (fun h => (zp_0.mp c13) h.2.1)))
    · refine wm_aload_n 17 rfl dX1_haveSameKey_16 rfl rfl ?_
      refine wm_getR 20 rfl dX1_haveSameKey_17 gf_X1_23_0 rfl rfl ?_
      refine wm_iload_n 21 rfl dX1_haveSameKey_20 rfl rfl ?_
      refine wm_aaload (r := 7 + k) 22 rfl dX1_haveSameKey_21 rfl (vp_in_nI hk (by omega)) (by rw [nI_clamp (by omega)]) ?_
      refine wm_iload_n 23 rfl dX1_haveSameKey_22 rfl rfl ?_
      refine wm_iaload 24 rfl dX1_haveSameKey_23 (Lc_key hk) (in24 (by omega) h24) ?_
      refine wm_iconst (v := (-1)) 25 rfl dX1_haveSameKey_24 (by decide) ?_
      refine wm_icmp_eq 51 28 rfl (by decide) dX1_haveSameKey_25 (fun c25 => ?_) (fun c25 => ?_)
      · rw [nI_clamp (by omega)] at c25
        refine wm_iconst (v := 0) 52 rfl dX1_haveSameKey_51 (by decide) ?_
        exact wm_iret dX1_haveSameKey_52 (by first | rfl | exact zp_nar) (pP_i (zp_f (fun h => h.2.2.1 c25)))
      · rw [nI_clamp (by omega)] at c25
        refine wm_aload_n 29 rfl dX1_haveSameKey_28 rfl rfl ?_
        refine wm_getR 32 rfl dX1_haveSameKey_29 gf_X1_23_0 rfl rfl ?_
        refine wm_iload_n 33 rfl dX1_haveSameKey_32 rfl rfl ?_
        refine wm_aaload (r := 7 + k) 34 rfl dX1_haveSameKey_33 rfl (vp_in_nI hk (by omega)) (by rw [nI_clamp (by omega)]) ?_
        refine wm_iload_n 35 rfl dX1_haveSameKey_34 rfl rfl ?_
        refine wm_iaload 36 rfl dX1_haveSameKey_35 (Lc_key hk) (in24 (by omega) h24) ?_
        refine wm_aload_n 37 rfl dX1_haveSameKey_36 rfl rfl ?_
        refine wm_getR 40 rfl dX1_haveSameKey_37 gf_X1_23_0 rfl rfl ?_
        refine wm_iload_n 41 rfl dX1_haveSameKey_40 rfl rfl ?_
        refine wm_aaload (r := 7 + k) 42 rfl dX1_haveSameKey_41 rfl (vp_in_nI hk (by omega)) (by rw [nI_clamp (by omega)]) ?_
        refine wm_iload_n 43 rfl dX1_haveSameKey_42 rfl rfl ?_
        refine wm_iaload 44 rfl dX1_haveSameKey_43 (Lc_key hk) (in24 (by omega) h24) ?_
        refine wm_icmp_ne 51 47 rfl (by decide) dX1_haveSameKey_44 (fun c44 => ?_) (fun c44 => ?_)
        · rw [nI_clamp (by omega), nI_clamp (by omega)] at c44
          refine wm_iconst (v := 0) 52 rfl dX1_haveSameKey_51 (by decide) ?_
          exact wm_iret dX1_haveSameKey_52 (by first | rfl | exact zp_nar) (pP_i (zp_f (fun h => c44 h.2.2.2)))
        · rw [nI_clamp (by omega), nI_clamp (by omega)] at c44
          refine wm_iconst (v := 1) 48 rfl dX1_haveSameKey_47 (by decide) ?_
          refine wm_goto 52 (by decide) dX1_haveSameKey_48 ?_
          exact wm_iret dX1_haveSameKey_52 (by first | rfl | exact zp_nar) (pP_i (zp_t ⟨zp_n.mp c5, zp_n.mp c13, c25, c44⟩))
theorem k_X1_isFirstWithKey (l : Launch) {σ : Sg} {n : Nat} (hI : cI σ n) (a k : Nat) (ha : a < n) (hk : k < 3) : cMi l yX1_isFirstWithKey cX1_isFirstWithKey 4 .boolean 3 Lc [.ref 1, .int (nI a), .int (nI k)] σ (pP σ (zp (∀ j, j < a → ¬ smK σ n k a j))) := by
  have h24 := hI.2
  refine zMet_of (by decide +kernel) (Nat.le_of_ble_eq_true rfl) (fun D cT ad sz => ?_)
  show Wm (fun _ _ => True) l (rmh 3) RX1 cX1_isFirstWithKey 4 (some .boolean) D cT ad Lc (zA ad Lc.length sz) (zZ (fun D cT ad L sz => zQi D cT ad L sz (pP σ (zp (∀ j, j < a → ¬ smK σ n k a j)))) D cT ad Lc sz) [] 0 (lv_args 0 [.ref 1, .int (nI a), .int (nI k)]) [] σ 0 0
  have lp : ∀ (q9 j : Nat), a - j = q9 → j ≤ a → (∀ i, i < j → ¬ smK σ n k a i) → Wm (fun _ _ => True) l (rmh 3) RX1 cX1_isFirstWithKey 4 (some .boolean) D cT ad Lc (zA ad Lc.length sz) (zZ (fun D cT ad L sz => zQi D cT ad L sz (pP σ (zp (∀ j, j < a → ¬ smK σ n k a j)))) D cT ad Lc sz) [] 2 [(0, .ref 1), (1, .int (nI a)), (2, .int (nI k)), (3, .int (nI j))] [] σ 0 0 := by
    intro q9
    induction q9 using Nat.strongRecOn with
    | ind q9 ih =>
      intro j  hm hj hinv
      refine wm_iload_n 3 rfl dX1_isFirstWithKey_2 rfl rfl ?_
      refine wm_iload_n 4 rfl dX1_isFirstWithKey_3 rfl rfl ?_
      refine wm_icmp_ge 25 7 rfl (by decide) dX1_isFirstWithKey_4 (fun c4 => ?_) (fun c4 => ?_)
      · have g : j = a := by have := le_of_nI c4 (by omega) (by omega); omega
        refine wm_iconst (v := 1) 26 rfl dX1_isFirstWithKey_25 (by decide) ?_
        exact wm_iret dX1_isFirstWithKey_26 (by first | rfl | exact zp_nar) (pP_i (zp_t (by subst g; exact hinv)))
      · have g : j < a := lt_of_nnI c4 (by omega) (by omega)
        refine wm_aload_n 8 rfl dX1_isFirstWithKey_7 rfl rfl ?_
        refine wm_iload_n 9 rfl dX1_isFirstWithKey_8 rfl rfl ?_
        refine wm_iload_n 10 rfl dX1_isFirstWithKey_9 rfl rfl ?_
        refine wm_iload_n 11 rfl dX1_isFirstWithKey_10 rfl rfl ?_
        refine wm_callVi (ty := .boolean) 14 rfl dX1_isFirstWithKey_11 (k_X1_haveSameKey l hI a j k ha (by omega) hk) ca_X1_haveSameKey cv_X1_haveSameKey rfl aw_22_5 rfl rfl ⟨Nat.le_of_ble_eq_true rfl, Nat.le_of_ble_eq_true rfl⟩ (Nat.le_of_ble_eq_true rfl) ⟨Nat.zero_le _, Nat.zero_le _⟩ ?_
        rintro r9 σ9 ⟨rfl, rfl⟩
        refine wm_if_eq 19 17 rfl (by decide) dX1_isFirstWithKey_14 (fun c14 => ?_) (fun c14 => ?_)
        · refine wm_iinc (ls' := [(3, _), (0, _), (1, _), (2, _)]) 22 rfl dX1_isFirstWithKey_19 rfl (nI_inc _) (by decide) rfl ?_
          refine wm_goto 2 (by decide) dX1_isFirstWithKey_22 ?_
          refine wm_loc (ls2 := [(0, _), (1, _), (2, _), (3, _)]) [1, 2, 3, 0] rfl ?_
          exact ih (a - (j + 1)) (by omega) (j + 1) rfl (by omega) (lt_s hinv (zp_0.mp c14))
        · refine wm_iconst (v := 0) 18 rfl dX1_isFirstWithKey_17 (by decide) ?_
          exact wm_iret dX1_isFirstWithKey_18 (by first | rfl | exact zp_nar) (pP_i (zp_f (fun h => h j g (zp_n.mp c14))))
  refine wm_iconst (v := 0) 1 rfl dX1_isFirstWithKey_0 (by decide) ?_
  refine wm_istore_n (ls' := [(3, _), (0, _), (1, _), (2, _)]) 2 rfl dX1_isFirstWithKey_1 rfl (by decide) rfl ?_
  refine wm_loc (ls2 := [(0, _), (1, _), (2, _), (3, _)]) [1, 2, 3, 0] rfl ?_
  exact lp a 0 rfl (Nat.zero_le _) (fun i hi => absurd hi (Nat.not_lt_zero i))
theorem k_X1_putSource (l : Launch) {σ : Sg} {m : Nat} (hs : σ 1 7 = nI m) (hm : m < 4) (t : Int32) : cMi l yX1_putSource cX1_putSource 3 .int 0 Lc [.ref 1, .int t] σ (pP (zu (zu σ 2 m t) 1 7 (nI (m + 1))) (nI m)) := by
  refine zMet_of (by decide +kernel) (Nat.le_of_ble_eq_true rfl) (fun D cT ad sz => ?_)
  show Wm (fun _ _ => True) l (rmh 0) RX1 cX1_putSource 3 (some .int) D cT ad Lc (zA ad Lc.length sz) (zZ (fun D cT ad L sz => zQi D cT ad L sz (pP (zu (zu σ 2 m t) 1 7 (nI (m + 1))) (nI m))) D cT ad Lc sz) [] 0 (lv_args 0 [.ref 1, .int t]) [] σ 0 0
  refine wm_aload_n 1 rfl dX1_putSource_0 rfl rfl ?_
  refine wm_getI 4 rfl dX1_putSource_1 gf_X1_32_0 rfl rfl ?_
  rw [hs]
  refine wm_istore_n (ls' := [(2, _), (0, _), (1, _)]) 5 rfl dX1_putSource_4 rfl (by decide) rfl ?_
  refine wm_aload_n 6 rfl dX1_putSource_5 rfl rfl ?_
  refine wm_getR 9 rfl dX1_putSource_6 gf_X1_9_0 rfl rfl ?_
  refine wm_iload_n 10 rfl dX1_putSource_9 rfl rfl ?_
  refine wm_iload_n 11 rfl dX1_putSource_10 rfl rfl ?_
  refine wm_iastore 12 rfl dX1_putSource_11 rfl (vp_in_nI hm (by omega)) ?_
  rw [nI_clamp (by omega)]
  refine wm_aload_n 13 rfl dX1_putSource_12 rfl rfl ?_
  refine wm_dup 14 rfl rfl dX1_putSource_13 ?_
  refine wm_getI 17 rfl dX1_putSource_14 gf_X1_32_0 rfl rfl ?_
  refine wm_iconst (v := 1) 18 rfl dX1_putSource_17 (by decide) ?_
  refine wm_iadd 19 rfl dX1_putSource_18 ?_
  refine wm_putI 22 rfl dX1_putSource_19 pf_X1_32_0 rfl rfl ?_
  refine wm_iload_n 23 rfl dX1_putSource_22 rfl rfl ?_
  exact wm_iret dX1_putSource_23 (by first | rfl | exact zp_nar) ⟨by rw [zu_ne _ _ _ (by decide), hs, nI_succ], rfl⟩
def prM (σ : Sg) (n : Nat) (s d : Int32) : Nat → Sg
  | 0 => zu (zu σ 3 n s) 4 n d
  | j + 1 => zu (prM σ n s d j) (10 + j) n (-1)
theorem prM_1 (σ : Sg) (n : Nat) (s d : Int32) : ∀ j, prM σ n s d j 1 = σ 1
  | 0 => by rw [prM, zu_ne _ _ _ (by decide), zu_ne _ _ _ (by decide)]
  | j + 1 => by rw [prM, zu_ne _ _ _ (by omega), prM_1 σ n s d j]
theorem k_X1_hide (l : Launch) {σ : Sg} (i : Nat) : cMv l yX1_hide cX1_hide 2 0 Lc [.ref 1, .int (nI i)] σ (fun σ1 => zu σ 1 6 (σ 1 6 &&& (((1 : Int32) <<< (nI i &&& 31)) ^^^ (-1))) = σ1) := by
  refine zMet_of (by decide +kernel) (Nat.le_of_ble_eq_true rfl) (fun D cT ad sz => ?_)
  show Wm (fun _ _ => True) l (rmh 0) RX1 cX1_hide 2 none D cT ad Lc (zA ad Lc.length sz) (zZ (fun D cT ad L sz => zQv D cT ad L sz (fun σ1 => zu σ 1 6 (σ 1 6 &&& (((1 : Int32) <<< (nI i &&& 31)) ^^^ (-1))) = σ1)) D cT ad Lc sz) [] 0 (lv_args 0 [.ref 1, .int (nI i)]) [] σ 0 0
  refine wm_aload_n 1 rfl dX1_hide_0 rfl rfl ?_
  refine wm_dup 2 rfl rfl dX1_hide_1 ?_
  refine wm_getI 5 rfl dX1_hide_2 gf_X1_43_0 rfl rfl ?_
  refine wm_iconst (v := 1) 6 rfl dX1_hide_5 (by decide) ?_
  refine wm_iload_n 7 rfl dX1_hide_6 rfl rfl ?_
  refine wm_ishl 8 rfl dX1_hide_7 ?_
  refine wm_iconst (v := (-1)) 9 rfl dX1_hide_8 (by decide) ?_
  refine wm_ixor 10 rfl dX1_hide_9 ?_
  refine wm_iand 11 rfl dX1_hide_10 ?_
  refine wm_putI 14 rfl dX1_hide_11 pf_X1_43_0 rfl rfl ?_
  exact wm_vret dX1_hide_14 rfl
theorem k_X1_unhide (l : Launch) {σ : Sg} (i : Nat) : cMv l yX1_unhide cX1_unhide 2 0 Lc [.ref 1, .int (nI i)] σ (fun σ1 => zu σ 1 6 (σ 1 6 ||| ((1 : Int32) <<< (nI i &&& 31))) = σ1) := by
  refine zMet_of (by decide +kernel) (Nat.le_of_ble_eq_true rfl) (fun D cT ad sz => ?_)
  show Wm (fun _ _ => True) l (rmh 0) RX1 cX1_unhide 2 none D cT ad Lc (zA ad Lc.length sz) (zZ (fun D cT ad L sz => zQv D cT ad L sz (fun σ1 => zu σ 1 6 (σ 1 6 ||| ((1 : Int32) <<< (nI i &&& 31))) = σ1)) D cT ad Lc sz) [] 0 (lv_args 0 [.ref 1, .int (nI i)]) [] σ 0 0
  refine wm_aload_n 1 rfl dX1_unhide_0 rfl rfl ?_
  refine wm_dup 2 rfl rfl dX1_unhide_1 ?_
  refine wm_getI 5 rfl dX1_unhide_2 gf_X1_43_0 rfl rfl ?_
  refine wm_iconst (v := 1) 6 rfl dX1_unhide_5 (by decide) ?_
  refine wm_iload_n 7 rfl dX1_unhide_6 rfl rfl ?_
  refine wm_ishl 8 rfl dX1_unhide_7 ?_
  refine wm_ior 9 rfl dX1_unhide_8 ?_
  refine wm_putI 12 rfl dX1_unhide_9 pf_X1_43_0 rfl rfl ?_
  exact wm_vret dX1_unhide_12 rfl
theorem k_X1_putRecord (l : Launch) {σ : Sg} {n : Nat} (hn : σ 1 8 = nI n) (h24 : n < 24) (s d : Int32) : cMi l yX1_putRecord cX1_putRecord 5 .int 1 Lc [.ref 1, .int s, .int d] σ (pP (zu (zu (prM σ n s d 3) 1 8 (nI (n + 1))) 1 6 (σ 1 6 ||| ((1 : Int32) <<< (nI n &&& 31)))) (nI n)) := by
  refine zMet_of (by decide +kernel) (Nat.le_of_ble_eq_true rfl) (fun D cT ad sz => ?_)
  show Wm (fun _ _ => True) l (rmh 1) RX1 cX1_putRecord 5 (some .int) D cT ad Lc (zA ad Lc.length sz) (zZ (fun D cT ad L sz => zQi D cT ad L sz (pP (zu (zu (prM σ n s d 3) 1 8 (nI (n + 1))) 1 6 (σ 1 6 ||| ((1 : Int32) <<< (nI n &&& 31)))) (nI n))) D cT ad Lc sz) [] 0 (lv_args 0 [.ref 1, .int s, .int d]) [] σ 0 0
  have lp : ∀ (q9 j : Nat), 3 - j = q9 → j ≤ 3 → True → Wm (fun _ _ => True) l (rmh 1) RX1 cX1_putRecord 5 (some .int) D cT ad Lc (zA ad Lc.length sz) (zZ (fun D cT ad L sz => zQi D cT ad L sz (pP (zu (zu (prM σ n s d 3) 1 8 (nI (n + 1))) 1 6 (σ 1 6 ||| ((1 : Int32) <<< (nI n &&& 31)))) (nI n))) D cT ad Lc sz) [] 22 [(0, .ref 1), (1, .int s), (2, .int d), (3, .int (nI n)), (4, .int (nI j))] [] (prM σ n s d j) 0 0 := by
    intro q9
    induction q9 using Nat.strongRecOn with
    | ind q9 ih =>
      intro j  hm hj hinv
      refine wm_iload 24 rfl dX1_putRecord_22 rfl ?_
      refine wm_iconst (v := 3) 25 rfl dX1_putRecord_24 (by decide) ?_
      refine wm_icmp_ge 44 28 rfl (by decide) dX1_putRecord_25 (fun c25 => ?_) (fun c25 => ?_)
      · have g : j = 3 := by have := le_of_nI (a := 3) c25 (by omega) (by omega); omega
        subst g
        refine wm_aload_n 45 rfl dX1_putRecord_44 rfl rfl ?_
        refine wm_dup 46 rfl rfl dX1_putRecord_45 ?_
        refine wm_getI 49 rfl dX1_putRecord_46 gf_X1_36_0 rfl rfl ?_
        refine wm_iconst (v := 1) 50 rfl dX1_putRecord_49 (by decide) ?_
        refine wm_iadd 51 rfl dX1_putRecord_50 ?_
        refine wm_putI 54 rfl dX1_putRecord_51 pf_X1_36_0 rfl rfl ?_
        refine wm_aload_n 55 rfl dX1_putRecord_54 rfl rfl ?_
        refine wm_iload_n 56 rfl dX1_putRecord_55 rfl rfl ?_
        refine wm_callVv 59 rfl dX1_putRecord_56 (k_X1_unhide l n) ca_X1_unhide cv_X1_unhide rfl aw_17_16 rfl rfl ⟨Nat.le_of_ble_eq_true rfl, Nat.le_of_ble_eq_true rfl⟩ (Nat.le_of_ble_eq_true rfl) ⟨Nat.zero_le _, Nat.zero_le _⟩ ?_
        intro σ9 h9
        subst h9
        refine wm_iload_n 60 rfl dX1_putRecord_59 rfl rfl ?_
        exact wm_iret dX1_putRecord_60 (by first | rfl | exact zp_nar) ⟨by simp only [zu_at, zu_ne, prM_1]; rw [hn, nI_succ]; simp [upd, prM_1], rfl⟩
      · have g : j < 3 := lt_of_nnI (a := 3) c25 (by omega) (by omega)
        refine wm_aload_n 29 rfl dX1_putRecord_28 rfl rfl ?_
        refine wm_getR 32 rfl dX1_putRecord_29 gf_X1_26_0 rfl rfl ?_
        refine wm_iload 34 rfl dX1_putRecord_32 rfl ?_
        refine wm_aaload (r := 10 + j) 35 rfl dX1_putRecord_34 rfl (vp_in_nI g (by omega)) (by rw [nI_clamp (by omega)]) ?_
        refine wm_iload_n 36 rfl dX1_putRecord_35 rfl rfl ?_
        refine wm_iconst (v := (-1)) 37 rfl dX1_putRecord_36 (by decide) ?_
        refine wm_iastore 38 rfl dX1_putRecord_37 (Lc_fact g) (vp_in_nI h24 (by omega)) ?_
        rw [nI_clamp (by omega)]
        refine wm_iinc (ls' := [(4, _), (0, _), (1, _), (2, _), (3, _)]) 41 rfl dX1_putRecord_38 rfl (nI_inc _) (by decide) rfl ?_
        refine wm_goto 22 (by decide) dX1_putRecord_41 ?_
        refine wm_loc (ls2 := [(0, _), (1, _), (2, _), (3, _), (4, _)]) [1, 2, 3, 4, 0] rfl ?_
        exact ih (3 - (j + 1)) (by omega) (j + 1) rfl (by omega) trivial
  refine wm_aload_n 1 rfl dX1_putRecord_0 rfl rfl ?_
  refine wm_getI 4 rfl dX1_putRecord_1 gf_X1_36_0 rfl rfl ?_
  rw [hn]
  refine wm_istore_n (ls' := [(3, _), (0, _), (1, _), (2, _)]) 5 rfl dX1_putRecord_4 rfl (by decide) rfl ?_
  refine wm_aload_n 6 rfl dX1_putRecord_5 rfl rfl ?_
  refine wm_getR 9 rfl dX1_putRecord_6 gf_X1_15_0 rfl rfl ?_
  refine wm_iload_n 10 rfl dX1_putRecord_9 rfl rfl ?_
  refine wm_iload_n 11 rfl dX1_putRecord_10 rfl rfl ?_
  refine wm_iastore 12 rfl dX1_putRecord_11 rfl (vp_in_nI h24 (by omega)) ?_
  refine wm_aload_n 13 rfl dX1_putRecord_12 rfl rfl ?_
  refine wm_getR 16 rfl dX1_putRecord_13 gf_X1_18_0 rfl rfl ?_
  refine wm_iload_n 17 rfl dX1_putRecord_16 rfl rfl ?_
  refine wm_iload_n 18 rfl dX1_putRecord_17 rfl rfl ?_
  refine wm_iastore 19 rfl dX1_putRecord_18 rfl (vp_in_nI h24 (by omega)) ?_
  rw [nI_clamp (by omega)]
  refine wm_iconst (v := 0) 20 rfl dX1_putRecord_19 (by decide) ?_
  refine wm_istore (ls' := [(4, _), (3, _), (0, _), (1, _), (2, _)]) 22 rfl dX1_putRecord_20 (by decide) rfl ?_
  refine wm_loc (ls2 := [(0, _), (1, _), (2, _), (3, _), (4, _)]) [2, 3, 4, 1, 0] rfl ?_
  exact lp 3 0 rfl (Nat.zero_le _) trivial
theorem k_X1_isForbidden (l : Launch) {σ : Sg} {a b : Nat} (ha : a < 24) (hb : b < 24) : cMi l yX1_isForbidden cX1_isForbidden 3 .boolean 1 Lc [.ref 1, .int (nI a), .int (nI b)] σ (pP σ (zp (tb (σ 13 a) b = true))) := by
  refine zMet_of (by decide +kernel) (Nat.le_of_ble_eq_true rfl) (fun D cT ad sz => ?_)
  show Wm (fun _ _ => True) l (rmh 1) RX1 cX1_isForbidden 3 (some .boolean) D cT ad Lc (zA ad Lc.length sz) (zZ (fun D cT ad L sz => zQi D cT ad L sz (pP σ (zp (tb (σ 13 a) b = true)))) D cT ad Lc sz) [] 0 (lv_args 0 [.ref 1, .int (nI a), .int (nI b)]) [] σ 0 0
  refine wm_iload_n 1 rfl dX1_isForbidden_0 rfl rfl ?_
  refine wm_aload_n 2 rfl dX1_isForbidden_1 rfl rfl ?_
  refine wm_getR 5 rfl dX1_isForbidden_2 gf_X1_29_0 rfl rfl ?_
  refine wm_iload_n 6 rfl dX1_isForbidden_5 rfl rfl ?_
  refine wm_iaload 7 rfl dX1_isForbidden_6 rfl (in24 ha (Nat.le_refl _)) ?_
  rw [nI_clamp (by omega)]
  refine wm_callSi (ty := .boolean) 10 rfl dX1_isForbidden_7 (k_X1_isIn l (σ 13 a) (i := b) (by omega)) ca_X1_isIn aw_8_1 aw_8_0 ⟨Nat.le_of_ble_eq_true rfl, Nat.le_of_ble_eq_true rfl⟩ (Nat.le_of_ble_eq_true rfl) ⟨Nat.zero_le _, Nat.zero_le _⟩ ?_
  rintro r9 σ9 ⟨rfl, rfl⟩
  exact wm_iret dX1_isForbidden_10 (by first | rfl | exact zp_nar) ⟨rfl, rfl⟩
def ptM (σ : Sg) (a b : Nat) : Sg := zu (zu σ 13 a (σ 13 a ||| ((1 : Int32) <<< (nI b &&& 31)))) 13 b ((zu σ 13 a (σ 13 a ||| ((1 : Int32) <<< (nI b &&& 31)))) 13 b ||| ((1 : Int32) <<< (nI a &&& 31)))
def upM (σ : Sg) (a b : Nat) : Sg := zu (zu σ 13 a (σ 13 a &&& (((1 : Int32) <<< (nI b &&& 31)) ^^^ (-1)))) 13 b ((zu σ 13 a (σ 13 a &&& (((1 : Int32) <<< (nI b &&& 31)) ^^^ (-1)))) 13 b &&& (((1 : Int32) <<< (nI a &&& 31)) ^^^ (-1)))
theorem k_X1_part (l : Launch) {σ : Sg} {a b : Nat} (ha : a < 24) (hb : b < 24) : cMv l yX1_part cX1_part 3 0 Lc [.ref 1, .int (nI a), .int (nI b)] σ (fun σ1 => ptM σ a b = σ1) := by
  refine zMet_of (by decide +kernel) (Nat.le_of_ble_eq_true rfl) (fun D cT ad sz => ?_)
  show Wm (fun _ _ => True) l (rmh 0) RX1 cX1_part 3 none D cT ad Lc (zA ad Lc.length sz) (zZ (fun D cT ad L sz => zQv D cT ad L sz (fun σ1 => ptM σ a b = σ1)) D cT ad Lc sz) [] 0 (lv_args 0 [.ref 1, .int (nI a), .int (nI b)]) [] σ 0 0
  refine wm_aload_n 1 rfl dX1_part_0 rfl rfl ?_
  refine wm_getR 4 rfl dX1_part_1 gf_X1_29_0 rfl rfl ?_
  refine wm_iload_n 5 rfl dX1_part_4 rfl rfl ?_
  refine wm_dup2 6 rfl rfl rfl dX1_part_5 ?_
  refine wm_iaload 7 rfl dX1_part_6 rfl (in24 ha (Nat.le_refl _)) ?_
  refine wm_iconst (v := 1) 8 rfl dX1_part_7 (by decide) ?_
  refine wm_iload_n 9 rfl dX1_part_8 rfl rfl ?_
  refine wm_ishl 10 rfl dX1_part_9 ?_
  refine wm_ior 11 rfl dX1_part_10 ?_
  refine wm_iastore 12 rfl dX1_part_11 rfl (in24 ha (Nat.le_refl _)) ?_
  refine wm_aload_n 13 rfl dX1_part_12 rfl rfl ?_
  refine wm_getR 16 rfl dX1_part_13 gf_X1_29_0 rfl rfl ?_
  refine wm_iload_n 17 rfl dX1_part_16 rfl rfl ?_
  refine wm_dup2 18 rfl rfl rfl dX1_part_17 ?_
  refine wm_iaload 19 rfl dX1_part_18 rfl (in24 hb (Nat.le_refl _)) ?_
  refine wm_iconst (v := 1) 20 rfl dX1_part_19 (by decide) ?_
  refine wm_iload_n 21 rfl dX1_part_20 rfl rfl ?_
  refine wm_ishl 22 rfl dX1_part_21 ?_
  refine wm_ior 23 rfl dX1_part_22 ?_
  refine wm_iastore 24 rfl dX1_part_23 rfl (in24 hb (Nat.le_refl _)) ?_
  exact wm_vret dX1_part_24 (by unfold ptM; rw [nI_clamp (by omega), nI_clamp (by omega)])
theorem k_X1_unpart (l : Launch) {σ : Sg} {a b : Nat} (ha : a < 24) (hb : b < 24) : cMv l yX1_unpart cX1_unpart 3 0 Lc [.ref 1, .int (nI a), .int (nI b)] σ (fun σ1 => upM σ a b = σ1) := by
  refine zMet_of (by decide +kernel) (Nat.le_of_ble_eq_true rfl) (fun D cT ad sz => ?_)
  show Wm (fun _ _ => True) l (rmh 0) RX1 cX1_unpart 3 none D cT ad Lc (zA ad Lc.length sz) (zZ (fun D cT ad L sz => zQv D cT ad L sz (fun σ1 => upM σ a b = σ1)) D cT ad Lc sz) [] 0 (lv_args 0 [.ref 1, .int (nI a), .int (nI b)]) [] σ 0 0
  refine wm_aload_n 1 rfl dX1_unpart_0 rfl rfl ?_
  refine wm_getR 4 rfl dX1_unpart_1 gf_X1_29_0 rfl rfl ?_
  refine wm_iload_n 5 rfl dX1_unpart_4 rfl rfl ?_
  refine wm_dup2 6 rfl rfl rfl dX1_unpart_5 ?_
  refine wm_iaload 7 rfl dX1_unpart_6 rfl (in24 ha (Nat.le_refl _)) ?_
  refine wm_iconst (v := 1) 8 rfl dX1_unpart_7 (by decide) ?_
  refine wm_iload_n 9 rfl dX1_unpart_8 rfl rfl ?_
  refine wm_ishl 10 rfl dX1_unpart_9 ?_
  refine wm_iconst (v := (-1)) 11 rfl dX1_unpart_10 (by decide) ?_
  refine wm_ixor 12 rfl dX1_unpart_11 ?_
  refine wm_iand 13 rfl dX1_unpart_12 ?_
  refine wm_iastore 14 rfl dX1_unpart_13 rfl (in24 ha (Nat.le_refl _)) ?_
  refine wm_aload_n 15 rfl dX1_unpart_14 rfl rfl ?_
  refine wm_getR 18 rfl dX1_unpart_15 gf_X1_29_0 rfl rfl ?_
  refine wm_iload_n 19 rfl dX1_unpart_18 rfl rfl ?_
  refine wm_dup2 20 rfl rfl rfl dX1_unpart_19 ?_
  refine wm_iaload 21 rfl dX1_unpart_20 rfl (in24 hb (Nat.le_refl _)) ?_
  refine wm_iconst (v := 1) 22 rfl dX1_unpart_21 (by decide) ?_
  refine wm_iload_n 23 rfl dX1_unpart_22 rfl rfl ?_
  refine wm_ishl 24 rfl dX1_unpart_23 ?_
  refine wm_iconst (v := (-1)) 25 rfl dX1_unpart_24 (by decide) ?_
  refine wm_ixor 26 rfl dX1_unpart_25 ?_
  refine wm_iand 27 rfl dX1_unpart_26 ?_
  refine wm_iastore 28 rfl dX1_unpart_27 rfl (in24 hb (Nat.le_refl _)) ?_
  exact wm_vret dX1_unpart_28 (by unfold upM; rw [nI_clamp (by omega), nI_clamp (by omega)])
def twoK (σ : Sg) (n : Nat) (m : Int32) (k : Nat) : Prop := ∃ a b, a < n ∧ b < n ∧ tb m a = true ∧ tb m b = true ∧ σ (7 + k) a ≠ -1 ∧ σ (7 + k) b ≠ -1 ∧ σ (7 + k) a ≠ σ (7 + k) b
def twI (σ : Sg) (m : Int32) (k j : Nat) (f : Int32) : Prop := (f = -1 ∧ ∀ i, i < j → tb m i = true → σ (7 + k) i = -1) ∨ (f ≠ -1 ∧ (∃ i, i < j ∧ tb m i = true ∧ σ (7 + k) i = f) ∧ ∀ i, i < j → tb m i = true → σ (7 + k) i ≠ -1 → σ (7 + k) i = f)
theorem twI_end {σ : Sg} {m : Int32} {k n : Nat} {f : Int32} (h : twI σ m k n f) : ¬ twoK σ n m k := by
  rintro ⟨a, b, ha, hb, ta, tb9, ka, kb, hne⟩
  rcases h with ⟨-, h⟩ | ⟨-, -, h⟩
  · exact ka (h a ha ta)
  · exact hne ((h a ha ta ka).trans (h b hb tb9 kb).symm)
theorem twI_skip {σ : Sg} {m : Int32} {k j : Nat} {f : Int32} (h : twI σ m k j f) (hj : tb m j = true → σ (7 + k) j = -1) : twI σ m k (j + 1) f := by
  rcases h with ⟨h1, h2⟩ | ⟨h1, ⟨i, h3, h4, h5⟩, h2⟩
  · exact Or.inl ⟨h1, lt_s h2 hj⟩
  · exact Or.inr ⟨h1, ⟨i, by omega, h4, h5⟩, lt_s h2 (fun t q => absurd (hj t) q)⟩
theorem twI_first {σ : Sg} {m : Int32} {k j : Nat} (h : twI σ m k j (-1)) (t : tb m j = true) (q : σ (7 + k) j ≠ -1) : twI σ m k (j + 1) (σ (7 + k) j) := by
  rcases h with ⟨-, h2⟩ | ⟨h1, -⟩
  · refine Or.inr ⟨q, ⟨j, by omega, t, rfl⟩, lt_s (fun i hi ti ki => absurd (h2 i hi ti) ki) (fun _ _ => rfl)⟩
  · exact absurd rfl h1
theorem twI_same {σ : Sg} {m : Int32} {k j : Nat} {f : Int32} (h : twI σ m k j f) (hf : f ≠ -1) (t : tb m j = true) (q : σ (7 + k) j = f) : twI σ m k (j + 1) f := by
  rcases h with ⟨h1, -⟩ | ⟨h1, ⟨i, h3, h4, h5⟩, h2⟩
  · exact absurd h1 hf
  · exact Or.inr ⟨h1, ⟨i, by omega, h4, h5⟩, lt_s h2 (fun _ _ => q)⟩
theorem twI_two {σ : Sg} {m : Int32} {k j n : Nat} {f : Int32} (h : twI σ m k j f) (hj : j < n) (hf : f ≠ -1) (t : tb m j = true) (q : σ (7 + k) j ≠ -1) (e : σ (7 + k) j ≠ f) : twoK σ n m k := by
  rcases h with ⟨h1, -⟩ | ⟨h1, ⟨i, h3, h4, h5⟩, h2⟩
  · exact absurd h1 hf
  · exact ⟨j, i, hj, by omega, t, h4, q, by rw [h5]; exact h1, by rw [h5]; exact e⟩
def fbP (σ : Sg) (n : Nat) (m : Int32) : Prop := ∃ a, a < n ∧ tb m a = true ∧ ¬ (σ 13 a &&& m = 0)
def mjP (σ : Sg) (n : Nat) (m : Int32) (k : Nat) : Prop := (∀ s, s < k → ¬ twoK σ n m s) ∧ ¬ fbP σ n m
theorem k_X1_haveTwoKeys (l : Launch) {σ : Sg} {n : Nat} (hI : cI σ n) (m : Int32) {k : Nat} (hk : k < 3) : cMi l yX1_haveTwoKeys cX1_haveTwoKeys 6 .boolean 1 Lc [.ref 1, .int m, .int (nI k)] σ (pP σ (zp (twoK σ n m k))) := by
  have h24 := hI.2
  refine zMet_of (by decide +kernel) (Nat.le_of_ble_eq_true rfl) (fun D cT ad sz => ?_)
  show Wm (fun _ _ => True) l (rmh 1) RX1 cX1_haveTwoKeys 6 (some .boolean) D cT ad Lc (zA ad Lc.length sz) (zZ (fun D cT ad L sz => zQi D cT ad L sz (pP σ (zp (twoK σ n m k)))) D cT ad Lc sz) [] 0 (lv_args 0 [.ref 1, .int m, .int (nI k)]) [] σ 0 0
  have lp : ∀ (q9 j : Nat) (f : Int32), n - j = q9 → j ≤ n → twI σ m k j f → Wm (fun _ _ => True) l (rmh 1) RX1 cX1_haveTwoKeys 6 (some .boolean) D cT ad Lc (zA ad Lc.length sz) (zZ (fun D cT ad L sz => zQi D cT ad L sz (pP σ (zp (twoK σ n m k)))) D cT ad Lc sz) [] 5 [(0, .ref 1), (1, .int m), (2, .int (nI k)), (3, .int f), (4, .int (nI j))] [] σ 0 0 := by
    intro q9
    induction q9 using Nat.strongRecOn with
    | ind q9 ih =>
      intro j f hm hj hinv
      refine wm_iload 7 rfl dX1_haveTwoKeys_5 rfl ?_
      refine wm_aload_n 8 rfl dX1_haveTwoKeys_7 rfl rfl ?_
      refine wm_getI 11 rfl dX1_haveTwoKeys_8 gf_X1_36_0 rfl rfl ?_
      refine wm_icmp_ge 76 14 rfl (by decide) dX1_haveTwoKeys_11 (fun c11 => ?_) (fun c11 => ?_)
      · rw [hI.1] at c11
        have g : j = n := by have := le_of_nI c11 (by omega) (by omega); omega
        refine wm_iconst (v := 0) 77 rfl dX1_haveTwoKeys_76 (by decide) ?_
        exact wm_iret dX1_haveTwoKeys_77 (by first | rfl | exact zp_nar) (pP_i (zp_f (by subst g; exact twI_end hinv)))
      · rw [hI.1] at c11
        have g : j < n := lt_of_nnI c11 (by omega) (by omega)
        refine wm_iload 16 rfl dX1_haveTwoKeys_14 rfl ?_
        refine wm_iload_n 17 rfl dX1_haveTwoKeys_16 rfl rfl ?_
        refine wm_callSi (ty := .boolean) 20 rfl dX1_haveTwoKeys_17 (k_X1_isIn l m (i := j) (by omega)) ca_X1_isIn aw_8_1 aw_8_0 ⟨Nat.le_of_ble_eq_true rfl, Nat.le_of_ble_eq_true rfl⟩ (Nat.le_of_ble_eq_true rfl) ⟨Nat.zero_le _, Nat.zero_le _⟩ ?_
        rintro r9 σ9 ⟨rfl, rfl⟩
        refine wm_if_eq 35 23 rfl (by decide) dX1_haveTwoKeys_20 (fun c20 => ?_) (fun c20 => ?_)
        · refine wm_iconst (v := (-1)) 36 rfl dX1_haveTwoKeys_35 (by decide) ?_
          refine wm_istore (ls' := [(5, _), (0, _), (1, _), (2, _), (3, _), (4, _)]) 38 rfl dX1_haveTwoKeys_36 (by decide) rfl ?_
          refine wm_iload 40 rfl dX1_haveTwoKeys_38 rfl ?_
          refine wm_iconst (v := (-1)) 41 rfl dX1_haveTwoKeys_40 (by decide) ?_
          refine wm_icmp_eq 57 44 rfl (by decide) dX1_haveTwoKeys_41 (fun c41 => ?_) (fun c41 => ?_)
          · refine wm_iload 59 rfl dX1_haveTwoKeys_57 rfl ?_
            refine wm_iconst (v := (-1)) 60 rfl dX1_haveTwoKeys_59 (by decide) ?_
            refine wm_icmp_ne 67 63 rfl (by decide) dX1_haveTwoKeys_60 (fun c60 => ?_) (fun c60 => ?_)
            · refine wm_iload 69 rfl dX1_haveTwoKeys_67 rfl ?_
              refine wm_istore_n (ls' := [(3, _), (5, _), (0, _), (1, _), (2, _), (4, _)]) 70 rfl dX1_haveTwoKeys_69 rfl (by decide) rfl ?_
              refine wm_iinc (ls' := [(4, _), (3, _), (5, _), (0, _), (1, _), (2, _)]) 73 rfl dX1_haveTwoKeys_70 rfl (nI_inc _) (by decide) rfl ?_
              refine wm_goto 5 (by decide) dX1_haveTwoKeys_73 ?_
              refine wm_loc (ls2 := [(0, _), (1, _), (2, _), (3, _), (4, _)]) [3, 4, 5, 1, 0] rfl ?_
              refine ih (n - (j + 1)) (by omega) (j + 1) _ rfl (by omega) ?_
              first
                | exact twI_skip hinv (fun h => absurd h (zp_0.mp c20))
                | exact twI_skip hinv (fun _ => c41)
                | exact twI_same hinv c46 (zp_n.mp c20) c52
                | exact (by rw [c52]; exact twI_same hinv c46 (zp_n.mp c20) c52)
                | exact twI_first (c46 ▸ hinv) (zp_n.mp c20) c41
                | exact absurd rfl c60
                | exact absurd rfl c41
                | exact absurd c60 (by assumption)
                | exact absurd (by assumption) c60
            · refine wm_iload_n 64 rfl dX1_haveTwoKeys_63 rfl rfl ?_
              refine wm_goto 69 (by decide) dX1_haveTwoKeys_64 ?_
              refine wm_istore_n (ls' := [(3, _), (5, _), (0, _), (1, _), (2, _), (4, _)]) 70 rfl dX1_haveTwoKeys_69 rfl (by decide) rfl ?_
              refine wm_iinc (ls' := [(4, _), (3, _), (5, _), (0, _), (1, _), (2, _)]) 73 rfl dX1_haveTwoKeys_70 rfl (nI_inc _) (by decide) rfl ?_
              refine wm_goto 5 (by decide) dX1_haveTwoKeys_73 ?_
              refine wm_loc (ls2 := [(0, _), (1, _), (2, _), (3, _), (4, _)]) [3, 4, 5, 1, 0] rfl ?_
              refine ih (n - (j + 1)) (by omega) (j + 1) _ rfl (by omega) ?_
              first
                | exact twI_skip hinv (fun h => absurd h (zp_0.mp c20))
                | exact twI_skip hinv (fun _ => c41)
                | exact twI_same hinv c46 (zp_n.mp c20) c52
                | exact (by rw [c52]; exact twI_same hinv c46 (zp_n.mp c20) c52)
                | exact twI_first (c46 ▸ hinv) (zp_n.mp c20) c41
                | exact absurd rfl c60
                | exact absurd rfl c41
                | exact absurd c60 (by assumption)
                | exact absurd (by assumption) c60
          · refine wm_iload_n 45 rfl dX1_haveTwoKeys_44 rfl rfl ?_
            refine wm_iconst (v := (-1)) 46 rfl dX1_haveTwoKeys_45 (by decide) ?_
            refine wm_icmp_eq 57 49 rfl (by decide) dX1_haveTwoKeys_46 (fun c46 => ?_) (fun c46 => ?_)
            · refine wm_iload 59 rfl dX1_haveTwoKeys_57 rfl ?_
              refine wm_iconst (v := (-1)) 60 rfl dX1_haveTwoKeys_59 (by decide) ?_
              refine wm_icmp_ne 67 63 rfl (by decide) dX1_haveTwoKeys_60 (fun c60 => ?_) (fun c60 => ?_)
              · refine wm_iload 69 rfl dX1_haveTwoKeys_67 rfl ?_
                refine wm_istore_n (ls' := [(3, _), (5, _), (0, _), (1, _), (2, _), (4, _)]) 70 rfl dX1_haveTwoKeys_69 rfl (by decide) rfl ?_
                refine wm_iinc (ls' := [(4, _), (3, _), (5, _), (0, _), (1, _), (2, _)]) 73 rfl dX1_haveTwoKeys_70 rfl (nI_inc _) (by decide) rfl ?_
                refine wm_goto 5 (by decide) dX1_haveTwoKeys_73 ?_
                refine wm_loc (ls2 := [(0, _), (1, _), (2, _), (3, _), (4, _)]) [3, 4, 5, 1, 0] rfl ?_
                refine ih (n - (j + 1)) (by omega) (j + 1) _ rfl (by omega) ?_
                first
                  | exact twI_skip hinv (fun h => absurd h (zp_0.mp c20))
                  | exact twI_skip hinv (fun _ => c41)
                  | exact twI_same hinv c46 (zp_n.mp c20) c52
                  | exact (by rw [c52]; exact twI_same hinv c46 (zp_n.mp c20) c52)
                  | exact twI_first (c46 ▸ hinv) (zp_n.mp c20) c41
                  | exact absurd rfl c60
                  | exact absurd rfl c41
                  | exact absurd c60 (by assumption)
                  | exact absurd (by assumption) c60
              · refine wm_iload_n 64 rfl dX1_haveTwoKeys_63 rfl rfl ?_
                refine wm_goto 69 (by decide) dX1_haveTwoKeys_64 ?_
                refine wm_istore_n (ls' := [(3, _), (5, _), (0, _), (1, _), (2, _), (4, _)]) 70 rfl dX1_haveTwoKeys_69 rfl (by decide) rfl ?_
                refine wm_iinc (ls' := [(4, _), (3, _), (5, _), (0, _), (1, _), (2, _)]) 73 rfl dX1_haveTwoKeys_70 rfl (nI_inc _) (by decide) rfl ?_
                refine wm_goto 5 (by decide) dX1_haveTwoKeys_73 ?_
                refine wm_loc (ls2 := [(0, _), (1, _), (2, _), (3, _), (4, _)]) [3, 4, 5, 1, 0] rfl ?_
                refine ih (n - (j + 1)) (by omega) (j + 1) _ rfl (by omega) ?_
                first
                  | exact twI_skip hinv (fun h => absurd h (zp_0.mp c20))
                  | exact twI_skip hinv (fun _ => c41)
                  | exact twI_same hinv c46 (zp_n.mp c20) c52
                  | exact (by rw [c52]; exact twI_same hinv c46 (zp_n.mp c20) c52)
                  | exact twI_first (c46 ▸ hinv) (zp_n.mp c20) c41
                  | exact absurd rfl c60
                  | exact absurd rfl c41
                  | exact absurd c60 (by assumption)
                  | exact absurd (by assumption) c60
            · refine wm_iload 51 rfl dX1_haveTwoKeys_49 rfl ?_
              refine wm_iload_n 52 rfl dX1_haveTwoKeys_51 rfl rfl ?_
              refine wm_icmp_eq 57 55 rfl (by decide) dX1_haveTwoKeys_52 (fun c52 => ?_) (fun c52 => ?_)
              · refine wm_iload 59 rfl dX1_haveTwoKeys_57 rfl ?_
                refine wm_iconst (v := (-1)) 60 rfl dX1_haveTwoKeys_59 (by decide) ?_
                refine wm_icmp_ne 67 63 rfl (by decide) dX1_haveTwoKeys_60 (fun c60 => ?_) (fun c60 => ?_)
                · refine wm_iload 69 rfl dX1_haveTwoKeys_67 rfl ?_
                  refine wm_istore_n (ls' := [(3, _), (5, _), (0, _), (1, _), (2, _), (4, _)]) 70 rfl dX1_haveTwoKeys_69 rfl (by decide) rfl ?_
                  refine wm_iinc (ls' := [(4, _), (3, _), (5, _), (0, _), (1, _), (2, _)]) 73 rfl dX1_haveTwoKeys_70 rfl (nI_inc _) (by decide) rfl ?_
                  refine wm_goto 5 (by decide) dX1_haveTwoKeys_73 ?_
                  refine wm_loc (ls2 := [(0, _), (1, _), (2, _), (3, _), (4, _)]) [3, 4, 5, 1, 0] rfl ?_
                  refine ih (n - (j + 1)) (by omega) (j + 1) _ rfl (by omega) ?_
                  first
                    | exact twI_skip hinv (fun h => absurd h (zp_0.mp c20))
                    | exact twI_skip hinv (fun _ => c41)
                    | exact twI_same hinv c46 (zp_n.mp c20) c52
                    | exact (by rw [c52]; exact twI_same hinv c46 (zp_n.mp c20) c52)
                    | exact twI_first (c46 ▸ hinv) (zp_n.mp c20) c41
                    | exact absurd rfl c60
                    | exact absurd rfl c41
                    | exact absurd c60 (by assumption)
                    | exact absurd (by assumption) c60
                · refine wm_iload_n 64 rfl dX1_haveTwoKeys_63 rfl rfl ?_
                  refine wm_goto 69 (by decide) dX1_haveTwoKeys_64 ?_
                  refine wm_istore_n (ls' := [(3, _), (5, _), (0, _), (1, _), (2, _), (4, _)]) 70 rfl dX1_haveTwoKeys_69 rfl (by decide) rfl ?_
                  refine wm_iinc (ls' := [(4, _), (3, _), (5, _), (0, _), (1, _), (2, _)]) 73 rfl dX1_haveTwoKeys_70 rfl (nI_inc _) (by decide) rfl ?_
                  refine wm_goto 5 (by decide) dX1_haveTwoKeys_73 ?_
                  refine wm_loc (ls2 := [(0, _), (1, _), (2, _), (3, _), (4, _)]) [3, 4, 5, 1, 0] rfl ?_
                  refine ih (n - (j + 1)) (by omega) (j + 1) _ rfl (by omega) ?_
                  first
                    | exact twI_skip hinv (fun h => absurd h (zp_0.mp c20))
                    | exact twI_skip hinv (fun _ => c41)
                    | exact twI_same hinv c46 (zp_n.mp c20) c52
                    | exact (by rw [c52]; exact twI_same hinv c46 (zp_n.mp c20) c52)
                    | exact twI_first (c46 ▸ hinv) (zp_n.mp c20) c41
                    | exact absurd rfl c60
                    | exact absurd rfl c41
                    | exact absurd c60 (by assumption)
                    | exact absurd (by assumption) c60
              · refine wm_iconst (v := 1) 56 rfl dX1_haveTwoKeys_55 (by decide) ?_
                exact wm_iret dX1_haveTwoKeys_56 (by first | rfl | exact zp_nar) (pP_i (zp_t (by first | exact twI_two hinv g c46 (zp_n.mp c20) c41 c52 | exact absurd rfl c41)))
        · refine wm_aload_n 24 rfl dX1_haveTwoKeys_23 rfl rfl ?_
          refine wm_getR 27 rfl dX1_haveTwoKeys_24 gf_X1_23_0 rfl rfl ?_
          refine wm_iload_n 28 rfl dX1_haveTwoKeys_27 rfl rfl ?_
          refine wm_aaload (r := 7 + k) 29 rfl dX1_haveTwoKeys_28 rfl (vp_in_nI hk (by omega)) (by rw [nI_clamp (by omega)]) ?_
          refine wm_iload 31 rfl dX1_haveTwoKeys_29 rfl ?_
          refine wm_iaload 32 rfl dX1_haveTwoKeys_31 (Lc_key hk) (in24 g h24) ?_
          rw [nI_clamp (by omega)]
          refine wm_goto 36 (by decide) dX1_haveTwoKeys_32 ?_
          refine wm_istore (ls' := [(5, _), (0, _), (1, _), (2, _), (3, _), (4, _)]) 38 rfl dX1_haveTwoKeys_36 (by decide) rfl ?_
          refine wm_iload 40 rfl dX1_haveTwoKeys_38 rfl ?_
          refine wm_iconst (v := (-1)) 41 rfl dX1_haveTwoKeys_40 (by decide) ?_
          refine wm_icmp_eq 57 44 rfl (by decide) dX1_haveTwoKeys_41 (fun c41 => ?_) (fun c41 => ?_)
          · refine wm_iload 59 rfl dX1_haveTwoKeys_57 rfl ?_
            refine wm_iconst (v := (-1)) 60 rfl dX1_haveTwoKeys_59 (by decide) ?_
            refine wm_icmp_ne 67 63 rfl (by decide) dX1_haveTwoKeys_60 (fun c60 => ?_) (fun c60 => ?_)
            · refine wm_iload 69 rfl dX1_haveTwoKeys_67 rfl ?_
              refine wm_istore_n (ls' := [(3, _), (5, _), (0, _), (1, _), (2, _), (4, _)]) 70 rfl dX1_haveTwoKeys_69 rfl (by decide) rfl ?_
              refine wm_iinc (ls' := [(4, _), (3, _), (5, _), (0, _), (1, _), (2, _)]) 73 rfl dX1_haveTwoKeys_70 rfl (nI_inc _) (by decide) rfl ?_
              refine wm_goto 5 (by decide) dX1_haveTwoKeys_73 ?_
              refine wm_loc (ls2 := [(0, _), (1, _), (2, _), (3, _), (4, _)]) [3, 4, 5, 1, 0] rfl ?_
              refine ih (n - (j + 1)) (by omega) (j + 1) _ rfl (by omega) ?_
              first
                | exact twI_skip hinv (fun h => absurd h (zp_0.mp c20))
                | exact twI_skip hinv (fun _ => c41)
                | exact twI_same hinv c46 (zp_n.mp c20) c52
                | exact (by rw [c52]; exact twI_same hinv c46 (zp_n.mp c20) c52)
                | exact twI_first (c46 ▸ hinv) (zp_n.mp c20) c41
                | exact absurd rfl c60
                | exact absurd rfl c41
                | exact absurd c60 (by assumption)
                | exact absurd (by assumption) c60
            · refine wm_iload_n 64 rfl dX1_haveTwoKeys_63 rfl rfl ?_
              refine wm_goto 69 (by decide) dX1_haveTwoKeys_64 ?_
              refine wm_istore_n (ls' := [(3, _), (5, _), (0, _), (1, _), (2, _), (4, _)]) 70 rfl dX1_haveTwoKeys_69 rfl (by decide) rfl ?_
              refine wm_iinc (ls' := [(4, _), (3, _), (5, _), (0, _), (1, _), (2, _)]) 73 rfl dX1_haveTwoKeys_70 rfl (nI_inc _) (by decide) rfl ?_
              refine wm_goto 5 (by decide) dX1_haveTwoKeys_73 ?_
              refine wm_loc (ls2 := [(0, _), (1, _), (2, _), (3, _), (4, _)]) [3, 4, 5, 1, 0] rfl ?_
              refine ih (n - (j + 1)) (by omega) (j + 1) _ rfl (by omega) ?_
              first
                | exact twI_skip hinv (fun h => absurd h (zp_0.mp c20))
                | exact twI_skip hinv (fun _ => c41)
                | exact twI_same hinv c46 (zp_n.mp c20) c52
                | exact (by rw [c52]; exact twI_same hinv c46 (zp_n.mp c20) c52)
                | exact twI_first (c46 ▸ hinv) (zp_n.mp c20) c41
                | exact absurd rfl c60
                | exact absurd rfl c41
                | exact absurd c60 (by assumption)
                | exact absurd (by assumption) c60
          · refine wm_iload_n 45 rfl dX1_haveTwoKeys_44 rfl rfl ?_
            refine wm_iconst (v := (-1)) 46 rfl dX1_haveTwoKeys_45 (by decide) ?_
            refine wm_icmp_eq 57 49 rfl (by decide) dX1_haveTwoKeys_46 (fun c46 => ?_) (fun c46 => ?_)
            · refine wm_iload 59 rfl dX1_haveTwoKeys_57 rfl ?_
              refine wm_iconst (v := (-1)) 60 rfl dX1_haveTwoKeys_59 (by decide) ?_
              refine wm_icmp_ne 67 63 rfl (by decide) dX1_haveTwoKeys_60 (fun c60 => ?_) (fun c60 => ?_)
              · refine wm_iload 69 rfl dX1_haveTwoKeys_67 rfl ?_
                refine wm_istore_n (ls' := [(3, _), (5, _), (0, _), (1, _), (2, _), (4, _)]) 70 rfl dX1_haveTwoKeys_69 rfl (by decide) rfl ?_
                refine wm_iinc (ls' := [(4, _), (3, _), (5, _), (0, _), (1, _), (2, _)]) 73 rfl dX1_haveTwoKeys_70 rfl (nI_inc _) (by decide) rfl ?_
                refine wm_goto 5 (by decide) dX1_haveTwoKeys_73 ?_
                refine wm_loc (ls2 := [(0, _), (1, _), (2, _), (3, _), (4, _)]) [3, 4, 5, 1, 0] rfl ?_
                refine ih (n - (j + 1)) (by omega) (j + 1) _ rfl (by omega) ?_
                first
                  | exact twI_skip hinv (fun h => absurd h (zp_0.mp c20))
                  | exact twI_skip hinv (fun _ => c41)
                  | exact twI_same hinv c46 (zp_n.mp c20) c52
                  | exact (by rw [c52]; exact twI_same hinv c46 (zp_n.mp c20) c52)
                  | exact twI_first (c46 ▸ hinv) (zp_n.mp c20) c41
                  | exact absurd rfl c60
                  | exact absurd rfl c41
                  | exact absurd c60 (by assumption)
                  | exact absurd (by assumption) c60
              · refine wm_iload_n 64 rfl dX1_haveTwoKeys_63 rfl rfl ?_
                refine wm_goto 69 (by decide) dX1_haveTwoKeys_64 ?_
                refine wm_istore_n (ls' := [(3, _), (5, _), (0, _), (1, _), (2, _), (4, _)]) 70 rfl dX1_haveTwoKeys_69 rfl (by decide) rfl ?_
                refine wm_iinc (ls' := [(4, _), (3, _), (5, _), (0, _), (1, _), (2, _)]) 73 rfl dX1_haveTwoKeys_70 rfl (nI_inc _) (by decide) rfl ?_
                refine wm_goto 5 (by decide) dX1_haveTwoKeys_73 ?_
                refine wm_loc (ls2 := [(0, _), (1, _), (2, _), (3, _), (4, _)]) [3, 4, 5, 1, 0] rfl ?_
                refine ih (n - (j + 1)) (by omega) (j + 1) _ rfl (by omega) ?_
                first
                  | exact twI_skip hinv (fun h => absurd h (zp_0.mp c20))
                  | exact twI_skip hinv (fun _ => c41)
                  | exact twI_same hinv c46 (zp_n.mp c20) c52
                  | exact (by rw [c52]; exact twI_same hinv c46 (zp_n.mp c20) c52)
                  | exact twI_first (c46 ▸ hinv) (zp_n.mp c20) c41
                  | exact absurd rfl c60
                  | exact absurd rfl c41
                  | exact absurd c60 (by assumption)
                  | exact absurd (by assumption) c60
            · refine wm_iload 51 rfl dX1_haveTwoKeys_49 rfl ?_
              refine wm_iload_n 52 rfl dX1_haveTwoKeys_51 rfl rfl ?_
              refine wm_icmp_eq 57 55 rfl (by decide) dX1_haveTwoKeys_52 (fun c52 => ?_) (fun c52 => ?_)
              · refine wm_iload 59 rfl dX1_haveTwoKeys_57 rfl ?_
                refine wm_iconst (v := (-1)) 60 rfl dX1_haveTwoKeys_59 (by decide) ?_
                refine wm_icmp_ne 67 63 rfl (by decide) dX1_haveTwoKeys_60 (fun c60 => ?_) (fun c60 => ?_)
                · refine wm_iload 69 rfl dX1_haveTwoKeys_67 rfl ?_
                  refine wm_istore_n (ls' := [(3, _), (5, _), (0, _), (1, _), (2, _), (4, _)]) 70 rfl dX1_haveTwoKeys_69 rfl (by decide) rfl ?_
                  refine wm_iinc (ls' := [(4, _), (3, _), (5, _), (0, _), (1, _), (2, _)]) 73 rfl dX1_haveTwoKeys_70 rfl (nI_inc _) (by decide) rfl ?_
                  refine wm_goto 5 (by decide) dX1_haveTwoKeys_73 ?_
                  refine wm_loc (ls2 := [(0, _), (1, _), (2, _), (3, _), (4, _)]) [3, 4, 5, 1, 0] rfl ?_
                  refine ih (n - (j + 1)) (by omega) (j + 1) _ rfl (by omega) ?_
                  first
                    | exact twI_skip hinv (fun h => absurd h (zp_0.mp c20))
                    | exact twI_skip hinv (fun _ => c41)
                    | exact twI_same hinv c46 (zp_n.mp c20) c52
                    | exact (by rw [c52]; exact twI_same hinv c46 (zp_n.mp c20) c52)
                    | exact twI_first (c46 ▸ hinv) (zp_n.mp c20) c41
                    | exact absurd rfl c60
                    | exact absurd rfl c41
                    | exact absurd c60 (by assumption)
                    | exact absurd (by assumption) c60
                · refine wm_iload_n 64 rfl dX1_haveTwoKeys_63 rfl rfl ?_
                  refine wm_goto 69 (by decide) dX1_haveTwoKeys_64 ?_
                  refine wm_istore_n (ls' := [(3, _), (5, _), (0, _), (1, _), (2, _), (4, _)]) 70 rfl dX1_haveTwoKeys_69 rfl (by decide) rfl ?_
                  refine wm_iinc (ls' := [(4, _), (3, _), (5, _), (0, _), (1, _), (2, _)]) 73 rfl dX1_haveTwoKeys_70 rfl (nI_inc _) (by decide) rfl ?_
                  refine wm_goto 5 (by decide) dX1_haveTwoKeys_73 ?_
                  refine wm_loc (ls2 := [(0, _), (1, _), (2, _), (3, _), (4, _)]) [3, 4, 5, 1, 0] rfl ?_
                  refine ih (n - (j + 1)) (by omega) (j + 1) _ rfl (by omega) ?_
                  first
                    | exact twI_skip hinv (fun h => absurd h (zp_0.mp c20))
                    | exact twI_skip hinv (fun _ => c41)
                    | exact twI_same hinv c46 (zp_n.mp c20) c52
                    | exact (by rw [c52]; exact twI_same hinv c46 (zp_n.mp c20) c52)
                    | exact twI_first (c46 ▸ hinv) (zp_n.mp c20) c41
                    | exact absurd rfl c60
                    | exact absurd rfl c41
                    | exact absurd c60 (by assumption)
                    | exact absurd (by assumption) c60
              · refine wm_iconst (v := 1) 56 rfl dX1_haveTwoKeys_55 (by decide) ?_
                exact wm_iret dX1_haveTwoKeys_56 (by first | rfl | exact zp_nar) (pP_i (zp_t (by first | exact twI_two hinv g c46 (zp_n.mp c20) c41 c52 | exact absurd rfl c41)))
  refine wm_iconst (v := (-1)) 1 rfl dX1_haveTwoKeys_0 (by decide) ?_
  refine wm_istore_n (ls' := [(3, _), (0, _), (1, _), (2, _)]) 2 rfl dX1_haveTwoKeys_1 rfl (by decide) rfl ?_
  refine wm_iconst (v := 0) 3 rfl dX1_haveTwoKeys_2 (by decide) ?_
  refine wm_istore (ls' := [(4, _), (3, _), (0, _), (1, _), (2, _)]) 5 rfl dX1_haveTwoKeys_3 (by decide) rfl ?_
  refine wm_loc (ls2 := [(0, _), (1, _), (2, _), (3, _), (4, _)]) [2, 3, 4, 1, 0] rfl ?_
  exact lp n 0 (-1) rfl (Nat.zero_le _) (Or.inl ⟨rfl, fun i hi => absurd hi (Nat.not_lt_zero i)⟩)
theorem k_X1_haveForbiddenPair (l : Launch) {σ : Sg} {n : Nat} (hI : cI σ n) (m : Int32) : cMi l yX1_haveForbiddenPair cX1_haveForbiddenPair 3 .boolean 1 Lc [.ref 1, .int m] σ (pP σ (zp (fbP σ n m))) := by
  have h24 := hI.2
  refine zMet_of (by decide +kernel) (Nat.le_of_ble_eq_true rfl) (fun D cT ad sz => ?_)
  show Wm (fun _ _ => True) l (rmh 1) RX1 cX1_haveForbiddenPair 3 (some .boolean) D cT ad Lc (zA ad Lc.length sz) (zZ (fun D cT ad L sz => zQi D cT ad L sz (pP σ (zp (fbP σ n m)))) D cT ad Lc sz) [] 0 (lv_args 0 [.ref 1, .int m]) [] σ 0 0
  have lp : ∀ (q9 j : Nat), n - j = q9 → j ≤ n → (∀ i, i < j → ¬ (tb m i = true ∧ ¬ (σ 13 i &&& m = 0))) → Wm (fun _ _ => True) l (rmh 1) RX1 cX1_haveForbiddenPair 3 (some .boolean) D cT ad Lc (zA ad Lc.length sz) (zZ (fun D cT ad L sz => zQi D cT ad L sz (pP σ (zp (fbP σ n m)))) D cT ad Lc sz) [] 2 [(0, .ref 1), (1, .int m), (2, .int (nI j))] [] σ 0 0 := by
    intro q9
    induction q9 using Nat.strongRecOn with
    | ind q9 ih =>
      intro j  hm hj hinv
      refine wm_iload_n 3 rfl dX1_haveForbiddenPair_2 rfl rfl ?_
      refine wm_aload_n 4 rfl dX1_haveForbiddenPair_3 rfl rfl ?_
      refine wm_getI 7 rfl dX1_haveForbiddenPair_4 gf_X1_36_0 rfl rfl ?_
      refine wm_icmp_ge 37 10 rfl (by decide) dX1_haveForbiddenPair_7 (fun c7 => ?_) (fun c7 => ?_)
      · rw [hI.1] at c7
        have g : j = n := by have := le_of_nI c7 (by omega) (by omega); omega
        refine wm_iconst (v := 0) 38 rfl dX1_haveForbiddenPair_37 (by decide) ?_
        exact wm_iret dX1_haveForbiddenPair_38 (by first | rfl | exact zp_nar) (pP_i (zp_f (by subst g; rintro ⟨a, h1, h2⟩; exact hinv a h1 h2)))
      · rw [hI.1] at c7
        have g : j < n := lt_of_nnI c7 (by omega) (by omega)
        refine wm_iload_n 11 rfl dX1_haveForbiddenPair_10 rfl rfl ?_
        refine wm_iload_n 12 rfl dX1_haveForbiddenPair_11 rfl rfl ?_
        refine wm_callSi (ty := .boolean) 15 rfl dX1_haveForbiddenPair_12 (k_X1_isIn l m (i := j) (by omega)) ca_X1_isIn aw_8_1 aw_8_0 ⟨Nat.le_of_ble_eq_true rfl, Nat.le_of_ble_eq_true rfl⟩ (Nat.le_of_ble_eq_true rfl) ⟨Nat.zero_le _, Nat.zero_le _⟩ ?_
        rintro r9 σ9 ⟨rfl, rfl⟩
        refine wm_if_eq 31 18 rfl (by decide) dX1_haveForbiddenPair_15 (fun c15 => ?_) (fun c15 => ?_)
        · refine wm_iinc (ls' := [(2, _), (0, _), (1, _)]) 34 rfl dX1_haveForbiddenPair_31 rfl (nI_inc _) (by decide) rfl ?_
          refine wm_goto 2 (by decide) dX1_haveForbiddenPair_34 ?_
          refine wm_loc (ls2 := [(0, _), (1, _), (2, _)]) [1, 2, 0] rfl ?_
          refine ih (n - (j + 1)) (by omega) (j + 1) rfl (by omega) (lt_s hinv ?_)
          first
            | exact fun h => zp_0.mp c15 h.1
            | exact fun h => h.2 c26
        · refine wm_aload_n 19 rfl dX1_haveForbiddenPair_18 rfl rfl ?_
          refine wm_getR 22 rfl dX1_haveForbiddenPair_19 gf_X1_29_0 rfl rfl ?_
          refine wm_iload_n 23 rfl dX1_haveForbiddenPair_22 rfl rfl ?_
          refine wm_iaload 24 rfl dX1_haveForbiddenPair_23 rfl (in24 g h24) ?_
          refine wm_iload_n 25 rfl dX1_haveForbiddenPair_24 rfl rfl ?_
          refine wm_iand 26 rfl dX1_haveForbiddenPair_25 ?_
          refine wm_if_eq 31 29 rfl (by decide) dX1_haveForbiddenPair_26 (fun c26 => ?_) (fun c26 => ?_)
          · rw [nI_clamp (by omega)] at c26
            refine wm_iinc (ls' := [(2, _), (0, _), (1, _)]) 34 rfl dX1_haveForbiddenPair_31 rfl (nI_inc _) (by decide) rfl ?_
            refine wm_goto 2 (by decide) dX1_haveForbiddenPair_34 ?_
            refine wm_loc (ls2 := [(0, _), (1, _), (2, _)]) [1, 2, 0] rfl ?_
            refine ih (n - (j + 1)) (by omega) (j + 1) rfl (by omega) (lt_s hinv ?_)
            first
              | exact fun h => zp_0.mp c15 h.1
              | exact fun h => h.2 c26
          · rw [nI_clamp (by omega)] at c26
            refine wm_iconst (v := 1) 30 rfl dX1_haveForbiddenPair_29 (by decide) ?_
            exact wm_iret dX1_haveForbiddenPair_30 (by first | rfl | exact zp_nar) (pP_i (zp_t ⟨j, g, zp_n.mp c15, c26⟩))
  refine wm_iconst (v := 0) 1 rfl dX1_haveForbiddenPair_0 (by decide) ?_
  refine wm_istore_n (ls' := [(2, _), (0, _), (1, _)]) 2 rfl dX1_haveForbiddenPair_1 rfl (by decide) rfl ?_
  refine wm_loc (ls2 := [(0, _), (1, _), (2, _)]) [1, 2, 0] rfl ?_
  exact lp n 0 rfl (Nat.zero_le _) (fun i hi => absurd hi (Nat.not_lt_zero i))
theorem k_X1_mayJoin (l : Launch) {σ : Sg} {n : Nat} (hI : cI σ n) (m : Int32) {k : Nat} (hk : k < 3) : cMi l yX1_mayJoin cX1_mayJoin 4 .boolean 2 Lc [.ref 1, .int m, .int (nI k)] σ (pP σ (zp (mjP σ n m k))) := by
  have h24 := hI.2
  refine zMet_of (by decide +kernel) (Nat.le_of_ble_eq_true rfl) (fun D cT ad sz => ?_)
  show Wm (fun _ _ => True) l (rmh 2) RX1 cX1_mayJoin 4 (some .boolean) D cT ad Lc (zA ad Lc.length sz) (zZ (fun D cT ad L sz => zQi D cT ad L sz (pP σ (zp (mjP σ n m k)))) D cT ad Lc sz) [] 0 (lv_args 0 [.ref 1, .int m, .int (nI k)]) [] σ 0 0
  have lp : ∀ (q9 j : Nat), k - j = q9 → j ≤ k → (∀ s, s < j → ¬ twoK σ n m s) → Wm (fun _ _ => True) l (rmh 2) RX1 cX1_mayJoin 4 (some .boolean) D cT ad Lc (zA ad Lc.length sz) (zZ (fun D cT ad L sz => zQi D cT ad L sz (pP σ (zp (mjP σ n m k)))) D cT ad Lc sz) [] 2 [(0, .ref 1), (1, .int m), (2, .int (nI k)), (3, .int (nI j))] [] σ 0 0 := by
    intro q9
    induction q9 using Nat.strongRecOn with
    | ind q9 ih =>
      intro j  hm hj hinv
      refine wm_iload_n 3 rfl dX1_mayJoin_2 rfl rfl ?_
      refine wm_iload_n 4 rfl dX1_mayJoin_3 rfl rfl ?_
      refine wm_icmp_ge 24 7 rfl (by decide) dX1_mayJoin_4 (fun c4 => ?_) (fun c4 => ?_)
      · have g : j = k := by have := le_of_nI c4 (by omega) (by omega); omega
        refine wm_aload_n 25 rfl dX1_mayJoin_24 rfl rfl ?_
        refine wm_iload_n 26 rfl dX1_mayJoin_25 rfl rfl ?_
        refine wm_callVi (ty := .boolean) 29 rfl dX1_mayJoin_26 (k_X1_haveForbiddenPair l hI m) ca_X1_haveForbiddenPair cv_X1_haveForbiddenPair rfl aw_8_3 rfl rfl ⟨Nat.le_of_ble_eq_true rfl, Nat.le_of_ble_eq_true rfl⟩ (Nat.le_of_ble_eq_true rfl) ⟨Nat.zero_le _, Nat.zero_le _⟩ ?_
        rintro r9 σ9 ⟨rfl, rfl⟩
        refine wm_if_ne 36 32 rfl (by decide) dX1_mayJoin_29 (fun c29 => ?_) (fun c29 => ?_)
        · refine wm_iconst (v := 0) 37 rfl dX1_mayJoin_36 (by decide) ?_
          exact wm_iret dX1_mayJoin_37 (by first | rfl | exact zp_nar) (pP_i (zp_f (fun h => h.2 (zp_n.mp c29))))
        · refine wm_iconst (v := 1) 33 rfl dX1_mayJoin_32 (by decide) ?_
          refine wm_goto 37 (by decide) dX1_mayJoin_33 ?_
          exact wm_iret dX1_mayJoin_37 (by first | rfl | exact zp_nar) (pP_i (zp_t ⟨by subst g; exact hinv, zp_0.mp c29⟩))
      · have g : j < k := lt_of_nnI c4 (by omega) (by omega)
        refine wm_aload_n 8 rfl dX1_mayJoin_7 rfl rfl ?_
        refine wm_iload_n 9 rfl dX1_mayJoin_8 rfl rfl ?_
        refine wm_iload_n 10 rfl dX1_mayJoin_9 rfl rfl ?_
        refine wm_callVi (ty := .boolean) 13 rfl dX1_mayJoin_10 (k_X1_haveTwoKeys l hI m (k := j) (by omega)) ca_X1_haveTwoKeys cv_X1_haveTwoKeys rfl aw_7_20 rfl rfl ⟨Nat.le_of_ble_eq_true rfl, Nat.le_of_ble_eq_true rfl⟩ (Nat.le_of_ble_eq_true rfl) ⟨Nat.zero_le _, Nat.zero_le _⟩ ?_
        rintro r9 σ9 ⟨rfl, rfl⟩
        refine wm_if_eq 18 16 rfl (by decide) dX1_mayJoin_13 (fun c13 => ?_) (fun c13 => ?_)
        · refine wm_iinc (ls' := [(3, _), (0, _), (1, _), (2, _)]) 21 rfl dX1_mayJoin_18 rfl (nI_inc _) (by decide) rfl ?_
          refine wm_goto 2 (by decide) dX1_mayJoin_21 ?_
          refine wm_loc (ls2 := [(0, _), (1, _), (2, _), (3, _)]) [1, 2, 3, 0] rfl ?_
          exact ih (k - (j + 1)) (by omega) (j + 1) rfl (by omega) (lt_s hinv (zp_0.mp c13))
        · refine wm_iconst (v := 0) 17 rfl dX1_mayJoin_16 (by decide) ?_
          exact wm_iret dX1_mayJoin_17 (by first | rfl | exact zp_nar) (pP_i (zp_f (fun h => h.1 j g (zp_n.mp c13))))
  refine wm_iconst (v := 0) 1 rfl dX1_mayJoin_0 (by decide) ?_
  refine wm_istore_n (ls' := [(3, _), (0, _), (1, _), (2, _)]) 2 rfl dX1_mayJoin_1 rfl (by decide) rfl ?_
  refine wm_loc (ls2 := [(0, _), (1, _), (2, _), (3, _)]) [1, 2, 3, 0] rfl ?_
  exact lp k 0 rfl (Nat.zero_le _) (fun i hi => absurd hi (Nat.not_lt_zero i))
/-- the weight, and who goes first, in the machine's own numbers -/
def wg (σ : Sg) (a : Nat) (d : Int32) : Int32 := σ 2 (σ 3 a).toNatClampNeg - (d - σ 4 a) / 10
def ahP (w1 w2 s1 s2 : Int32) (a b : Nat) : Prop := (w1 ≠ w2 ∧ w2 < w1) ∨ (w1 = w2 ∧ ((s1 ≠ s2 ∧ s2 < s1) ∨ (s1 = s2 ∧ b < a)))
def cS (σ : Sg) (n : Nat) : Prop := ∀ a, a < n → ∃ s, s < 4 ∧ σ 3 a = nI s
theorem lt_of_nIlt {a b : Nat} (h : nI a < nI b) (ha : a < 2 ^ 31) (hb : b < 2 ^ 31) : a < b := (nI_ltI ha hb).mp h
theorem k_X1_weigh (l : Launch) {σ : Sg} {n : Nat} (h24 : n ≤ 24) (hS : cS σ n) {a : Nat} (ha : a < n) (d : Int32) : cMi l yX1_weigh cX1_weigh 3 .int 0 Lc [.ref 1, .int (nI a), .int d] σ (pP σ (wg σ a d)) := by
  refine zMet_of (by decide +kernel) (Nat.le_of_ble_eq_true rfl) (fun D cT ad sz => ?_)
  show Wm (fun _ _ => True) l (rmh 0) RX1 cX1_weigh 3 (some .int) D cT ad Lc (zA ad Lc.length sz) (zZ (fun D cT ad L sz => zQi D cT ad L sz (pP σ (wg σ a d))) D cT ad Lc sz) [] 0 (lv_args 0 [.ref 1, .int (nI a), .int d]) [] σ 0 0
  refine wm_aload_n 1 rfl dX1_weigh_0 rfl rfl ?_
  refine wm_getR 4 rfl dX1_weigh_1 gf_X1_9_0 rfl rfl ?_
  refine wm_aload_n 5 rfl dX1_weigh_4 rfl rfl ?_
  refine wm_getR 8 rfl dX1_weigh_5 gf_X1_15_0 rfl rfl ?_
  refine wm_iload_n 9 rfl dX1_weigh_8 rfl rfl ?_
  refine wm_iaload 10 rfl dX1_weigh_9 rfl (in24 ha h24) ?_
  rw [nI_clamp (by omega)]
  obtain ⟨s, hs, es⟩ := hS a ha
  refine wm_iaload 11 rfl dX1_weigh_10 rfl (by rw [es]; exact vp_in_nI hs (by omega)) ?_
  refine wm_iload_n 12 rfl dX1_weigh_11 rfl rfl ?_
  refine wm_aload_n 13 rfl dX1_weigh_12 rfl rfl ?_
  refine wm_getR 16 rfl dX1_weigh_13 gf_X1_18_0 rfl rfl ?_
  refine wm_iload_n 17 rfl dX1_weigh_16 rfl rfl ?_
  refine wm_iaload 18 rfl dX1_weigh_17 rfl (in24 ha h24) ?_
  rw [nI_clamp (by omega)]
  refine wm_isub 19 rfl dX1_weigh_18 ?_
  refine wm_bipush (v := 10) 21 rfl dX1_weigh_19 (by decide) ?_
  refine wm_idiv 22 rfl dX1_weigh_21 (by decide) ?_
  refine wm_isub 23 rfl dX1_weigh_22 ?_
  exact wm_iret dX1_weigh_23 (by first | rfl | exact zp_nar) ⟨rfl, rfl⟩
theorem k_X1_isAhead (l : Launch) {σ : Sg} {n : Nat} (h24 : n ≤ 24) (hS : cS σ n) {a b : Nat} (ha : a < n) (hb : b < n) (d : Int32) : cMi l yX1_isAhead cX1_isAhead 6 .boolean 1 Lc [.ref 1, .int (nI a), .int (nI b), .int d] σ (pP σ (zp (ahP (wg σ a d) (wg σ b d) (σ 4 a) (σ 4 b) a b))) := by
  refine zMet_of (by decide +kernel) (Nat.le_of_ble_eq_true rfl) (fun D cT ad sz => ?_)
  show Wm (fun _ _ => True) l (rmh 1) RX1 cX1_isAhead 6 (some .boolean) D cT ad Lc (zA ad Lc.length sz) (zZ (fun D cT ad L sz => zQi D cT ad L sz (pP σ (zp (ahP (wg σ a d) (wg σ b d) (σ 4 a) (σ 4 b) a b)))) D cT ad Lc sz) [] 0 (lv_args 0 [.ref 1, .int (nI a), .int (nI b), .int d]) [] σ 0 0
  refine wm_aload_n 1 rfl dX1_isAhead_0 rfl rfl ?_
  refine wm_iload_n 2 rfl dX1_isAhead_1 rfl rfl ?_
  refine wm_iload_n 3 rfl dX1_isAhead_2 rfl rfl ?_
  refine wm_callVi (ty := .int) 6 rfl dX1_isAhead_3 (k_X1_weigh l h24 hS ha d) ca_X1_weigh cv_X1_weigh rfl aw_14_22 rfl rfl ⟨Nat.le_of_ble_eq_true rfl, Nat.le_of_ble_eq_true rfl⟩ (Nat.le_of_ble_eq_true rfl) ⟨Nat.zero_le _, Nat.zero_le _⟩ ?_
  rintro r9 σ9 ⟨rfl, rfl⟩
  refine wm_istore (ls' := [(4, _), (0, _), (1, _), (2, _), (3, _)]) 8 rfl dX1_isAhead_6 (by decide) rfl ?_
  refine wm_aload_n 9 rfl dX1_isAhead_8 rfl rfl ?_
  refine wm_iload_n 10 rfl dX1_isAhead_9 rfl rfl ?_
  refine wm_iload_n 11 rfl dX1_isAhead_10 rfl rfl ?_
  refine wm_callVi (ty := .int) 14 rfl dX1_isAhead_11 (k_X1_weigh l h24 hS hb d) ca_X1_weigh cv_X1_weigh rfl aw_14_22 rfl rfl ⟨Nat.le_of_ble_eq_true rfl, Nat.le_of_ble_eq_true rfl⟩ (Nat.le_of_ble_eq_true rfl) ⟨Nat.zero_le _, Nat.zero_le _⟩ ?_
  rintro r9 σ9 ⟨rfl, rfl⟩
  refine wm_istore (ls' := [(5, _), (4, _), (0, _), (1, _), (2, _), (3, _)]) 16 rfl dX1_isAhead_14 (by decide) rfl ?_
  refine wm_iload 18 rfl dX1_isAhead_16 rfl ?_
  refine wm_iload 20 rfl dX1_isAhead_18 rfl ?_
  refine wm_icmp_eq 36 23 rfl (by decide) dX1_isAhead_20 (fun c20 => ?_) (fun c20 => ?_)
  · refine wm_aload_n 37 rfl dX1_isAhead_36 rfl rfl ?_
    refine wm_getR 40 rfl dX1_isAhead_37 gf_X1_18_0 rfl rfl ?_
    refine wm_iload_n 41 rfl dX1_isAhead_40 rfl rfl ?_
    refine wm_iaload 42 rfl dX1_isAhead_41 rfl (in24 (by omega) h24) ?_
    refine wm_aload_n 43 rfl dX1_isAhead_42 rfl rfl ?_
    refine wm_getR 46 rfl dX1_isAhead_43 gf_X1_18_0 rfl rfl ?_
    refine wm_iload_n 47 rfl dX1_isAhead_46 rfl rfl ?_
    refine wm_iaload 48 rfl dX1_isAhead_47 rfl (in24 (by omega) h24) ?_
    refine wm_icmp_eq 72 51 rfl (by decide) dX1_isAhead_48 (fun c48 => ?_) (fun c48 => ?_)
    · rw [nI_clamp (by omega), nI_clamp (by omega)] at c48
      refine wm_iload_n 73 rfl dX1_isAhead_72 rfl rfl ?_
      refine wm_iload_n 74 rfl dX1_isAhead_73 rfl rfl ?_
      refine wm_icmp_le 81 77 rfl (by decide) dX1_isAhead_74 (fun c74 => ?_) (fun c74 => ?_)
      · refine wm_iconst (v := 0) 82 rfl dX1_isAhead_81 (by decide) ?_
        exact wm_iret dX1_isAhead_82 (by first | rfl | exact zp_nar) (pP_i (zp_f (by have := le_of_nI c74 (by omega) (by omega); rintro (⟨h, -⟩ | ⟨-, ⟨h, -⟩ | ⟨-, h⟩⟩) <;> first | exact h c20 | exact h c48 | omega)))
      · refine wm_iconst (v := 1) 78 rfl dX1_isAhead_77 (by decide) ?_
        refine wm_goto 82 (by decide) dX1_isAhead_78 ?_
        exact wm_iret dX1_isAhead_82 (by first | rfl | exact zp_nar) (pP_i (zp_t (Or.inr ⟨c20, Or.inr ⟨c48, lt_of_nnI c74 (by omega) (by omega)⟩⟩)))
    · rw [nI_clamp (by omega), nI_clamp (by omega)] at c48
      refine wm_aload_n 52 rfl dX1_isAhead_51 rfl rfl ?_
      refine wm_getR 55 rfl dX1_isAhead_52 gf_X1_18_0 rfl rfl ?_
      refine wm_iload_n 56 rfl dX1_isAhead_55 rfl rfl ?_
      refine wm_iaload 57 rfl dX1_isAhead_56 rfl (in24 (by omega) h24) ?_
      refine wm_aload_n 58 rfl dX1_isAhead_57 rfl rfl ?_
      refine wm_getR 61 rfl dX1_isAhead_58 gf_X1_18_0 rfl rfl ?_
      refine wm_iload_n 62 rfl dX1_isAhead_61 rfl rfl ?_
      refine wm_iaload 63 rfl dX1_isAhead_62 rfl (in24 (by omega) h24) ?_
      refine wm_icmp_le 70 66 rfl (by decide) dX1_isAhead_63 (fun c63 => ?_) (fun c63 => ?_)
      · rw [nI_clamp (by omega), nI_clamp (by omega)] at c63
        refine wm_iconst (v := 0) 71 rfl dX1_isAhead_70 (by decide) ?_
        exact wm_iret dX1_isAhead_71 (by first | rfl | exact zp_nar) (pP_i (zp_f (by rintro (⟨h, -⟩ | ⟨-, ⟨-, h⟩ | ⟨h, -⟩⟩) <;> first | exact h c20 | exact fa_nle c63 h | exact c48 h)))
      · rw [nI_clamp (by omega), nI_clamp (by omega)] at c63
        refine wm_iconst (v := 1) 67 rfl dX1_isAhead_66 (by decide) ?_
        refine wm_goto 71 (by decide) dX1_isAhead_67 ?_
        exact wm_iret dX1_isAhead_71 (by first | rfl | exact zp_nar) (pP_i (zp_t (Or.inr ⟨c20, Or.inl ⟨c48, fa_nlt c63⟩⟩)))
  · refine wm_iload 25 rfl dX1_isAhead_23 rfl ?_
    refine wm_iload 27 rfl dX1_isAhead_25 rfl ?_
    refine wm_icmp_le 34 30 rfl (by decide) dX1_isAhead_27 (fun c27 => ?_) (fun c27 => ?_)
    · refine wm_iconst (v := 0) 35 rfl dX1_isAhead_34 (by decide) ?_
      exact wm_iret dX1_isAhead_35 (by first | rfl | exact zp_nar) (pP_i (zp_f (by rintro (⟨-, h⟩ | ⟨h, -⟩) <;> first | exact fa_nle c27 h | exact c20 h)))
    · refine wm_iconst (v := 1) 31 rfl dX1_isAhead_30 (by decide) ?_
      refine wm_goto 35 (by decide) dX1_isAhead_31 ?_
      exact wm_iret dX1_isAhead_35 (by first | rfl | exact zp_nar) (pP_i (zp_t (Or.inl ⟨c20, fa_nlt c27⟩)))
