theorem gf_X2_17_1 : zGF RX2 17 1 1 := ⟨RX2, TX2, 2, "Assetmerge$Joining", rfl, zin_X2, by decide, aw_5_15, Or.inr aw_5_16⟩
theorem gf_X2_7_0 : zGF RX2 7 0 8 := ⟨RX1, TX1, 10, "Assetmerge$Inventory", rfl, zin_X1, by decide, aw_5_14, Or.inl rfl⟩
theorem ca_X2_joinTwo : zCal yX2_joinTwo cX2_joinTwo 7 none 3 := ⟨aw_6_5, aw_1_21, by decide +kernel, by decide +kernel, by decide +kernel⟩
theorem cv_X2_joinTwo : zCaV RX2 yX2_joinTwo := ⟨aw_6_3, aw_6_4⟩
theorem gf_X3_15_0 : zGF RX3 15 0 8 := ⟨RX1, TX1, 10, "Assetmerge$Inventory", rfl, zin_X1, by decide, aw_6_17, Or.inl rfl⟩
theorem gf_X3_21_2 : zGF RX3 21 2 1 := ⟨RX3, TX3, 2, "Assetmerge$Spreading", rfl, zin_X3, by decide, aw_6_18, Or.inr aw_6_19⟩
theorem ca_X3_areLinked : zCal yX3_areLinked cX3_areLinked 5 (some .boolean) 4 := ⟨aw_6_23, aw_2_1, by decide +kernel, by decide +kernel, by decide +kernel⟩
theorem cv_X3_areLinked : zCaV RX3 yX3_areLinked := ⟨aw_6_21, aw_6_22⟩
theorem ca_X3_spreadOnce : zCal yX3_spreadOnce cX3_spreadOnce 6 (some .boolean) 2 := ⟨aw_6_16, aw_2_1, by decide +kernel, by decide +kernel, by decide +kernel⟩
theorem cv_X3_spreadOnce : zCaV RX3 yX3_spreadOnce := ⟨aw_6_14, aw_6_15⟩
theorem k_X2_joinTwo (l : Launch) {σ : Sg} {n : Nat} (hI : cI σ n) {c : Nat → Nat} (hc : lab σ 20 n c) {x y : Nat} (hx : x < n) (hy : y < n) : cMv l yX2_joinTwo cX2_joinTwo 7 1 Lc [.ref 15, .int (nI x), .int (nI y), .int (nI n)] σ (fun σ1 => agb 20 σ σ1 ∧ ∀ r, r < n → σ1 20 r = nI (if c r = max x y then min x y else c r)) := by
  have h24 := hI.2
  refine zMet_of (by decide +kernel) (Nat.le_of_ble_eq_true rfl) (fun D cT ad sz => ?_)
  show Wm (fun _ _ => True) l (rmh 1) RX2 cX2_joinTwo 7 none D cT ad Lc (zA ad Lc.length sz) (zZ (fun D cT ad L sz => zQv D cT ad L sz (fun σ1 => agb 20 σ σ1 ∧ ∀ r, r < n → σ1 20 r = nI (if c r = max x y then min x y else c r))) D cT ad Lc sz) [] 0 (lv_args 0 [.ref 15, .int (nI x), .int (nI y), .int (nI n)]) [] σ 0 0
  have lp : ∀ (q9 j : Nat) (τ : Sg), n - j = q9 → j ≤ n → agb 20 σ τ ∧ (∀ r, r < n → τ 20 r = nI (if r < j ∧ c r = max x y then min x y else c r)) → Wm (fun _ _ => True) l (rmh 1) RX2 cX2_joinTwo 7 none D cT ad Lc (zA ad Lc.length sz) (zZ (fun D cT ad L sz => zQv D cT ad L sz (fun σ1 => agb 20 σ σ1 ∧ ∀ r, r < n → σ1 20 r = nI (if c r = max x y then min x y else c r))) D cT ad Lc sz) [] 17 [(0, .ref 15), (1, .int (nI x)), (2, .int (nI y)), (3, .int (nI n)), (4, .int (nI (min x y))), (5, .int (nI (max x y))), (6, .int (nI j))] [] τ 0 0 := by
    intro q9
    induction q9 using Nat.strongRecOn with
    | ind q9 ih =>
      intro j τ hmj hjj hinv
      refine wm_iload 19 rfl dX2_joinTwo_17 rfl ?_
      refine wm_iload_n 20 rfl dX2_joinTwo_19 rfl rfl ?_
      refine wm_icmp_ge 50 23 rfl (by decide) dX2_joinTwo_20 (fun c20 => ?_) (fun c20 => ?_)
      · have gj : j = n := by have := le_of_nI c20 (by omega) (by omega); omega
        exact wm_vret dX2_joinTwo_50 ⟨hinv.1, fun r hr => by rw [hinv.2 r hr]; congr 1; subst gj; simp [hr]⟩
      · have gj : j < n := lt_of_nnI c20 (by omega) (by omega)
        refine wm_aload_n 24 rfl dX2_joinTwo_23 rfl rfl ?_
        refine wm_getR 27 rfl dX2_joinTwo_24 gf_X2_17_1 rfl rfl ?_
        refine wm_iload 29 rfl dX2_joinTwo_27 rfl ?_
        refine wm_iaload 30 rfl dX2_joinTwo_29 rfl (in24 gj h24) ?_
        refine wm_iload 32 rfl dX2_joinTwo_30 rfl ?_
        refine wm_icmp_ne 44 35 rfl (by decide) dX2_joinTwo_32 (fun c32 => ?_) (fun c32 => ?_)
        · rw [nI_clamp (by omega), hinv.2 j gj, if_neg (by omega)] at c32
          have hcj := (hc j gj).2
          try rw [nI_clamp (by omega)]
          refine wm_iinc (ls' := [(6, _), (0, _), (1, _), (2, _), (3, _), (4, _), (5, _)]) 47 rfl dX2_joinTwo_44 rfl (nI_inc _) (by decide) rfl ?_
          refine wm_goto 17 (by decide) dX2_joinTwo_47 ?_
          refine wm_loc (ls2 := [(0, _), (1, _), (2, _), (3, _), (4, _), (5, _), (6, _)]) [1, 2, 3, 4, 5, 6, 0] rfl ?_
          first
            | (refine ih (n - (j + 1)) (by omega) (j + 1) _ rfl (by omega) ⟨fun a ha => by rw [zu_ne _ _ _ ha]; exact hinv.1 a ha, fun r hr => ?_⟩
               rw [zu_at]
               by_cases e : r = j
               · subst e
                 have : c r = max x y := eq_of_nI c32 (by omega) (by omega)
                 simp [upd, this]
               · simp only [upd, if_neg e]
                 rw [hinv.2 r hr]
                 congr 1
                 have : (r < j + 1) = (r < j) := by simp; omega
                 simp [this])
            | (refine ih (n - (j + 1)) (by omega) (j + 1) _ rfl (by omega) ⟨hinv.1, fun r hr => ?_⟩
               rw [hinv.2 r hr]
               congr 1
               by_cases e : r = j
               · subst e
                 have : c r ≠ max x y := ne_of_nnI c32
                 simp [this]
               · have : (r < j + 1) = (r < j) := by simp; omega
                 simp [this])
        · rw [nI_clamp (by omega), hinv.2 j gj, if_neg (by omega)] at c32
          have hcj := (hc j gj).2
          refine wm_aload_n 36 rfl dX2_joinTwo_35 rfl rfl ?_
          refine wm_getR 39 rfl dX2_joinTwo_36 gf_X2_17_1 rfl rfl ?_
          refine wm_iload 41 rfl dX2_joinTwo_39 rfl ?_
          refine wm_iload 43 rfl dX2_joinTwo_41 rfl ?_
          refine wm_iastore 44 rfl dX2_joinTwo_43 rfl (in24 gj h24) ?_
          try rw [nI_clamp (by omega)]
          refine wm_iinc (ls' := [(6, _), (0, _), (1, _), (2, _), (3, _), (4, _), (5, _)]) 47 rfl dX2_joinTwo_44 rfl (nI_inc _) (by decide) rfl ?_
          refine wm_goto 17 (by decide) dX2_joinTwo_47 ?_
          refine wm_loc (ls2 := [(0, _), (1, _), (2, _), (3, _), (4, _), (5, _), (6, _)]) [1, 2, 3, 4, 5, 6, 0] rfl ?_
          first
            | (refine ih (n - (j + 1)) (by omega) (j + 1) _ rfl (by omega) ⟨fun a ha => by rw [zu_ne _ _ _ ha]; exact hinv.1 a ha, fun r hr => ?_⟩
               rw [zu_at]
               by_cases e : r = j
               · subst e
                 have : c r = max x y := eq_of_nI c32 (by omega) (by omega)
                 simp [upd, this]
               · simp only [upd, if_neg e]
                 rw [hinv.2 r hr]
                 congr 1
                 have : (r < j + 1) = (r < j) := by simp; omega
                 simp [this])
            | (refine ih (n - (j + 1)) (by omega) (j + 1) _ rfl (by omega) ⟨hinv.1, fun r hr => ?_⟩
               rw [hinv.2 r hr]
               congr 1
               by_cases e : r = j
               · subst e
                 have : c r ≠ max x y := ne_of_nnI c32
                 simp [this]
               · have : (r < j + 1) = (r < j) := by simp; omega
                 simp [this])
  refine wm_iload_n 1 rfl dX2_joinTwo_0 rfl rfl ?_
  refine wm_iload_n 2 rfl dX2_joinTwo_1 rfl rfl ?_
  refine wm_min 5 rfl dX2_joinTwo_2 aw_6_6 aw_6_7 aw_1_6 aw_6_8 ⟨Nat.le_of_ble_eq_true rfl, Nat.le_of_ble_eq_true rfl⟩ (Nat.le_of_ble_eq_true rfl) ⟨Nat.zero_le _, Nat.zero_le _⟩ ?_
  rw [nI_min (by omega) (by omega)]
  refine wm_istore (ls' := [(4, _), (0, _), (1, _), (2, _), (3, _)]) 7 rfl dX2_joinTwo_5 (by decide) rfl ?_
  refine wm_iload_n 8 rfl dX2_joinTwo_7 rfl rfl ?_
  refine wm_iload_n 9 rfl dX2_joinTwo_8 rfl rfl ?_
  refine wm_max 12 rfl dX2_joinTwo_9 aw_6_9 aw_1_5 aw_1_6 aw_1_7 ⟨Nat.le_of_ble_eq_true rfl, Nat.le_of_ble_eq_true rfl⟩ (Nat.le_of_ble_eq_true rfl) ⟨Nat.zero_le _, Nat.zero_le _⟩ ?_
  rw [nI_max (by omega) (by omega)]
  refine wm_istore (ls' := [(5, _), (4, _), (0, _), (1, _), (2, _), (3, _)]) 14 rfl dX2_joinTwo_12 (by decide) rfl ?_
  refine wm_iconst (v := 0) 15 rfl dX2_joinTwo_14 (by decide) ?_
  refine wm_istore (ls' := [(6, _), (5, _), (4, _), (0, _), (1, _), (2, _), (3, _)]) 17 rfl dX2_joinTwo_15 (by decide) rfl ?_
  refine wm_loc (ls2 := [(0, _), (1, _), (2, _), (3, _), (4, _), (5, _), (6, _)]) [3, 4, 5, 6, 2, 1, 0] rfl ?_
  exact lp n 0 σ rfl (Nat.zero_le _) ⟨fun _ _ => rfl, fun r hr => by rw [(hc r hr).1]; simp⟩
theorem k_X2_findClusters (l : Launch) {σ : Sg} {n : Nat} (hI : cI σ n) {k : Nat} (hk : k < 3) {c0 : Nat → Nat} (hc : lab σ 20 n c0) (hid : ∀ r, r < n → c0 (c0 r) = c0 r) : cMv l yX2_findClusters cX2_findClusters 5 3 Lc [.ref 15, .ref 1, .int (nI k)] σ (fun σ1 => agb 20 σ σ1 ∧ ∃ c, lab σ1 20 n c ∧ Comp n (lkC σ n k c0) c) := by
  have h24 := hI.2
  refine zMet_of (by decide +kernel) (Nat.le_of_ble_eq_true rfl) (fun D cT ad sz => ?_)
  show Wm (fun _ _ => True) l (rmh 3) RX2 cX2_findClusters 5 none D cT ad Lc (zA ad Lc.length sz) (zZ (fun D cT ad L sz => zQv D cT ad L sz (fun σ1 => agb 20 σ σ1 ∧ ∃ c, lab σ1 20 n c ∧ Comp n (lkC σ n k c0) c)) D cT ad Lc sz) [] 0 (lv_args 0 [.ref 15, .ref 1, .int (nI k)]) [] σ 0 0
  have lpo : ∀ (q9 i : Nat) (τ : Sg), n - i = q9 → i ≤ n → JI σ n k c0 i 0 τ → Wm (fun _ _ => True) l (rmh 3) RX2 cX2_findClusters 5 none D cT ad Lc (zA ad Lc.length sz) (zZ (fun D cT ad L sz => zQv D cT ad L sz (fun σ1 => agb 20 σ σ1 ∧ ∃ c, lab σ1 20 n c ∧ Comp n (lkC σ n k c0) c)) D cT ad Lc sz) [] 2 [(0, .ref 15), (1, .ref 1), (2, .int (nI k)), (3, .int (nI i))] [] τ 0 0 := by
    intro q9
    induction q9 using Nat.strongRecOn with
    | ind q9 ih =>
      intro i τ hmi hji hinv0
      have lpi : ∀ (q9 j : Nat) (τ : Sg), i - j = q9 → j ≤ i → i < n → JI σ n k c0 i j τ → Wm (fun _ _ => True) l (rmh 3) RX2 cX2_findClusters 5 none D cT ad Lc (zA ad Lc.length sz) (zZ (fun D cT ad L sz => zQv D cT ad L sz (fun σ1 => agb 20 σ σ1 ∧ ∃ c, lab σ1 20 n c ∧ Comp n (lkC σ n k c0) c)) D cT ad Lc sz) [] 13 [(0, .ref 15), (1, .ref 1), (2, .int (nI k)), (3, .int (nI i)), (4, .int (nI j))] [] τ 0 0 := by
        intro q9
        induction q9 using Nat.strongRecOn with
        | ind q9 ih2 =>
          intro j τ hmj hjj hin hinv
          have h1 : τ 1 = σ 1 := hinv.1 1 (by omega)
          have hIτ : cI τ n := cI_ag h1 hI
          obtain ⟨c, hl, hrest⟩ := id hinv.2
          have hsm : smK τ n k i j ↔ smK σ n k i j := smK_ag i j h1 (hinv.1 (7 + k) (by omega))
          refine wm_iload 15 rfl dX2_findClusters_13 rfl ?_
          refine wm_iload_n 16 rfl dX2_findClusters_15 rfl rfl ?_
          refine wm_icmp_ge 73 19 rfl (by decide) dX2_findClusters_16 (fun c16 => ?_) (fun c16 => ?_)
          · have gj : j = i := by have := le_of_nI c16 (by omega) (by omega); omega
            refine wm_iinc (ls' := [(3, _), (0, _), (1, _), (2, _), (4, _)]) 76 rfl dX2_findClusters_73 rfl (nI_inc _) (by decide) rfl ?_
            refine wm_goto 2 (by decide) dX2_findClusters_76 ?_
            refine wm_loc (ls2 := [(0, _), (1, _), (2, _), (3, _)]) [1, 2, 3, 0] rfl ?_
            subst gj
            exact ih (n - (j + 1)) (by omega) (j + 1) τ rfl (by omega) (JI_row hinv)
          · have gj : j < i := lt_of_nnI c16 (by omega) (by omega)
            refine wm_aload_n 20 rfl dX2_findClusters_19 rfl rfl ?_
            refine wm_iload_n 21 rfl dX2_findClusters_20 rfl rfl ?_
            refine wm_iload 23 rfl dX2_findClusters_21 rfl ?_
            refine wm_iload_n 24 rfl dX2_findClusters_23 rfl rfl ?_
            refine wm_callVi (ty := .boolean) 27 rfl dX2_findClusters_24 (k_X1_haveSameKey l hIτ i j k hin (by omega) hk) ca_X1_haveSameKey cv_X1_haveSameKey rfl aw_5_17 rfl rfl ⟨Nat.le_of_ble_eq_true rfl, Nat.le_of_ble_eq_true rfl⟩ (Nat.le_of_ble_eq_true rfl) ⟨Nat.zero_le _, Nat.zero_le _⟩ ?_
            rintro r9 σ9 ⟨rfl, rfl⟩
            refine wm_if_eq 67 30 rfl (by decide) dX2_findClusters_27 (fun c27 => ?_) (fun c27 => ?_)
            · refine wm_iinc (ls' := [(4, _), (0, _), (1, _), (2, _), (3, _)]) 70 rfl dX2_findClusters_67 rfl (nI_inc _) (by decide) rfl ?_
              refine wm_goto 13 (by decide) dX2_findClusters_70 ?_
              refine wm_loc (ls2 := [(0, _), (1, _), (2, _), (3, _), (4, _)]) [1, 2, 3, 4, 0] rfl ?_
              first
                | exact ih2 (i - (j + 1)) (by omega) (j + 1) _ rfl (by omega) hin (JI_skip hinv (fun h => absurd (hsm.mpr h) (zp_0.mp c27)) hin gj h24)
                | exact ih2 (i - (j + 1)) (by omega) (j + 1) _ rfl (by omega) hin (JI_skip hinv (fun _ => c43) hin gj h24)
                | exact ih2 (i - (j + 1)) (by omega) (j + 1) _ rfl (by omega) hin (JI_join hinv (hsm.mp (zp_n.mp c27)) hin gj h24 hl rfl rfl (fun e => c43 (by rw [(hl i hin).1, (hl j (by omega)).1, e])) ha9 hl9)
            · refine wm_aload_n 31 rfl dX2_findClusters_30 rfl rfl ?_
              refine wm_getR 34 rfl dX2_findClusters_31 gf_X2_17_1 rfl rfl ?_
              refine wm_iload_n 35 rfl dX2_findClusters_34 rfl rfl ?_
              refine wm_iaload 36 rfl dX2_findClusters_35 rfl (in24 hin h24) ?_
              refine wm_aload_n 37 rfl dX2_findClusters_36 rfl rfl ?_
              refine wm_getR 40 rfl dX2_findClusters_37 gf_X2_17_1 rfl rfl ?_
              refine wm_iload 42 rfl dX2_findClusters_40 rfl ?_
              refine wm_iaload 43 rfl dX2_findClusters_42 rfl (in24 (by omega) h24) ?_
              refine wm_icmp_eq 67 46 rfl (by decide) dX2_findClusters_43 (fun c43 => ?_) (fun c43 => ?_)
              · rw [nI_clamp (by omega), nI_clamp (by omega)] at c43
                refine wm_iinc (ls' := [(4, _), (0, _), (1, _), (2, _), (3, _)]) 70 rfl dX2_findClusters_67 rfl (nI_inc _) (by decide) rfl ?_
                refine wm_goto 13 (by decide) dX2_findClusters_70 ?_
                refine wm_loc (ls2 := [(0, _), (1, _), (2, _), (3, _), (4, _)]) [1, 2, 3, 4, 0] rfl ?_
                first
                  | exact ih2 (i - (j + 1)) (by omega) (j + 1) _ rfl (by omega) hin (JI_skip hinv (fun h => absurd (hsm.mpr h) (zp_0.mp c27)) hin gj h24)
                  | exact ih2 (i - (j + 1)) (by omega) (j + 1) _ rfl (by omega) hin (JI_skip hinv (fun _ => c43) hin gj h24)
                  | exact ih2 (i - (j + 1)) (by omega) (j + 1) _ rfl (by omega) hin (JI_join hinv (hsm.mp (zp_n.mp c27)) hin gj h24 hl rfl rfl (fun e => c43 (by rw [(hl i hin).1, (hl j (by omega)).1, e])) ha9 hl9)
              · rw [nI_clamp (by omega), nI_clamp (by omega)] at c43
                refine wm_aload_n 47 rfl dX2_findClusters_46 rfl rfl ?_
                refine wm_aload_n 48 rfl dX2_findClusters_47 rfl rfl ?_
                refine wm_getR 51 rfl dX2_findClusters_48 gf_X2_17_1 rfl rfl ?_
                refine wm_iload_n 52 rfl dX2_findClusters_51 rfl rfl ?_
                refine wm_iaload 53 rfl dX2_findClusters_52 rfl (in24 hin h24) ?_
                refine wm_aload_n 54 rfl dX2_findClusters_53 rfl rfl ?_
                refine wm_getR 57 rfl dX2_findClusters_54 gf_X2_17_1 rfl rfl ?_
                refine wm_iload 59 rfl dX2_findClusters_57 rfl ?_
                refine wm_iaload 60 rfl dX2_findClusters_59 rfl (in24 (by omega) h24) ?_
                rw [nI_clamp (by omega), nI_clamp (by omega), (hl i hin).1, (hl j (by omega)).1]
                have hci := (hl i hin).2
                have hcj := (hl j (by omega)).2
                refine wm_aload_n 61 rfl dX2_findClusters_60 rfl rfl ?_
                refine wm_getI 64 rfl dX2_findClusters_61 gf_X2_7_0 rfl rfl ?_
                rw [h1, hI.1]
                refine wm_callVv 67 rfl dX2_findClusters_64 (k_X2_joinTwo l hIτ hl (x := c i) (y := c j) (by omega) (by omega)) ca_X2_joinTwo cv_X2_joinTwo rfl aw_6_2 rfl rfl ⟨Nat.le_of_ble_eq_true rfl, Nat.le_of_ble_eq_true rfl⟩ (Nat.le_of_ble_eq_true rfl) ⟨Nat.zero_le _, Nat.zero_le _⟩ ?_
                rintro σ9 ⟨ha9, hl9⟩
                refine wm_iinc (ls' := [(4, _), (0, _), (1, _), (2, _), (3, _)]) 70 rfl dX2_findClusters_67 rfl (nI_inc _) (by decide) rfl ?_
                refine wm_goto 13 (by decide) dX2_findClusters_70 ?_
                refine wm_loc (ls2 := [(0, _), (1, _), (2, _), (3, _), (4, _)]) [1, 2, 3, 4, 0] rfl ?_
                first
                  | exact ih2 (i - (j + 1)) (by omega) (j + 1) _ rfl (by omega) hin (JI_skip hinv (fun h => absurd (hsm.mpr h) (zp_0.mp c27)) hin gj h24)
                  | exact ih2 (i - (j + 1)) (by omega) (j + 1) _ rfl (by omega) hin (JI_skip hinv (fun _ => c43) hin gj h24)
                  | exact ih2 (i - (j + 1)) (by omega) (j + 1) _ rfl (by omega) hin (JI_join hinv (hsm.mp (zp_n.mp c27)) hin gj h24 hl rfl rfl (fun e => c43 (by rw [(hl i hin).1, (hl j (by omega)).1, e])) ha9 hl9)
      refine wm_iload_n 3 rfl dX2_findClusters_2 rfl rfl ?_
      refine wm_aload_n 4 rfl dX2_findClusters_3 rfl rfl ?_
      refine wm_getI 7 rfl dX2_findClusters_4 gf_X2_7_0 rfl rfl ?_
      refine wm_icmp_ge 79 10 rfl (by decide) dX2_findClusters_7 (fun c7 => ?_) (fun c7 => ?_)
      · rw [hinv0.1 1 (by omega), hI.1] at c7
        have gi : i = n := by have := le_of_nI c7 (by omega) (by omega); omega
        exact wm_vret dX2_findClusters_79 (by subst gi; exact JI_end hinv0)
      · rw [hinv0.1 1 (by omega), hI.1] at c7
        have gi : i < n := lt_of_nnI c7 (by omega) (by omega)
        refine wm_iconst (v := 0) 11 rfl dX2_findClusters_10 (by decide) ?_
        refine wm_istore (ls' := [(4, _), (0, _), (1, _), (2, _), (3, _)]) 13 rfl dX2_findClusters_11 (by decide) rfl ?_
        refine wm_loc (ls2 := [(0, _), (1, _), (2, _), (3, _), (4, _)]) [1, 2, 3, 4, 0] rfl ?_
        exact lpi i 0 τ rfl (Nat.zero_le _) gi hinv0
  refine wm_iconst (v := 0) 1 rfl dX2_findClusters_0 (by decide) ?_
  refine wm_istore_n (ls' := [(3, _), (0, _), (1, _), (2, _)]) 2 rfl dX2_findClusters_1 rfl (by decide) rfl ?_
  refine wm_loc (ls2 := [(0, _), (1, _), (2, _), (3, _)]) [1, 2, 3, 0] rfl ?_
  exact lpo n 0 σ rfl (Nat.zero_le _) (JI_0 (fun _ _ => rfl) hc hid)
theorem k_X3_areLinked (l : Launch) {σ : Sg} {n : Nat} (hI : cI σ n) {k a b : Nat} {g0 : Nat → Nat} (hk : k < 3) (ha : a < n) (hb : b < n) (hg : gbP σ 23 n k g0) : cMi l yX3_areLinked cX3_areLinked 5 .boolean 3 Lc [.ref 21, .int (nI a), .int (nI b), .ref 1, .int (nI k)] σ (pP σ (zp (lkC σ n k g0 a b))) := by
  have h24 := hI.2
  refine zMet_of (by decide +kernel) (Nat.le_of_ble_eq_true rfl) (fun D cT ad sz => ?_)
  show Wm (fun _ _ => True) l (rmh 3) RX3 cX3_areLinked 5 (some .boolean) D cT ad Lc (zA ad Lc.length sz) (zZ (fun D cT ad L sz => zQi D cT ad L sz (pP σ (zp (lkC σ n k g0 a b)))) D cT ad Lc sz) [] 0 (lv_args 0 [.ref 21, .int (nI a), .int (nI b), .ref 1, .int (nI k)]) [] σ 0 0
  refine wm_aload_n 1 rfl dX3_areLinked_0 rfl rfl ?_
  refine wm_iload_n 2 rfl dX3_areLinked_1 rfl rfl ?_
  refine wm_iload 4 rfl dX3_areLinked_2 rfl ?_
  refine wm_callUi (ty := .int) (x := ⟨"Assetmerge$Spreading", "groupBefore", "(II)I"⟩) (C := RX3) 7 rfl dX3_areLinked_4 (k_gbS l h24 hk ha hg) ca_X0_groupBefore rfl aw_5_6 aw_7_2 aw_7_1 aw_7_0 rfl rfl ⟨Nat.le_of_ble_eq_true rfl, Nat.le_of_ble_eq_true rfl⟩ (Nat.le_of_ble_eq_true rfl) ⟨Nat.zero_le _, Nat.zero_le _⟩ ?_
  rintro r9 σ9 ⟨rfl, rfl⟩
  refine wm_aload_n 8 rfl dX3_areLinked_7 rfl rfl ?_
  refine wm_iload_n 9 rfl dX3_areLinked_8 rfl rfl ?_
  refine wm_iload 11 rfl dX3_areLinked_9 rfl ?_
  refine wm_callUi (ty := .int) (x := ⟨"Assetmerge$Spreading", "groupBefore", "(II)I"⟩) (C := RX3) 14 rfl dX3_areLinked_11 (k_gbS l h24 hk hb hg) ca_X0_groupBefore rfl aw_5_6 aw_7_2 aw_7_1 aw_7_0 rfl rfl ⟨Nat.le_of_ble_eq_true rfl, Nat.le_of_ble_eq_true rfl⟩ (Nat.le_of_ble_eq_true rfl) ⟨Nat.zero_le _, Nat.zero_le _⟩ ?_
  rintro r9 σ9 ⟨rfl, rfl⟩
  refine wm_icmp_eq 28 17 rfl (by decide) dX3_areLinked_14 (fun c14 => ?_) (fun c14 => ?_)
  · refine wm_iconst (v := 1) 29 rfl dX3_areLinked_28 (by decide) ?_
    refine wm_goto 33 (by decide) dX3_areLinked_29 ?_
    exact wm_iret dX3_areLinked_33 (by first | rfl | exact zp_nar) (pP_i (zp_t (Or.inl (eq_of_nI c14 (by have := (hg a ha).1; omega) (by have := (hg b hb).1; omega)))))
  · refine wm_aload_n 18 rfl dX3_areLinked_17 rfl rfl ?_
    refine wm_iload_n 19 rfl dX3_areLinked_18 rfl rfl ?_
    refine wm_iload_n 20 rfl dX3_areLinked_19 rfl rfl ?_
    refine wm_iload 22 rfl dX3_areLinked_20 rfl ?_
    refine wm_callVi (ty := .boolean) 25 rfl dX3_areLinked_22 (k_X1_haveSameKey l hI a b k ha hb hk) ca_X1_haveSameKey cv_X1_haveSameKey rfl aw_7_3 rfl rfl ⟨Nat.le_of_ble_eq_true rfl, Nat.le_of_ble_eq_true rfl⟩ (Nat.le_of_ble_eq_true rfl) ⟨Nat.zero_le _, Nat.zero_le _⟩ ?_
    rintro r9 σ9 ⟨rfl, rfl⟩
    refine wm_if_eq 32 28 rfl (by decide) dX3_areLinked_25 (fun c25 => ?_) (fun c25 => ?_)
    · refine wm_iconst (v := 0) 33 rfl dX3_areLinked_32 (by decide) ?_
      exact wm_iret dX3_areLinked_33 (by first | rfl | exact zp_nar) (pP_i (zp_f (by rintro (h | ⟨p, q, u, v⟩); exact c14 (by rw [h]); exact zp_0.mp c25 ⟨p, q, u, v⟩)))
    · refine wm_iconst (v := 1) 29 rfl dX3_areLinked_28 (by decide) ?_
      refine wm_goto 33 (by decide) dX3_areLinked_29 ?_
      exact wm_iret dX3_areLinked_33 (by first | rfl | exact zp_nar) (pP_i (zp_t (Or.inr (by obtain ⟨p, q, u, v⟩ := zp_n.mp c25; exact ⟨p, q, u, v⟩))))
theorem k_X3_spreadOnce (l : Launch) {σ : Sg} {n : Nat} (hI : cI σ n) {k : Nat} (hk : k < 3) {c g0 : Nat → Nat} (hc : lab σ 26 n c) (hr9 : ∀ r, r < n → rch n (lkC σ n k g0) r (c r)) (hg : gbP σ 23 n k g0) : cMi l yX3_spreadOnce cX3_spreadOnce 6 .boolean 4 Lc [.ref 21, .ref 1, .int (nI k)] σ (fun v σ1 => (v = 0 ∨ v = 1) ∧ SP σ n (lkC σ n k g0) c n 0 v σ1) := by
  have h24 := hI.2
  refine zMet_of (by decide +kernel) (Nat.le_of_ble_eq_true rfl) (fun D cT ad sz => ?_)
  show Wm (fun _ _ => True) l (rmh 4) RX3 cX3_spreadOnce 6 (some .boolean) D cT ad Lc (zA ad Lc.length sz) (zZ (fun D cT ad L sz => zQi D cT ad L sz (fun v σ1 => (v = 0 ∨ v = 1) ∧ SP σ n (lkC σ n k g0) c n 0 v σ1)) D cT ad Lc sz) [] 0 (lv_args 0 [.ref 21, .ref 1, .int (nI k)]) [] σ 0 0
  have lpo : ∀ (q9 i : Nat) (f : Int32) (τ : Sg), n - i = q9 → i ≤ n → (f = 0 ∨ f = 1) → SP σ n (lkC σ n k g0) c i 0 f τ → Wm (fun _ _ => True) l (rmh 4) RX3 cX3_spreadOnce 6 (some .boolean) D cT ad Lc (zA ad Lc.length sz) (zZ (fun D cT ad L sz => zQi D cT ad L sz (fun v σ1 => (v = 0 ∨ v = 1) ∧ SP σ n (lkC σ n k g0) c n 0 v σ1)) D cT ad Lc sz) [] 5 [(0, .ref 21), (1, .ref 1), (2, .int (nI k)), (3, .int f), (4, .int (nI i))] [] τ 0 0 := by
    intro q9
    induction q9 using Nat.strongRecOn with
    | ind q9 ih =>
      intro i f τ hmi hji hf0 hinv0
      have lpi : ∀ (q9 j : Nat) (f : Int32) (τ : Sg), n - j = q9 → j ≤ n → i < n → (f = 0 ∨ f = 1) → SP σ n (lkC σ n k g0) c i j f τ → Wm (fun _ _ => True) l (rmh 4) RX3 cX3_spreadOnce 6 (some .boolean) D cT ad Lc (zA ad Lc.length sz) (zZ (fun D cT ad L sz => zQi D cT ad L sz (fun v σ1 => (v = 0 ∨ v = 1) ∧ SP σ n (lkC σ n k g0) c n 0 v σ1)) D cT ad Lc sz) [] 17 [(0, .ref 21), (1, .ref 1), (2, .int (nI k)), (3, .int f), (4, .int (nI i)), (5, .int (nI j))] [] τ 0 0 := by
        intro q9
        induction q9 using Nat.strongRecOn with
        | ind q9 ih2 =>
          intro j f τ hmj hjj hin hf hinv
          have h1 : τ 1 = σ 1 := hinv.1 1 (by omega)
          have hIτ : cI τ n := cI_ag h1 hI
          have hgτ : gbP τ 23 n k g0 := gbP_ag hg (fun k9 e => hinv.1 _ (by omega))
          have hlk : lkC τ n k g0 i j ↔ lkC σ n k g0 i j := by unfold lkC lkq; rw [hd_ag n i h1, hd_ag n j h1]; simp only [kyC]; rw [hinv.1 (7 + k) (by omega)]
          refine wm_iload 19 rfl dX3_spreadOnce_17 rfl ?_
          refine wm_aload_n 20 rfl dX3_spreadOnce_19 rfl rfl ?_
          refine wm_getI 23 rfl dX3_spreadOnce_20 gf_X3_15_0 rfl rfl ?_
          refine wm_icmp_ge 78 26 rfl (by decide) dX3_spreadOnce_23 (fun c23 => ?_) (fun c23 => ?_)
          · rw [h1, hI.1] at c23
            have gj : j = n := by have := le_of_nI c23 (by omega) (by omega); omega
            refine wm_iinc (ls' := [(4, _), (0, _), (1, _), (2, _), (3, _), (5, _)]) 81 rfl dX3_spreadOnce_78 rfl (nI_inc _) (by decide) rfl ?_
            refine wm_goto 5 (by decide) dX3_spreadOnce_81 ?_
            refine wm_loc (ls2 := [(0, _), (1, _), (2, _), (3, _), (4, _)]) [1, 2, 3, 4, 0] rfl ?_
            subst gj
            exact ih (j - (i + 1)) (by omega) (i + 1) f τ rfl (by omega) hf (SP_row hinv)
          · rw [h1, hI.1] at c23
            have gj : j < n := lt_of_nnI c23 (by omega) (by omega)
            refine wm_aload_n 27 rfl dX3_spreadOnce_26 rfl rfl ?_
            refine wm_getR 30 rfl dX3_spreadOnce_27 gf_X3_21_2 rfl rfl ?_
            refine wm_iload 32 rfl dX3_spreadOnce_30 rfl ?_
            refine wm_iaload 33 rfl dX3_spreadOnce_32 rfl (in24 gj h24) ?_
            refine wm_aload_n 34 rfl dX3_spreadOnce_33 rfl rfl ?_
            refine wm_getR 37 rfl dX3_spreadOnce_34 gf_X3_21_2 rfl rfl ?_
            refine wm_iload 39 rfl dX3_spreadOnce_37 rfl ?_
            refine wm_iaload 40 rfl dX3_spreadOnce_39 rfl (in24 hin h24) ?_
            refine wm_icmp_ge 72 43 rfl (by decide) dX3_spreadOnce_40 (fun c40 => ?_) (fun c40 => ?_)
            · rw [nI_clamp (by omega), nI_clamp (by omega)] at c40
              refine wm_iinc (ls' := [(5, _), (0, _), (1, _), (2, _), (3, _), (4, _)]) 75 rfl dX3_spreadOnce_72 rfl (nI_inc _) (by decide) rfl ?_
              refine wm_goto 17 (by decide) dX3_spreadOnce_75 ?_
              refine wm_loc (ls2 := [(0, _), (1, _), (2, _), (3, _), (4, _), (5, _)]) [1, 2, 3, 4, 5, 0] rfl ?_
              first
                | exact ih2 (n - (j + 1)) (by omega) (j + 1) _ _ rfl (by omega) hin hf (SP_skip hinv hin gj h24 (fun _ => c40))
                | exact ih2 (n - (j + 1)) (by omega) (j + 1) _ _ rfl (by omega) hin hf (SP_skip hinv hin gj h24 (fun h => absurd (hlk.mpr h) (zp_0.mp c53)))
                | exact ih2 (n - (j + 1)) (by omega) (j + 1) _ _ rfl (by omega) hin (Or.inr rfl) (SP_take hinv hin gj h24 (hlk.mp (zp_n.mp c53)) (fa_nlt c40))
            · rw [nI_clamp (by omega), nI_clamp (by omega)] at c40
              refine wm_aload_n 44 rfl dX3_spreadOnce_43 rfl rfl ?_
              refine wm_iload 46 rfl dX3_spreadOnce_44 rfl ?_
              refine wm_iload 48 rfl dX3_spreadOnce_46 rfl ?_
              refine wm_aload_n 49 rfl dX3_spreadOnce_48 rfl rfl ?_
              refine wm_iload_n 50 rfl dX3_spreadOnce_49 rfl rfl ?_
              refine wm_callVi (ty := .boolean) 53 rfl dX3_spreadOnce_50 (k_X3_areLinked l hIτ hk hin gj hgτ) ca_X3_areLinked cv_X3_areLinked rfl aw_6_20 rfl rfl ⟨Nat.le_of_ble_eq_true rfl, Nat.le_of_ble_eq_true rfl⟩ (Nat.le_of_ble_eq_true rfl) ⟨Nat.zero_le _, Nat.zero_le _⟩ ?_
              rintro r9 σ9 ⟨rfl, rfl⟩
              refine wm_if_eq 72 56 rfl (by decide) dX3_spreadOnce_53 (fun c53 => ?_) (fun c53 => ?_)
              · refine wm_iinc (ls' := [(5, _), (0, _), (1, _), (2, _), (3, _), (4, _)]) 75 rfl dX3_spreadOnce_72 rfl (nI_inc _) (by decide) rfl ?_
                refine wm_goto 17 (by decide) dX3_spreadOnce_75 ?_
                refine wm_loc (ls2 := [(0, _), (1, _), (2, _), (3, _), (4, _), (5, _)]) [1, 2, 3, 4, 5, 0] rfl ?_
                first
                  | exact ih2 (n - (j + 1)) (by omega) (j + 1) _ _ rfl (by omega) hin hf (SP_skip hinv hin gj h24 (fun _ => c40))
                  | exact ih2 (n - (j + 1)) (by omega) (j + 1) _ _ rfl (by omega) hin hf (SP_skip hinv hin gj h24 (fun h => absurd (hlk.mpr h) (zp_0.mp c53)))
                  | exact ih2 (n - (j + 1)) (by omega) (j + 1) _ _ rfl (by omega) hin (Or.inr rfl) (SP_take hinv hin gj h24 (hlk.mp (zp_n.mp c53)) (fa_nlt c40))
              · refine wm_aload_n 57 rfl dX3_spreadOnce_56 rfl rfl ?_
                refine wm_getR 60 rfl dX3_spreadOnce_57 gf_X3_21_2 rfl rfl ?_
                refine wm_iload 62 rfl dX3_spreadOnce_60 rfl ?_
                refine wm_aload_n 63 rfl dX3_spreadOnce_62 rfl rfl ?_
                refine wm_getR 66 rfl dX3_spreadOnce_63 gf_X3_21_2 rfl rfl ?_
                refine wm_iload 68 rfl dX3_spreadOnce_66 rfl ?_
                refine wm_iaload 69 rfl dX3_spreadOnce_68 rfl (in24 gj h24) ?_
                refine wm_iastore 70 rfl dX3_spreadOnce_69 rfl (in24 hin h24) ?_
                rw [nI_clamp (by omega), nI_clamp (by omega)]
                refine wm_iconst (v := 1) 71 rfl dX3_spreadOnce_70 (by decide) ?_
                refine wm_istore_n (ls' := [(3, _), (0, _), (1, _), (2, _), (4, _), (5, _)]) 72 rfl dX3_spreadOnce_71 rfl (by decide) rfl ?_
                refine wm_iinc (ls' := [(5, _), (3, _), (0, _), (1, _), (2, _), (4, _)]) 75 rfl dX3_spreadOnce_72 rfl (nI_inc _) (by decide) rfl ?_
                refine wm_goto 17 (by decide) dX3_spreadOnce_75 ?_
                refine wm_loc (ls2 := [(0, _), (1, _), (2, _), (3, _), (4, _), (5, _)]) [2, 3, 4, 1, 5, 0] rfl ?_
                first
                  | exact ih2 (n - (j + 1)) (by omega) (j + 1) _ _ rfl (by omega) hin hf (SP_skip hinv hin gj h24 (fun _ => c40))
                  | exact ih2 (n - (j + 1)) (by omega) (j + 1) _ _ rfl (by omega) hin hf (SP_skip hinv hin gj h24 (fun h => absurd (hlk.mpr h) (zp_0.mp c53)))
                  | exact ih2 (n - (j + 1)) (by omega) (j + 1) _ _ rfl (by omega) hin (Or.inr rfl) (SP_take hinv hin gj h24 (hlk.mp (zp_n.mp c53)) (fa_nlt c40))
      refine wm_iload 7 rfl dX3_spreadOnce_5 rfl ?_
      refine wm_aload_n 8 rfl dX3_spreadOnce_7 rfl rfl ?_
      refine wm_getI 11 rfl dX3_spreadOnce_8 gf_X3_15_0 rfl rfl ?_
      refine wm_icmp_ge 84 14 rfl (by decide) dX3_spreadOnce_11 (fun c11 => ?_) (fun c11 => ?_)
      · rw [hinv0.1 1 (by omega), hI.1] at c11
        have gi : i = n := by have := le_of_nI c11 (by omega) (by omega); omega
        refine wm_iload_n 85 rfl dX3_spreadOnce_84 rfl rfl ?_
        exact wm_iret dX3_spreadOnce_85 (by rcases hf0 with h | h <;> rw [h] <;> rfl) ⟨hf0, by subst gi; exact hinv0⟩
      · rw [hinv0.1 1 (by omega), hI.1] at c11
        have gi : i < n := lt_of_nnI c11 (by omega) (by omega)
        refine wm_iconst (v := 0) 15 rfl dX3_spreadOnce_14 (by decide) ?_
        refine wm_istore (ls' := [(5, _), (0, _), (1, _), (2, _), (3, _), (4, _)]) 17 rfl dX3_spreadOnce_15 (by decide) rfl ?_
        refine wm_loc (ls2 := [(0, _), (1, _), (2, _), (3, _), (4, _), (5, _)]) [1, 2, 3, 4, 5, 0] rfl ?_
        exact lpi n 0 f τ rfl (Nat.zero_le _) gi hf0 hinv0
  refine wm_iconst (v := 0) 1 rfl dX3_spreadOnce_0 (by decide) ?_
  refine wm_istore_n (ls' := [(3, _), (0, _), (1, _), (2, _)]) 2 rfl dX3_spreadOnce_1 rfl (by decide) rfl ?_
  refine wm_iconst (v := 0) 3 rfl dX3_spreadOnce_2 (by decide) ?_
  refine wm_istore (ls' := [(4, _), (3, _), (0, _), (1, _), (2, _)]) 5 rfl dX3_spreadOnce_3 (by decide) rfl ?_
  refine wm_loc (ls2 := [(0, _), (1, _), (2, _), (3, _), (4, _)]) [2, 3, 4, 1, 0] rfl ?_
  exact lpo n 0 0 σ rfl (Nat.zero_le _) (Or.inl rfl) (SP_0 hc hr9)
theorem k_X3_findClusters (l : Launch) {σ : Sg} {n : Nat} (hI : cI σ n) {k : Nat} (hk : k < 3) {c0 : Nat → Nat} (hc : lab σ 26 n c0) (hid : ∀ r, r < n → c0 (c0 r) = c0 r) (hg : gbP σ 23 n k c0) : cMv l yX3_findClusters cX3_findClusters 5 5 Lc [.ref 21, .ref 1, .int (nI k)] σ (fun σ1 => agb 26 σ σ1 ∧ ∃ c, lab σ1 26 n c ∧ Comp n (lkC σ n k c0) c) := by
  have h24 := hI.2
  refine zMet_of (by decide +kernel) (Nat.le_of_ble_eq_true rfl) (fun D cT ad sz => ?_)
  show Wm (fun _ _ => True) l (rmh 5) RX3 cX3_findClusters 5 none D cT ad Lc (zA ad Lc.length sz) (zZ (fun D cT ad L sz => zQv D cT ad L sz (fun σ1 => agb 26 σ σ1 ∧ ∃ c, lab σ1 26 n c ∧ Comp n (lkC σ n k c0) c)) D cT ad Lc sz) [] 0 (lv_args 0 [.ref 21, .ref 1, .int (nI k)]) [] σ 0 0
  have lp : ∀ (q9 j : Nat) (f : Int32) (τ : Sg), 24 - j = q9 → j ≤ 24 → (f = 0 ∨ f = 1) → SR σ n (lkC σ n k c0) j f τ → Wm (fun _ _ => True) l (rmh 5) RX3 cX3_findClusters 5 none D cT ad Lc (zA ad Lc.length sz) (zZ (fun D cT ad L sz => zQv D cT ad L sz (fun σ1 => agb 26 σ σ1 ∧ ∃ c, lab σ1 26 n c ∧ Comp n (lkC σ n k c0) c)) D cT ad Lc sz) [] 5 [(0, .ref 21), (1, .ref 1), (2, .int (nI k)), (3, .int f), (4, .int (nI j))] [] τ 0 0 := by
    intro q9
    induction q9 using Nat.strongRecOn with
    | ind q9 ih =>
      intro j f τ hmj hjj hf hinv
      have h1 : τ 1 = σ 1 := hinv.1 1 (by omega)
      have hIτ : cI τ n := cI_ag h1 hI
      have hgτ : gbP τ 23 n k c0 := gbP_ag hg (fun k9 e => hinv.1 _ (by omega))
      obtain ⟨c, hl, hrch, hrest⟩ := id hinv.2
      have hlk : lkC τ n k c0 = lkC σ n k c0 := by funext a b; unfold lkC lkq; rw [hd_ag n a h1, hd_ag n b h1]; simp only [kyC]; rw [hinv.1 (7 + k) (by omega)]
      refine wm_iload_n 6 rfl dX3_findClusters_5 rfl rfl ?_
      refine wm_if_eq 29 9 rfl (by decide) dX3_findClusters_6 (fun c6 => ?_) (fun c6 => ?_)
      · exact wm_vret dX3_findClusters_29 (SR_end lkq_sy h24 hinv (Or.inl c6))
      · refine wm_iload 11 rfl dX3_findClusters_9 rfl ?_
        refine wm_bipush (v := 24) 13 rfl dX3_findClusters_11 (by decide) ?_
        refine wm_icmp_ge 29 16 rfl (by decide) dX3_findClusters_13 (fun c13 => ?_) (fun c13 => ?_)
        · have gj : j = 24 := by have := le_of_nI (a := 24) c13 (by omega) (by omega); omega
          exact wm_vret dX3_findClusters_29 (SR_end lkq_sy h24 hinv (Or.inr (by omega)))
        · have gj : j < 24 := lt_of_nnI (a := 24) c13 (by omega) (by omega)
          refine wm_aload_n 17 rfl dX3_findClusters_16 rfl rfl ?_
          refine wm_aload_n 18 rfl dX3_findClusters_17 rfl rfl ?_
          refine wm_iload_n 19 rfl dX3_findClusters_18 rfl rfl ?_
          refine wm_callVi (ty := .boolean) 22 rfl dX3_findClusters_19 (k_X3_spreadOnce l hIτ hk hl (by rw [hlk]; exact hrch) hgτ) ca_X3_spreadOnce cv_X3_spreadOnce rfl aw_6_13 rfl rfl ⟨Nat.le_of_ble_eq_true rfl, Nat.le_of_ble_eq_true rfl⟩ (Nat.le_of_ble_eq_true rfl) ⟨Nat.zero_le _, Nat.zero_le _⟩ ?_
          rintro r9 σ9 ⟨hf9, hsp⟩
          rw [hlk] at hsp
          refine wm_istore_n (ls' := [(3, _), (0, _), (1, _), (2, _), (4, _)]) 23 rfl dX3_findClusters_22 rfl (by decide) rfl ?_
          refine wm_iinc (ls' := [(4, _), (3, _), (0, _), (1, _), (2, _)]) 26 rfl dX3_findClusters_23 rfl (nI_inc _) (by decide) rfl ?_
          refine wm_goto 5 (by decide) dX3_findClusters_26 ?_
          refine wm_loc (ls2 := [(0, _), (1, _), (2, _), (3, _), (4, _)]) [2, 3, 4, 1, 0] rfl ?_
          refine ih (24 - (j + 1)) (by omega) (j + 1) r9 σ9 rfl (by omega) hf9 (SR_step lkq_sy hinv (fun c' hl' hr' => ?_))
          obtain ⟨a1, c2, a2, a3, a4, a5, a6⟩ := hsp
          have ec : ∀ r, r < n → c' r = c r := fun r hr => by
            have p := hl r hr
            have q := hl' r hr
            rw [p.1] at q
            exact (eq_of_nI q.1 (by omega) (by omega)).symm
          exact ⟨a1, c2, a2, fun r hr => by rw [ec r hr]; exact a3 r hr, a4, fun a b ha hb h6 h7 => by rw [ec b hb]; exact a5 a b ha hb h6 h7, fun h9 r hr => by rw [ec r hr]; exact a6 h9 r hr⟩
  refine wm_iconst (v := 1) 1 rfl dX3_findClusters_0 (by decide) ?_
  refine wm_istore_n (ls' := [(3, _), (0, _), (1, _), (2, _)]) 2 rfl dX3_findClusters_1 rfl (by decide) rfl ?_
  refine wm_iconst (v := 0) 3 rfl dX3_findClusters_2 (by decide) ?_
  refine wm_istore (ls' := [(4, _), (3, _), (0, _), (1, _), (2, _)]) 5 rfl dX3_findClusters_3 (by decide) rfl ?_
  refine wm_loc (ls2 := [(0, _), (1, _), (2, _), (3, _), (4, _)]) [2, 3, 4, 1, 0] rfl ?_
  exact lp 24 0 1 σ rfl (Nat.zero_le _) (Or.inr rfl) ⟨fun _ _ => rfl, c0, hc, fun r hr => rch_1 hr (by have := (hc r hr).2; omega) (Or.inl (hid r hr).symm), Or.inr (Nat.zero_le _), fun h => absurd h (by decide)⟩
