theorem gf_X0_11_1 : zGF RX0 11 1 0 := ⟨RX2, TX2, 2, "Assetmerge$Finder", rfl, zin_X2, by decide, aw_2_23, Or.inl rfl⟩
theorem gf_X0_20_0 : zGF RX0 20 0 8 := ⟨RX1, TX1, 10, "Assetmerge$Inventory", rfl, zin_X1, by decide, aw_5_2, Or.inl rfl⟩
theorem gf_X0_16_1 : zGF RX0 16 1 1 := ⟨RX2, TX2, 2, "Assetmerge$Finder", rfl, zin_X2, by decide, aw_3_0, Or.inl rfl⟩
theorem ca_X0_membersOf : zCal yX0_membersOf cX0_membersOf 5 (some .int) 2 := ⟨aw_7_13, aw_2_19, by decide +kernel, by decide +kernel, by decide +kernel⟩
theorem ca_X1_mayJoin : zCal yX1_mayJoin cX1_mayJoin 4 (some .boolean) 2 := ⟨aw_7_19, aw_1_17, by decide +kernel, by decide +kernel, by decide +kernel⟩
theorem cv_X1_mayJoin : zCaV RX1 yX1_mayJoin := ⟨aw_7_17, aw_7_18⟩
theorem ca_X0_groupBefore : zCal yX0_groupBefore cX0_groupBefore 3 (some .int) 2 := ⟨aw_5_7, aw_2_19, by decide +kernel, by decide +kernel, by decide +kernel⟩
theorem gf_X0_11_2 : zGF RX0 11 2 0 := ⟨RX3, TX3, 2, "Assetmerge$Finder", rfl, zin_X3, by decide, aw_2_23, Or.inl rfl⟩
theorem gf_X0_16_2 : zGF RX0 16 2 1 := ⟨RX3, TX3, 2, "Assetmerge$Finder", rfl, zin_X3, by decide, aw_3_0, Or.inl rfl⟩
/-- labels ahead of the step for k: of row G + (k - 1), or each its own -/
def gbP (σ : Sg) (G n k : Nat) (g0 : Nat → Nat) : Prop := ∀ r, r < n → g0 r ≤ r ∧ (k = 0 → g0 r = r) ∧ ∀ k', k = k' + 1 → σ (G + k') r = nI (g0 r)
theorem gbP_ag {σ τ : Sg} {G n k : Nat} {g0 : Nat → Nat} (h : gbP σ G n k g0) (ha : ∀ k', k = k' + 1 → τ (G + k') = σ (G + k')) : gbP τ G n k g0 :=
  fun r hr => ⟨(h r hr).1, (h r hr).2.1, fun k' e => by rw [ha k' e]; exact (h r hr).2.2 k' e⟩
theorem nI_min {x y : Nat} (hx : x < 2 ^ 31) (hy : y < 2 ^ 31) : (if nI y < nI x then nI y else nI x) = nI (min x y) := by
  by_cases h : y < x
  · rw [if_pos ((nI_ltI hy hx).mpr h)]; congr 1; omega
  · rw [if_neg (fun q => h ((nI_ltI hy hx).mp q))]; congr 1; omega
theorem nI_max {x y : Nat} (hx : x < 2 ^ 31) (hy : y < 2 ^ 31) : (if nI x < nI y then nI y else nI x) = nI (max x y) := by
  by_cases h : x < y
  · rw [if_pos ((nI_ltI hx hy).mpr h)]; congr 1; omega
  · rw [if_neg (fun q => h ((nI_ltI hx hy).mp q))]; congr 1; omega
theorem lab_ag {σ τ : Sg} {id n : Nat} {c : Nat → Nat} (h : lab σ id n c) (e : τ id = σ id) : lab τ id n c := fun r hr => by rw [e]; exact h r hr
theorem mjq_eq {n k : Nat} {ky ky' : Nat → Nat → Int32} {fb fb' : Nat → Nat → Prop} {S : Nat → Prop} (h2 : ∀ s, s < k → ky s = ky' s) (h3 : fb = fb') : mjq n ky fb k S ↔ mjq n ky' fb' k S := by
  subst h3
  exact ⟨mjq_cong (fun s r hs _ => by rw [h2 s hs]) (fun _ _ _ _ _ _ => Iff.rfl) (fun _ _ => Iff.rfl), mjq_cong (fun s r hs _ => by rw [h2 s hs]) (fun _ _ _ _ _ _ => Iff.rfl) (fun _ _ => Iff.rfl)⟩
noncomputable def g1f (σ : Sg) (n k : Nat) (c g0 : Nat → Nat) (r : Nat) : Nat := if dP (mjq n (kyC σ) (fbC σ) k (fun x => hd σ n x ∧ c x = c r)) then c r else g0 r
theorem g1f_t {σ : Sg} {n k : Nat} {c g0 : Nat → Nat} {r : Nat} (h : mjq n (kyC σ) (fbC σ) k (fun x => hd σ n x ∧ c x = c r)) : g1f σ n k c g0 r = c r := by unfold g1f; rw [dP_t.mpr h]; rfl
theorem g1f_f {σ : Sg} {n k : Nat} {c g0 : Nat → Nat} {r : Nat} (h : ¬ mjq n (kyC σ) (fbC σ) k (fun x => hd σ n x ∧ c x = c r)) : g1f σ n k c g0 r = g0 r := by
  unfold g1f
  cases e : dP (mjq n (kyC σ) (fbC σ) k (fun x => hd σ n x ∧ c x = c r)) with
  | true => exact absurd (dP_t.mp e) h
  | false => rfl
theorem k_gbJ (l : Launch) {σ : Sg} {n : Nat} (h24 : n ≤ 24) {k r : Nat} {g0 : Nat → Nat} (hk : k < 3) (hr : r < n) (hg : gbP σ 17 n k g0) : cMi l yX0_groupBefore cX0_groupBefore 3 .int 0 Lc [.ref 15, .int (nI r), .int (nI k)] σ (pP σ (nI (g0 r))) := by
  refine zMet_of (by decide +kernel) (Nat.le_of_ble_eq_true rfl) (fun D cT ad sz => ?_)
  show Wm (fun _ _ => True) l (rmh 0) RX0 cX0_groupBefore 3 (some .int) D cT ad Lc (zA ad Lc.length sz) (zZ (fun D cT ad L sz => zQi D cT ad L sz (pP σ (nI (g0 r)))) D cT ad Lc sz) [] 0 (lv_args 0 [.ref 15, .int (nI r), .int (nI k)]) [] σ 0 0
  refine wm_iload_n 1 rfl dX0_groupBefore_0 rfl rfl ?_
  refine wm_if_le 17 4 rfl (by decide) dX0_groupBefore_1 (fun c1 => ?_) (fun c1 => ?_)
  · have e : k = 0 := by have := le_of_nI (b := 0) c1 (by omega) (by omega); omega
    refine wm_iload_n 18 rfl dX0_groupBefore_17 rfl rfl ?_
    exact wm_iret dX0_groupBefore_18 (by first | rfl | exact zp_nar) ⟨rfl, by rw [(hg r hr).2.1 e]⟩
  · obtain ⟨k', rfl⟩ : ∃ k', k = k' + 1 := ⟨k - 1, by have := lt_of_nnI (b := 0) c1 (by omega) (by omega); omega⟩
    refine wm_aload_n 5 rfl dX0_groupBefore_4 rfl rfl ?_
    refine wm_getR 8 rfl dX0_groupBefore_5 gf_X0_11_1 rfl rfl ?_
    refine wm_iload_n 9 rfl dX0_groupBefore_8 rfl rfl ?_
    refine wm_iconst (v := 1) 10 rfl dX0_groupBefore_9 (by decide) ?_
    refine wm_isub 11 rfl dX0_groupBefore_10 ?_
    rw [show nI (k' + 1) - 1 = nI k' from nI_pred k']
    refine wm_aaload (r := 17 + k') 12 rfl dX0_groupBefore_11 rfl (vp_in_nI (by omega) (by omega)) (by rw [nI_clamp (by omega)]) ?_
    refine wm_iload_n 13 rfl dX0_groupBefore_12 rfl rfl ?_
    refine wm_iaload 14 rfl dX0_groupBefore_13 (Lc_gJ (by omega)) (in24 hr h24) ?_
    refine wm_goto 18 (by decide) dX0_groupBefore_14 ?_
    exact wm_iret dX0_groupBefore_18 (by first | rfl | exact zp_nar) ⟨rfl, by rw [nI_clamp (by omega), (hg r hr).2.2 k' rfl]⟩
theorem k_memJ (l : Launch) {σ : Sg} {n : Nat} (hI : cI σ n) {c : Nat → Nat} (hc : lab σ 20 n c) {x : Nat} (hx : x < n) : cMi l yX0_membersOf cX0_membersOf 5 .int 2 Lc [.ref 15, .int (nI x), .ref 1] σ (fun v σ1 => σ = σ1 ∧ ∀ i, i < 32 → (tb v i = true ↔ (hd σ n i ∧ c i = x))) := by
  have h24 := hI.2
  refine zMet_of (by decide +kernel) (Nat.le_of_ble_eq_true rfl) (fun D cT ad sz => ?_)
  show Wm (fun _ _ => True) l (rmh 2) RX0 cX0_membersOf 5 (some .int) D cT ad Lc (zA ad Lc.length sz) (zZ (fun D cT ad L sz => zQi D cT ad L sz (fun v σ1 => σ = σ1 ∧ ∀ i, i < 32 → (tb v i = true ↔ (hd σ n i ∧ c i = x)))) D cT ad Lc sz) [] 0 (lv_args 0 [.ref 15, .int (nI x), .ref 1]) [] σ 0 0
  have lp : ∀ (q9 j : Nat) (m : Int32), n - j = q9 → j ≤ n → (∀ i, i < 32 → (tb m i = true ↔ (i < j ∧ hd σ n i ∧ c i = x))) → Wm (fun _ _ => True) l (rmh 2) RX0 cX0_membersOf 5 (some .int) D cT ad Lc (zA ad Lc.length sz) (zZ (fun D cT ad L sz => zQi D cT ad L sz (fun v σ1 => σ = σ1 ∧ ∀ i, i < 32 → (tb v i = true ↔ (hd σ n i ∧ c i = x)))) D cT ad Lc sz) [] 5 [(0, .ref 15), (1, .int (nI x)), (2, .ref 1), (3, .int m), (4, .int (nI j))] [] σ 0 0 := by
    intro q9
    induction q9 using Nat.strongRecOn with
    | ind q9 ih =>
      intro j m hmj hjj hinv
      refine wm_iload 7 rfl dX0_membersOf_5 rfl ?_
      refine wm_aload_n 8 rfl dX0_membersOf_7 rfl rfl ?_
      refine wm_getI 11 rfl dX0_membersOf_8 gf_X0_20_0 rfl rfl ?_
      refine wm_icmp_ge 47 14 rfl (by decide) dX0_membersOf_11 (fun c11 => ?_) (fun c11 => ?_)
      · rw [hI.1] at c11
        have gj : j = n := by have := le_of_nI c11 (by omega) (by omega); omega
        refine wm_iload_n 48 rfl dX0_membersOf_47 rfl rfl ?_
        exact wm_iret dX0_membersOf_48 (by first | rfl | exact zp_nar) ⟨rfl, fun i hi => (hinv i hi).trans ⟨fun h => h.2, fun h => ⟨by have := h.1.1; omega, h⟩⟩⟩
      · rw [hI.1] at c11
        have gj : j < n := lt_of_nnI c11 (by omega) (by omega)
        refine wm_aload_n 15 rfl dX0_membersOf_14 rfl rfl ?_
        refine wm_iload 17 rfl dX0_membersOf_15 rfl ?_
        refine wm_callVi (ty := .boolean) 20 rfl dX0_membersOf_17 (k_holds l hI j (by omega)) ca_X1_holds cv_X1_holds rfl aw_7_14 rfl rfl ⟨Nat.le_of_ble_eq_true rfl, Nat.le_of_ble_eq_true rfl⟩ (Nat.le_of_ble_eq_true rfl) ⟨Nat.zero_le _, Nat.zero_le _⟩ ?_
        rintro r9 σ9 ⟨rfl, rfl⟩
        refine wm_if_eq 41 23 rfl (by decide) dX0_membersOf_20 (fun c20 => ?_) (fun c20 => ?_)
        · refine wm_iinc (ls' := [(4, _), (0, _), (1, _), (2, _), (3, _)]) 44 rfl dX0_membersOf_41 rfl (nI_inc _) (by decide) rfl ?_
          refine wm_goto 5 (by decide) dX0_membersOf_44 ?_
          refine wm_loc (ls2 := [(0, _), (1, _), (2, _), (3, _), (4, _)]) [1, 2, 3, 4, 0] rfl ?_
          have hcj := (hc j gj).2
          refine ih (n - (j + 1)) (by omega) (j + 1) _ rfl (by omega) (fun i hi => ?_)
          first
            | (rw [hinv i hi]; constructor
               · exact fun h => ⟨by omega, h.2⟩
               · exact fun h => ⟨by have : i ≠ j := fun e => zp_0.mp c20 (e ▸ h.2.1)
                                    omega, h.2⟩)
            | (rw [hinv i hi]; constructor
               · exact fun h => ⟨by omega, h.2⟩
               · exact fun h => ⟨by have : i ≠ j := fun e => c31 (by rw [← e, h.2.2])
                                    omega, h.2⟩)
            | (rw [tb_set m (by omega) i, Bool.or_eq_true, hinv i hi, decide_eq_true_iff]; constructor
               · rintro (h | h)
                 · exact ⟨by omega, h.2⟩
                 · subst h; exact ⟨by omega, zp_n.mp c20, eq_of_nI c31 (by omega) (by omega)⟩
               · intro h
                 by_cases e : i = j
                 · exact Or.inr e
                 · exact Or.inl ⟨by omega, h.2⟩)
        · refine wm_aload_n 24 rfl dX0_membersOf_23 rfl rfl ?_
          refine wm_getR 27 rfl dX0_membersOf_24 gf_X0_16_1 rfl rfl ?_
          refine wm_iload 29 rfl dX0_membersOf_27 rfl ?_
          refine wm_iaload 30 rfl dX0_membersOf_29 rfl (in24 gj h24) ?_
          refine wm_iload_n 31 rfl dX0_membersOf_30 rfl rfl ?_
          refine wm_icmp_ne 41 34 rfl (by decide) dX0_membersOf_31 (fun c31 => ?_) (fun c31 => ?_)
          · rw [nI_clamp (by omega), (hc j gj).1] at c31
            refine wm_iinc (ls' := [(4, _), (0, _), (1, _), (2, _), (3, _)]) 44 rfl dX0_membersOf_41 rfl (nI_inc _) (by decide) rfl ?_
            refine wm_goto 5 (by decide) dX0_membersOf_44 ?_
            refine wm_loc (ls2 := [(0, _), (1, _), (2, _), (3, _), (4, _)]) [1, 2, 3, 4, 0] rfl ?_
            have hcj := (hc j gj).2
            refine ih (n - (j + 1)) (by omega) (j + 1) _ rfl (by omega) (fun i hi => ?_)
            first
              | (rw [hinv i hi]; constructor
                 · exact fun h => ⟨by omega, h.2⟩
                 · exact fun h => ⟨by have : i ≠ j := fun e => zp_0.mp c20 (e ▸ h.2.1)
                                      omega, h.2⟩)
              | (rw [hinv i hi]; constructor
                 · exact fun h => ⟨by omega, h.2⟩
                 · exact fun h => ⟨by have : i ≠ j := fun e => c31 (by rw [← e, h.2.2])
                                      omega, h.2⟩)
              | (rw [tb_set m (by omega) i, Bool.or_eq_true, hinv i hi, decide_eq_true_iff]; constructor
                 · rintro (h | h)
                   · exact ⟨by omega, h.2⟩
                   · subst h; exact ⟨by omega, zp_n.mp c20, eq_of_nI c31 (by omega) (by omega)⟩
                 · intro h
                   by_cases e : i = j
                   · exact Or.inr e
                   · exact Or.inl ⟨by omega, h.2⟩)
          · rw [nI_clamp (by omega), (hc j gj).1] at c31
            refine wm_iload_n 35 rfl dX0_membersOf_34 rfl rfl ?_
            refine wm_iconst (v := 1) 36 rfl dX0_membersOf_35 (by decide) ?_
            refine wm_iload 38 rfl dX0_membersOf_36 rfl ?_
            refine wm_ishl 39 rfl dX0_membersOf_38 ?_
            refine wm_ior 40 rfl dX0_membersOf_39 ?_
            refine wm_istore_n (ls' := [(3, _), (0, _), (1, _), (2, _), (4, _)]) 41 rfl dX0_membersOf_40 rfl (by decide) rfl ?_
            refine wm_iinc (ls' := [(4, _), (3, _), (0, _), (1, _), (2, _)]) 44 rfl dX0_membersOf_41 rfl (nI_inc _) (by decide) rfl ?_
            refine wm_goto 5 (by decide) dX0_membersOf_44 ?_
            refine wm_loc (ls2 := [(0, _), (1, _), (2, _), (3, _), (4, _)]) [2, 3, 4, 1, 0] rfl ?_
            have hcj := (hc j gj).2
            refine ih (n - (j + 1)) (by omega) (j + 1) _ rfl (by omega) (fun i hi => ?_)
            first
              | (rw [hinv i hi]; constructor
                 · exact fun h => ⟨by omega, h.2⟩
                 · exact fun h => ⟨by have : i ≠ j := fun e => zp_0.mp c20 (e ▸ h.2.1)
                                      omega, h.2⟩)
              | (rw [hinv i hi]; constructor
                 · exact fun h => ⟨by omega, h.2⟩
                 · exact fun h => ⟨by have : i ≠ j := fun e => c31 (by rw [← e, h.2.2])
                                      omega, h.2⟩)
              | (rw [tb_set m (by omega) i, Bool.or_eq_true, hinv i hi, decide_eq_true_iff]; constructor
                 · rintro (h | h)
                   · exact ⟨by omega, h.2⟩
                   · subst h; exact ⟨by omega, zp_n.mp c20, eq_of_nI c31 (by omega) (by omega)⟩
                 · intro h
                   by_cases e : i = j
                   · exact Or.inr e
                   · exact Or.inl ⟨by omega, h.2⟩)
  refine wm_iconst (v := 0) 1 rfl dX0_membersOf_0 (by decide) ?_
  refine wm_istore_n (ls' := [(3, _), (0, _), (1, _), (2, _)]) 2 rfl dX0_membersOf_1 rfl (by decide) rfl ?_
  refine wm_iconst (v := 0) 3 rfl dX0_membersOf_2 (by decide) ?_
  refine wm_istore (ls' := [(4, _), (3, _), (0, _), (1, _), (2, _)]) 5 rfl dX0_membersOf_3 (by decide) rfl ?_
  refine wm_loc (ls2 := [(0, _), (1, _), (2, _), (3, _), (4, _)]) [2, 3, 4, 1, 0] rfl ?_
  exact lp n 0 0 rfl (Nat.zero_le _) (fun i hi => by simp [tb])
theorem k_jcJ (l : Launch) {σ : Sg} {n : Nat} (hI : cI σ n) {k : Nat} (hk : k < 3) {c g0 : Nat → Nat} (hc : lab σ 20 n c) (hg : gbP σ 17 n k g0) : cMv l yX0_joinClusters cX0_joinClusters 5 3 Lc [.ref 15, .ref 1, .int (nI k)] σ (fun σ1 => agb (17 + k) σ σ1 ∧ lab σ1 (17 + k) n (g1f σ n k c g0)) := by
  have h24 := hI.2
  refine zMet_of (by decide +kernel) (Nat.le_of_ble_eq_true rfl) (fun D cT ad sz => ?_)
  show Wm (fun _ _ => True) l (rmh 3) RX0 cX0_joinClusters 5 none D cT ad Lc (zA ad Lc.length sz) (zZ (fun D cT ad L sz => zQv D cT ad L sz (fun σ1 => agb (17 + k) σ σ1 ∧ lab σ1 (17 + k) n (g1f σ n k c g0))) D cT ad Lc sz) [] 0 (lv_args 0 [.ref 15, .ref 1, .int (nI k)]) [] σ 0 0
  have lp : ∀ (q9 j : Nat) (τ : Sg), n - j = q9 → j ≤ n → agb (17 + k) σ τ ∧ (∀ r, r < j → τ (17 + k) r = nI (g1f σ n k c g0 r)) → Wm (fun _ _ => True) l (rmh 3) RX0 cX0_joinClusters 5 none D cT ad Lc (zA ad Lc.length sz) (zZ (fun D cT ad L sz => zQv D cT ad L sz (fun σ1 => agb (17 + k) σ σ1 ∧ lab σ1 (17 + k) n (g1f σ n k c g0))) D cT ad Lc sz) [] 2 [(0, .ref 15), (1, .ref 1), (2, .int (nI k)), (3, .int (nI j))] [] τ 0 0 := by
    intro q9
    induction q9 using Nat.strongRecOn with
    | ind q9 ih =>
      intro j τ hmj hjj hinv
      have h1 : τ 1 = σ 1 := hinv.1 1 (by omega)
      have hIτ : cI τ n := cI_ag h1 hI
      have hcτ : lab τ 20 n c := lab_ag hc (hinv.1 20 (by omega))
      have hgτ : gbP τ 17 n k g0 := gbP_ag hg (fun k9 e => hinv.1 _ (by omega))
      refine wm_iload_n 3 rfl dX0_joinClusters_2 rfl rfl ?_
      refine wm_aload_n 4 rfl dX0_joinClusters_3 rfl rfl ?_
      refine wm_getI 7 rfl dX0_joinClusters_4 gf_X0_20_0 rfl rfl ?_
      refine wm_icmp_ge 62 10 rfl (by decide) dX0_joinClusters_7 (fun c7 => ?_) (fun c7 => ?_)
      · rw [h1, hI.1] at c7
        have gj : j = n := by have := le_of_nI c7 (by omega) (by omega); omega
        exact wm_vret dX0_joinClusters_62 ⟨hinv.1, fun r hr => ⟨hinv.2 r (by omega), by unfold g1f; have := (hc r hr).2; have := (hg r hr).1; split <;> assumption⟩⟩
      · rw [h1, hI.1] at c7
        have gj : j < n := lt_of_nnI c7 (by omega) (by omega)
        refine wm_aload_n 11 rfl dX0_joinClusters_10 rfl rfl ?_
        refine wm_aload_n 12 rfl dX0_joinClusters_11 rfl rfl ?_
        refine wm_aload_n 13 rfl dX0_joinClusters_12 rfl rfl ?_
        refine wm_getR 16 rfl dX0_joinClusters_13 gf_X0_16_1 rfl rfl ?_
        refine wm_iload_n 17 rfl dX0_joinClusters_16 rfl rfl ?_
        refine wm_iaload 18 rfl dX0_joinClusters_17 rfl (in24 gj h24) ?_
        have hcj := (hcτ j gj).2
        rw [nI_clamp (by omega), (hcτ j gj).1]
        refine wm_aload_n 19 rfl dX0_joinClusters_18 rfl rfl ?_
        refine wm_callUi (ty := .int) (x := ⟨"Assetmerge$Finder", "membersOf", "(ILAssetmerge$Inventory;)I"⟩) (C := RX2) 22 rfl dX0_joinClusters_19 (k_memJ l hIτ hcτ (x := c j) (by omega)) ca_X0_membersOf rfl aw_7_12 aw_7_11 aw_7_10 aw_7_9 rfl rfl ⟨Nat.le_of_ble_eq_true rfl, Nat.le_of_ble_eq_true rfl⟩ (Nat.le_of_ble_eq_true rfl) ⟨Nat.zero_le _, Nat.zero_le _⟩ ?_
        rintro r9 σ9 ⟨rfl, hmk⟩
        refine wm_iload_n 23 rfl dX0_joinClusters_22 rfl rfl ?_
        refine wm_callVi (ty := .boolean) 26 rfl dX0_joinClusters_23 (k_X1_mayJoin l hIτ r9 (k := k) hk) ca_X1_mayJoin cv_X1_mayJoin rfl aw_7_16 rfl rfl ⟨Nat.le_of_ble_eq_true rfl, Nat.le_of_ble_eq_true rfl⟩ (Nat.le_of_ble_eq_true rfl) ⟨Nat.zero_le _, Nat.zero_le _⟩ ?_
        rintro r8 σ9 ⟨rfl, rfl⟩
        have hmj : mjP τ n r9 k ↔ mjq n (kyC σ) (fbC σ) k (fun x => hd σ n x ∧ c x = c j) := (mjP_iff h24 hmk (fun i hi => hi.1.1)).trans ((mjq_eq (fun s hs => by funext r; exact congrFun (hinv.1 (7 + s) (by omega)) r) (by funext a b; show (tb (τ 13 a) b = true) = _; rw [hinv.1 13 (by omega)])).trans (by rw [show (fun x => hd τ n x ∧ c x = c j) = (fun x => hd σ n x ∧ c x = c j) from funext fun x => propext (by rw [hd_ag n x h1])]))
        refine wm_istore (ls' := [(4, _), (0, _), (1, _), (2, _), (3, _)]) 28 rfl dX0_joinClusters_26 (by decide) rfl ?_
        refine wm_aload_n 29 rfl dX0_joinClusters_28 rfl rfl ?_
        refine wm_getR 32 rfl dX0_joinClusters_29 gf_X0_11_1 rfl rfl ?_
        refine wm_iload_n 33 rfl dX0_joinClusters_32 rfl rfl ?_
        refine wm_aaload (r := 17 + k) 34 rfl dX0_joinClusters_33 rfl (vp_in_nI hk (by omega)) (by rw [nI_clamp (by omega)]) ?_
        refine wm_iload_n 35 rfl dX0_joinClusters_34 rfl rfl ?_
        refine wm_iload 37 rfl dX0_joinClusters_35 rfl ?_
        refine wm_if_eq 49 40 rfl (by decide) dX0_joinClusters_37 (fun c37 => ?_) (fun c37 => ?_)
        · refine wm_aload_n 50 rfl dX0_joinClusters_49 rfl rfl ?_
          refine wm_iload_n 51 rfl dX0_joinClusters_50 rfl rfl ?_
          refine wm_iload_n 52 rfl dX0_joinClusters_51 rfl rfl ?_
          refine wm_callUi (ty := .int) (x := ⟨"Assetmerge$Finder", "groupBefore", "(II)I"⟩) (C := RX2) 55 rfl dX0_joinClusters_52 (k_gbJ l h24 hk gj hgτ) ca_X0_groupBefore rfl aw_5_6 aw_5_5 aw_5_4 aw_5_3 rfl rfl ⟨Nat.le_of_ble_eq_true rfl, Nat.le_of_ble_eq_true rfl⟩ (Nat.le_of_ble_eq_true rfl) ⟨Nat.zero_le _, Nat.zero_le _⟩ ?_
          rintro r9 σ9 ⟨rfl, rfl⟩
          refine wm_iastore 56 rfl dX0_joinClusters_55 (Lc_gJ hk) (in24 gj h24) ?_
          refine wm_iinc (ls' := [(3, _), (4, _), (0, _), (1, _), (2, _)]) 59 rfl dX0_joinClusters_56 rfl (nI_inc _) (by decide) rfl ?_
          refine wm_goto 2 (by decide) dX0_joinClusters_59 ?_
          refine wm_loc (ls2 := [(0, _), (1, _), (2, _), (3, _)]) [2, 3, 4, 0] rfl ?_
          rw [nI_clamp (by omega)]
          try rw [(hcτ j gj).1]
          refine ih (n - (j + 1)) (by omega) (j + 1) _ rfl (by omega) ⟨fun a ha => by rw [zu_ne _ _ _ ha]; exact hinv.1 a ha, fun r hr => ?_⟩
          rw [zu_at]
          by_cases e : r = j
          · subst e
            first
              | (rw [g1f_f (fun q => zp_0.mp c37 (hmj.mpr q))]; simp [upd]; done)
              | (rw [g1f_t (hmj.mp (zp_n.mp c37))]; simp [upd]; done)
          · simp only [upd, if_neg e]
            exact hinv.2 r (by omega)
        · refine wm_aload_n 41 rfl dX0_joinClusters_40 rfl rfl ?_
          refine wm_getR 44 rfl dX0_joinClusters_41 gf_X0_16_1 rfl rfl ?_
          refine wm_iload_n 45 rfl dX0_joinClusters_44 rfl rfl ?_
          refine wm_iaload 46 rfl dX0_joinClusters_45 rfl (in24 gj h24) ?_
          refine wm_goto 55 (by decide) dX0_joinClusters_46 ?_
          refine wm_iastore 56 rfl dX0_joinClusters_55 (Lc_gJ hk) (in24 gj h24) ?_
          refine wm_iinc (ls' := [(3, _), (4, _), (0, _), (1, _), (2, _)]) 59 rfl dX0_joinClusters_56 rfl (nI_inc _) (by decide) rfl ?_
          refine wm_goto 2 (by decide) dX0_joinClusters_59 ?_
          refine wm_loc (ls2 := [(0, _), (1, _), (2, _), (3, _)]) [2, 3, 4, 0] rfl ?_
          rw [nI_clamp (by omega)]
          try rw [(hcτ j gj).1]
          refine ih (n - (j + 1)) (by omega) (j + 1) _ rfl (by omega) ⟨fun a ha => by rw [zu_ne _ _ _ ha]; exact hinv.1 a ha, fun r hr => ?_⟩
          rw [zu_at]
          by_cases e : r = j
          · subst e
            first
              | (rw [g1f_f (fun q => zp_0.mp c37 (hmj.mpr q))]; simp [upd]; done)
              | (rw [g1f_t (hmj.mp (zp_n.mp c37))]; simp [upd]; done)
          · simp only [upd, if_neg e]
            exact hinv.2 r (by omega)
  refine wm_iconst (v := 0) 1 rfl dX0_joinClusters_0 (by decide) ?_
  refine wm_istore_n (ls' := [(3, _), (0, _), (1, _), (2, _)]) 2 rfl dX0_joinClusters_1 rfl (by decide) rfl ?_
  refine wm_loc (ls2 := [(0, _), (1, _), (2, _), (3, _)]) [1, 2, 3, 0] rfl ?_
  exact lp n 0 σ rfl (Nat.zero_le _) ⟨fun _ _ => rfl, fun r hr => absurd hr (Nat.not_lt_zero r)⟩
theorem k_gbS (l : Launch) {σ : Sg} {n : Nat} (h24 : n ≤ 24) {k r : Nat} {g0 : Nat → Nat} (hk : k < 3) (hr : r < n) (hg : gbP σ 23 n k g0) : cMi l yX0_groupBefore cX0_groupBefore 3 .int 0 Lc [.ref 21, .int (nI r), .int (nI k)] σ (pP σ (nI (g0 r))) := by
  refine zMet_of (by decide +kernel) (Nat.le_of_ble_eq_true rfl) (fun D cT ad sz => ?_)
  show Wm (fun _ _ => True) l (rmh 0) RX0 cX0_groupBefore 3 (some .int) D cT ad Lc (zA ad Lc.length sz) (zZ (fun D cT ad L sz => zQi D cT ad L sz (pP σ (nI (g0 r)))) D cT ad Lc sz) [] 0 (lv_args 0 [.ref 21, .int (nI r), .int (nI k)]) [] σ 0 0
  refine wm_iload_n 1 rfl dX0_groupBefore_0 rfl rfl ?_
  refine wm_if_le 17 4 rfl (by decide) dX0_groupBefore_1 (fun c1 => ?_) (fun c1 => ?_)
  · have e : k = 0 := by have := le_of_nI (b := 0) c1 (by omega) (by omega); omega
    refine wm_iload_n 18 rfl dX0_groupBefore_17 rfl rfl ?_
    exact wm_iret dX0_groupBefore_18 (by first | rfl | exact zp_nar) ⟨rfl, by rw [(hg r hr).2.1 e]⟩
  · obtain ⟨k', rfl⟩ : ∃ k', k = k' + 1 := ⟨k - 1, by have := lt_of_nnI (b := 0) c1 (by omega) (by omega); omega⟩
    refine wm_aload_n 5 rfl dX0_groupBefore_4 rfl rfl ?_
    refine wm_getR 8 rfl dX0_groupBefore_5 gf_X0_11_2 rfl rfl ?_
    refine wm_iload_n 9 rfl dX0_groupBefore_8 rfl rfl ?_
    refine wm_iconst (v := 1) 10 rfl dX0_groupBefore_9 (by decide) ?_
    refine wm_isub 11 rfl dX0_groupBefore_10 ?_
    rw [show nI (k' + 1) - 1 = nI k' from nI_pred k']
    refine wm_aaload (r := 23 + k') 12 rfl dX0_groupBefore_11 rfl (vp_in_nI (by omega) (by omega)) (by rw [nI_clamp (by omega)]) ?_
    refine wm_iload_n 13 rfl dX0_groupBefore_12 rfl rfl ?_
    refine wm_iaload 14 rfl dX0_groupBefore_13 (Lc_gS (by omega)) (in24 hr h24) ?_
    refine wm_goto 18 (by decide) dX0_groupBefore_14 ?_
    exact wm_iret dX0_groupBefore_18 (by first | rfl | exact zp_nar) ⟨rfl, by rw [nI_clamp (by omega), (hg r hr).2.2 k' rfl]⟩
theorem k_memS (l : Launch) {σ : Sg} {n : Nat} (hI : cI σ n) {c : Nat → Nat} (hc : lab σ 26 n c) {x : Nat} (hx : x < n) : cMi l yX0_membersOf cX0_membersOf 5 .int 2 Lc [.ref 21, .int (nI x), .ref 1] σ (fun v σ1 => σ = σ1 ∧ ∀ i, i < 32 → (tb v i = true ↔ (hd σ n i ∧ c i = x))) := by
  have h24 := hI.2
  refine zMet_of (by decide +kernel) (Nat.le_of_ble_eq_true rfl) (fun D cT ad sz => ?_)
  show Wm (fun _ _ => True) l (rmh 2) RX0 cX0_membersOf 5 (some .int) D cT ad Lc (zA ad Lc.length sz) (zZ (fun D cT ad L sz => zQi D cT ad L sz (fun v σ1 => σ = σ1 ∧ ∀ i, i < 32 → (tb v i = true ↔ (hd σ n i ∧ c i = x)))) D cT ad Lc sz) [] 0 (lv_args 0 [.ref 21, .int (nI x), .ref 1]) [] σ 0 0
  have lp : ∀ (q9 j : Nat) (m : Int32), n - j = q9 → j ≤ n → (∀ i, i < 32 → (tb m i = true ↔ (i < j ∧ hd σ n i ∧ c i = x))) → Wm (fun _ _ => True) l (rmh 2) RX0 cX0_membersOf 5 (some .int) D cT ad Lc (zA ad Lc.length sz) (zZ (fun D cT ad L sz => zQi D cT ad L sz (fun v σ1 => σ = σ1 ∧ ∀ i, i < 32 → (tb v i = true ↔ (hd σ n i ∧ c i = x)))) D cT ad Lc sz) [] 5 [(0, .ref 21), (1, .int (nI x)), (2, .ref 1), (3, .int m), (4, .int (nI j))] [] σ 0 0 := by
    intro q9
    induction q9 using Nat.strongRecOn with
    | ind q9 ih =>
      intro j m hmj hjj hinv
      refine wm_iload 7 rfl dX0_membersOf_5 rfl ?_
      refine wm_aload_n 8 rfl dX0_membersOf_7 rfl rfl ?_
      refine wm_getI 11 rfl dX0_membersOf_8 gf_X0_20_0 rfl rfl ?_
      refine wm_icmp_ge 47 14 rfl (by decide) dX0_membersOf_11 (fun c11 => ?_) (fun c11 => ?_)
      · rw [hI.1] at c11
        have gj : j = n := by have := le_of_nI c11 (by omega) (by omega); omega
        refine wm_iload_n 48 rfl dX0_membersOf_47 rfl rfl ?_
        exact wm_iret dX0_membersOf_48 (by first | rfl | exact zp_nar) ⟨rfl, fun i hi => (hinv i hi).trans ⟨fun h => h.2, fun h => ⟨by have := h.1.1; omega, h⟩⟩⟩
      · rw [hI.1] at c11
        have gj : j < n := lt_of_nnI c11 (by omega) (by omega)
        refine wm_aload_n 15 rfl dX0_membersOf_14 rfl rfl ?_
        refine wm_iload 17 rfl dX0_membersOf_15 rfl ?_
        refine wm_callVi (ty := .boolean) 20 rfl dX0_membersOf_17 (k_holds l hI j (by omega)) ca_X1_holds cv_X1_holds rfl aw_7_14 rfl rfl ⟨Nat.le_of_ble_eq_true rfl, Nat.le_of_ble_eq_true rfl⟩ (Nat.le_of_ble_eq_true rfl) ⟨Nat.zero_le _, Nat.zero_le _⟩ ?_
        rintro r9 σ9 ⟨rfl, rfl⟩
        refine wm_if_eq 41 23 rfl (by decide) dX0_membersOf_20 (fun c20 => ?_) (fun c20 => ?_)
        · refine wm_iinc (ls' := [(4, _), (0, _), (1, _), (2, _), (3, _)]) 44 rfl dX0_membersOf_41 rfl (nI_inc _) (by decide) rfl ?_
          refine wm_goto 5 (by decide) dX0_membersOf_44 ?_
          refine wm_loc (ls2 := [(0, _), (1, _), (2, _), (3, _), (4, _)]) [1, 2, 3, 4, 0] rfl ?_
          have hcj := (hc j gj).2
          refine ih (n - (j + 1)) (by omega) (j + 1) _ rfl (by omega) (fun i hi => ?_)
          first
            | (rw [hinv i hi]; constructor
               · exact fun h => ⟨by omega, h.2⟩
               · exact fun h => ⟨by have : i ≠ j := fun e => zp_0.mp c20 (e ▸ h.2.1)
                                    omega, h.2⟩)
            | (rw [hinv i hi]; constructor
               · exact fun h => ⟨by omega, h.2⟩
               · exact fun h => ⟨by have : i ≠ j := fun e => c31 (by rw [← e, h.2.2])
                                    omega, h.2⟩)
            | (rw [tb_set m (by omega) i, Bool.or_eq_true, hinv i hi, decide_eq_true_iff]; constructor
               · rintro (h | h)
                 · exact ⟨by omega, h.2⟩
                 · subst h; exact ⟨by omega, zp_n.mp c20, eq_of_nI c31 (by omega) (by omega)⟩
               · intro h
                 by_cases e : i = j
                 · exact Or.inr e
                 · exact Or.inl ⟨by omega, h.2⟩)
        · refine wm_aload_n 24 rfl dX0_membersOf_23 rfl rfl ?_
          refine wm_getR 27 rfl dX0_membersOf_24 gf_X0_16_2 rfl rfl ?_
          refine wm_iload 29 rfl dX0_membersOf_27 rfl ?_
          refine wm_iaload 30 rfl dX0_membersOf_29 rfl (in24 gj h24) ?_
          refine wm_iload_n 31 rfl dX0_membersOf_30 rfl rfl ?_
          refine wm_icmp_ne 41 34 rfl (by decide) dX0_membersOf_31 (fun c31 => ?_) (fun c31 => ?_)
          · rw [nI_clamp (by omega), (hc j gj).1] at c31
            refine wm_iinc (ls' := [(4, _), (0, _), (1, _), (2, _), (3, _)]) 44 rfl dX0_membersOf_41 rfl (nI_inc _) (by decide) rfl ?_
            refine wm_goto 5 (by decide) dX0_membersOf_44 ?_
            refine wm_loc (ls2 := [(0, _), (1, _), (2, _), (3, _), (4, _)]) [1, 2, 3, 4, 0] rfl ?_
            have hcj := (hc j gj).2
            refine ih (n - (j + 1)) (by omega) (j + 1) _ rfl (by omega) (fun i hi => ?_)
            first
              | (rw [hinv i hi]; constructor
                 · exact fun h => ⟨by omega, h.2⟩
                 · exact fun h => ⟨by have : i ≠ j := fun e => zp_0.mp c20 (e ▸ h.2.1)
                                      omega, h.2⟩)
              | (rw [hinv i hi]; constructor
                 · exact fun h => ⟨by omega, h.2⟩
                 · exact fun h => ⟨by have : i ≠ j := fun e => c31 (by rw [← e, h.2.2])
                                      omega, h.2⟩)
              | (rw [tb_set m (by omega) i, Bool.or_eq_true, hinv i hi, decide_eq_true_iff]; constructor
                 · rintro (h | h)
                   · exact ⟨by omega, h.2⟩
                   · subst h; exact ⟨by omega, zp_n.mp c20, eq_of_nI c31 (by omega) (by omega)⟩
                 · intro h
                   by_cases e : i = j
                   · exact Or.inr e
                   · exact Or.inl ⟨by omega, h.2⟩)
          · rw [nI_clamp (by omega), (hc j gj).1] at c31
            refine wm_iload_n 35 rfl dX0_membersOf_34 rfl rfl ?_
            refine wm_iconst (v := 1) 36 rfl dX0_membersOf_35 (by decide) ?_
            refine wm_iload 38 rfl dX0_membersOf_36 rfl ?_
            refine wm_ishl 39 rfl dX0_membersOf_38 ?_
            refine wm_ior 40 rfl dX0_membersOf_39 ?_
            refine wm_istore_n (ls' := [(3, _), (0, _), (1, _), (2, _), (4, _)]) 41 rfl dX0_membersOf_40 rfl (by decide) rfl ?_
            refine wm_iinc (ls' := [(4, _), (3, _), (0, _), (1, _), (2, _)]) 44 rfl dX0_membersOf_41 rfl (nI_inc _) (by decide) rfl ?_
            refine wm_goto 5 (by decide) dX0_membersOf_44 ?_
            refine wm_loc (ls2 := [(0, _), (1, _), (2, _), (3, _), (4, _)]) [2, 3, 4, 1, 0] rfl ?_
            have hcj := (hc j gj).2
            refine ih (n - (j + 1)) (by omega) (j + 1) _ rfl (by omega) (fun i hi => ?_)
            first
              | (rw [hinv i hi]; constructor
                 · exact fun h => ⟨by omega, h.2⟩
                 · exact fun h => ⟨by have : i ≠ j := fun e => zp_0.mp c20 (e ▸ h.2.1)
                                      omega, h.2⟩)
              | (rw [hinv i hi]; constructor
                 · exact fun h => ⟨by omega, h.2⟩
                 · exact fun h => ⟨by have : i ≠ j := fun e => c31 (by rw [← e, h.2.2])
                                      omega, h.2⟩)
              | (rw [tb_set m (by omega) i, Bool.or_eq_true, hinv i hi, decide_eq_true_iff]; constructor
                 · rintro (h | h)
                   · exact ⟨by omega, h.2⟩
                   · subst h; exact ⟨by omega, zp_n.mp c20, eq_of_nI c31 (by omega) (by omega)⟩
                 · intro h
                   by_cases e : i = j
                   · exact Or.inr e
                   · exact Or.inl ⟨by omega, h.2⟩)
  refine wm_iconst (v := 0) 1 rfl dX0_membersOf_0 (by decide) ?_
  refine wm_istore_n (ls' := [(3, _), (0, _), (1, _), (2, _)]) 2 rfl dX0_membersOf_1 rfl (by decide) rfl ?_
  refine wm_iconst (v := 0) 3 rfl dX0_membersOf_2 (by decide) ?_
  refine wm_istore (ls' := [(4, _), (3, _), (0, _), (1, _), (2, _)]) 5 rfl dX0_membersOf_3 (by decide) rfl ?_
  refine wm_loc (ls2 := [(0, _), (1, _), (2, _), (3, _), (4, _)]) [2, 3, 4, 1, 0] rfl ?_
  exact lp n 0 0 rfl (Nat.zero_le _) (fun i hi => by simp [tb])
theorem k_jcS (l : Launch) {σ : Sg} {n : Nat} (hI : cI σ n) {k : Nat} (hk : k < 3) {c g0 : Nat → Nat} (hc : lab σ 26 n c) (hg : gbP σ 23 n k g0) : cMv l yX0_joinClusters cX0_joinClusters 5 3 Lc [.ref 21, .ref 1, .int (nI k)] σ (fun σ1 => agb (23 + k) σ σ1 ∧ lab σ1 (23 + k) n (g1f σ n k c g0)) := by
  have h24 := hI.2
  refine zMet_of (by decide +kernel) (Nat.le_of_ble_eq_true rfl) (fun D cT ad sz => ?_)
  show Wm (fun _ _ => True) l (rmh 3) RX0 cX0_joinClusters 5 none D cT ad Lc (zA ad Lc.length sz) (zZ (fun D cT ad L sz => zQv D cT ad L sz (fun σ1 => agb (23 + k) σ σ1 ∧ lab σ1 (23 + k) n (g1f σ n k c g0))) D cT ad Lc sz) [] 0 (lv_args 0 [.ref 21, .ref 1, .int (nI k)]) [] σ 0 0
  have lp : ∀ (q9 j : Nat) (τ : Sg), n - j = q9 → j ≤ n → agb (23 + k) σ τ ∧ (∀ r, r < j → τ (23 + k) r = nI (g1f σ n k c g0 r)) → Wm (fun _ _ => True) l (rmh 3) RX0 cX0_joinClusters 5 none D cT ad Lc (zA ad Lc.length sz) (zZ (fun D cT ad L sz => zQv D cT ad L sz (fun σ1 => agb (23 + k) σ σ1 ∧ lab σ1 (23 + k) n (g1f σ n k c g0))) D cT ad Lc sz) [] 2 [(0, .ref 21), (1, .ref 1), (2, .int (nI k)), (3, .int (nI j))] [] τ 0 0 := by
    intro q9
    induction q9 using Nat.strongRecOn with
    | ind q9 ih =>
      intro j τ hmj hjj hinv
      have h1 : τ 1 = σ 1 := hinv.1 1 (by omega)
      have hIτ : cI τ n := cI_ag h1 hI
      have hcτ : lab τ 26 n c := lab_ag hc (hinv.1 26 (by omega))
      have hgτ : gbP τ 23 n k g0 := gbP_ag hg (fun k9 e => hinv.1 _ (by omega))
      refine wm_iload_n 3 rfl dX0_joinClusters_2 rfl rfl ?_
      refine wm_aload_n 4 rfl dX0_joinClusters_3 rfl rfl ?_
      refine wm_getI 7 rfl dX0_joinClusters_4 gf_X0_20_0 rfl rfl ?_
      refine wm_icmp_ge 62 10 rfl (by decide) dX0_joinClusters_7 (fun c7 => ?_) (fun c7 => ?_)
      · rw [h1, hI.1] at c7
        have gj : j = n := by have := le_of_nI c7 (by omega) (by omega); omega
        exact wm_vret dX0_joinClusters_62 ⟨hinv.1, fun r hr => ⟨hinv.2 r (by omega), by unfold g1f; have := (hc r hr).2; have := (hg r hr).1; split <;> assumption⟩⟩
      · rw [h1, hI.1] at c7
        have gj : j < n := lt_of_nnI c7 (by omega) (by omega)
        refine wm_aload_n 11 rfl dX0_joinClusters_10 rfl rfl ?_
        refine wm_aload_n 12 rfl dX0_joinClusters_11 rfl rfl ?_
        refine wm_aload_n 13 rfl dX0_joinClusters_12 rfl rfl ?_
        refine wm_getR 16 rfl dX0_joinClusters_13 gf_X0_16_2 rfl rfl ?_
        refine wm_iload_n 17 rfl dX0_joinClusters_16 rfl rfl ?_
        refine wm_iaload 18 rfl dX0_joinClusters_17 rfl (in24 gj h24) ?_
        have hcj := (hcτ j gj).2
        rw [nI_clamp (by omega), (hcτ j gj).1]
        refine wm_aload_n 19 rfl dX0_joinClusters_18 rfl rfl ?_
        refine wm_callUi (ty := .int) (x := ⟨"Assetmerge$Finder", "membersOf", "(ILAssetmerge$Inventory;)I"⟩) (C := RX3) 22 rfl dX0_joinClusters_19 (k_memS l hIτ hcτ (x := c j) (by omega)) ca_X0_membersOf rfl aw_7_12 aw_7_15 aw_7_10 aw_7_9 rfl rfl ⟨Nat.le_of_ble_eq_true rfl, Nat.le_of_ble_eq_true rfl⟩ (Nat.le_of_ble_eq_true rfl) ⟨Nat.zero_le _, Nat.zero_le _⟩ ?_
        rintro r9 σ9 ⟨rfl, hmk⟩
        refine wm_iload_n 23 rfl dX0_joinClusters_22 rfl rfl ?_
        refine wm_callVi (ty := .boolean) 26 rfl dX0_joinClusters_23 (k_X1_mayJoin l hIτ r9 (k := k) hk) ca_X1_mayJoin cv_X1_mayJoin rfl aw_7_16 rfl rfl ⟨Nat.le_of_ble_eq_true rfl, Nat.le_of_ble_eq_true rfl⟩ (Nat.le_of_ble_eq_true rfl) ⟨Nat.zero_le _, Nat.zero_le _⟩ ?_
        rintro r8 σ9 ⟨rfl, rfl⟩
        have hmj : mjP τ n r9 k ↔ mjq n (kyC σ) (fbC σ) k (fun x => hd σ n x ∧ c x = c j) := (mjP_iff h24 hmk (fun i hi => hi.1.1)).trans ((mjq_eq (fun s hs => by funext r; exact congrFun (hinv.1 (7 + s) (by omega)) r) (by funext a b; show (tb (τ 13 a) b = true) = _; rw [hinv.1 13 (by omega)])).trans (by rw [show (fun x => hd τ n x ∧ c x = c j) = (fun x => hd σ n x ∧ c x = c j) from funext fun x => propext (by rw [hd_ag n x h1])]))
        refine wm_istore (ls' := [(4, _), (0, _), (1, _), (2, _), (3, _)]) 28 rfl dX0_joinClusters_26 (by decide) rfl ?_
        refine wm_aload_n 29 rfl dX0_joinClusters_28 rfl rfl ?_
        refine wm_getR 32 rfl dX0_joinClusters_29 gf_X0_11_2 rfl rfl ?_
        refine wm_iload_n 33 rfl dX0_joinClusters_32 rfl rfl ?_
        refine wm_aaload (r := 23 + k) 34 rfl dX0_joinClusters_33 rfl (vp_in_nI hk (by omega)) (by rw [nI_clamp (by omega)]) ?_
        refine wm_iload_n 35 rfl dX0_joinClusters_34 rfl rfl ?_
        refine wm_iload 37 rfl dX0_joinClusters_35 rfl ?_
        refine wm_if_eq 49 40 rfl (by decide) dX0_joinClusters_37 (fun c37 => ?_) (fun c37 => ?_)
        · refine wm_aload_n 50 rfl dX0_joinClusters_49 rfl rfl ?_
          refine wm_iload_n 51 rfl dX0_joinClusters_50 rfl rfl ?_
          refine wm_iload_n 52 rfl dX0_joinClusters_51 rfl rfl ?_
          refine wm_callUi (ty := .int) (x := ⟨"Assetmerge$Finder", "groupBefore", "(II)I"⟩) (C := RX3) 55 rfl dX0_joinClusters_52 (k_gbS l h24 hk gj hgτ) ca_X0_groupBefore rfl aw_5_6 aw_5_8 aw_5_4 aw_5_3 rfl rfl ⟨Nat.le_of_ble_eq_true rfl, Nat.le_of_ble_eq_true rfl⟩ (Nat.le_of_ble_eq_true rfl) ⟨Nat.zero_le _, Nat.zero_le _⟩ ?_
          rintro r9 σ9 ⟨rfl, rfl⟩
          refine wm_iastore 56 rfl dX0_joinClusters_55 (Lc_gS hk) (in24 gj h24) ?_
          refine wm_iinc (ls' := [(3, _), (4, _), (0, _), (1, _), (2, _)]) 59 rfl dX0_joinClusters_56 rfl (nI_inc _) (by decide) rfl ?_
          refine wm_goto 2 (by decide) dX0_joinClusters_59 ?_
          refine wm_loc (ls2 := [(0, _), (1, _), (2, _), (3, _)]) [2, 3, 4, 0] rfl ?_
          rw [nI_clamp (by omega)]
          try rw [(hcτ j gj).1]
          refine ih (n - (j + 1)) (by omega) (j + 1) _ rfl (by omega) ⟨fun a ha => by rw [zu_ne _ _ _ ha]; exact hinv.1 a ha, fun r hr => ?_⟩
          rw [zu_at]
          by_cases e : r = j
          · subst e
            first
              | (rw [g1f_f (fun q => zp_0.mp c37 (hmj.mpr q))]; simp [upd]; done)
              | (rw [g1f_t (hmj.mp (zp_n.mp c37))]; simp [upd]; done)
          · simp only [upd, if_neg e]
            exact hinv.2 r (by omega)
        · refine wm_aload_n 41 rfl dX0_joinClusters_40 rfl rfl ?_
          refine wm_getR 44 rfl dX0_joinClusters_41 gf_X0_16_2 rfl rfl ?_
          refine wm_iload_n 45 rfl dX0_joinClusters_44 rfl rfl ?_
          refine wm_iaload 46 rfl dX0_joinClusters_45 rfl (in24 gj h24) ?_
          refine wm_goto 55 (by decide) dX0_joinClusters_46 ?_
          refine wm_iastore 56 rfl dX0_joinClusters_55 (Lc_gS hk) (in24 gj h24) ?_
          refine wm_iinc (ls' := [(3, _), (4, _), (0, _), (1, _), (2, _)]) 59 rfl dX0_joinClusters_56 rfl (nI_inc _) (by decide) rfl ?_
          refine wm_goto 2 (by decide) dX0_joinClusters_59 ?_
          refine wm_loc (ls2 := [(0, _), (1, _), (2, _), (3, _)]) [2, 3, 4, 0] rfl ?_
          rw [nI_clamp (by omega)]
          try rw [(hcτ j gj).1]
          refine ih (n - (j + 1)) (by omega) (j + 1) _ rfl (by omega) ⟨fun a ha => by rw [zu_ne _ _ _ ha]; exact hinv.1 a ha, fun r hr => ?_⟩
          rw [zu_at]
          by_cases e : r = j
          · subst e
            first
              | (rw [g1f_f (fun q => zp_0.mp c37 (hmj.mpr q))]; simp [upd]; done)
              | (rw [g1f_t (hmj.mp (zp_n.mp c37))]; simp [upd]; done)
          · simp only [upd, if_neg e]
            exact hinv.2 r (by omega)
  refine wm_iconst (v := 0) 1 rfl dX0_joinClusters_0 (by decide) ?_
  refine wm_istore_n (ls' := [(3, _), (0, _), (1, _), (2, _)]) 2 rfl dX0_joinClusters_1 rfl (by decide) rfl ?_
  refine wm_loc (ls2 := [(0, _), (1, _), (2, _), (3, _)]) [1, 2, 3, 0] rfl ?_
  exact lp n 0 σ rfl (Nat.zero_le _) ⟨fun _ _ => rfl, fun r hr => absurd hr (Nat.not_lt_zero r)⟩
