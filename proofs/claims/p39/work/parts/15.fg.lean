theorem ca_X2_findClusters : zCal yX2_findClusters cX2_findClusters 5 none 2 := ⟨aw_5_13, aw_1_21, by decide +kernel, by decide +kernel, by decide +kernel⟩
theorem ca_X0_joinClusters : zCal yX0_joinClusters cX0_joinClusters 5 none 2 := ⟨aw_7_8, aw_2_19, by decide +kernel, by decide +kernel, by decide +kernel⟩
theorem ca_X3_findClusters : zCal yX3_findClusters cX3_findClusters 5 none 2 := ⟨aw_6_12, aw_2_1, by decide +kernel, by decide +kernel, by decide +kernel⟩
def gbN (g : Nat → Nat → Nat) : Nat → Nat → Nat
  | 0 => fun r => r
  | k + 1 => g k
/-- the groups' numbers behind each step -/
noncomputable def gC (σ : Sg) (n : Nat) : Nat → Nat → Nat := gq n (hd σ n) (kyC σ) (fbC σ)
def FG (σ : Sg) (n G C k : Nat) (τ : Sg) : Prop := (∀ a, a < G ∨ C < a → τ a = σ a) ∧ ∃ g, ∀ s, s < k → lab τ (G + s) n (g s) ∧ stq n (hd σ n) (kyC σ) (fbC σ) s (gbN g s) (g s)
theorem gbN_LI {σ : Sg} {n k : Nat} {g : Nat → Nat → Nat} (h : ∀ s, s < k → stq n (hd σ n) (kyC σ) (fbC σ) s (gbN g s) (g s)) : ∀ s, s ≤ k → LIq n (hd σ n) (gbN g s)
  | 0, _ => LIq_id _ _
  | s + 1, hs => stq_LI (h s (by omega)) (gbN_LI h s (by omega))
theorem FG_gb {σ τ : Sg} {n G C k : Nat} {g : Nat → Nat → Nat} (h : ∀ s, s < k → lab τ (G + s) n (g s) ∧ stq n (hd σ n) (kyC σ) (fbC σ) s (gbN g s) (g s)) : gbP τ G n k (gbN g k) := by
  intro r hr
  refine ⟨(gbN_LI (fun s hs => (h s hs).2) k (Nat.le_refl _) r hr).1, ?_, ?_⟩
  · rintro rfl; rfl
  · rintro k' rfl
    exact ((h k' (by omega)).1 r hr).1
theorem g1f_ag {σ τ : Sg} {n k : Nat} {c g0 : Nat → Nat} (hk : k < 3) (h : ∀ a, a < 14 → τ a = σ a) (r : Nat) : g1f τ n k c g0 r = g1f σ n k c g0 r := by
  have e : mjq n (kyC τ) (fbC τ) k (fun x => hd τ n x ∧ c x = c r) ↔ mjq n (kyC σ) (fbC σ) k (fun x => hd σ n x ∧ c x = c r) := by
    rw [show (fun x => hd τ n x ∧ c x = c r) = (fun x => hd σ n x ∧ c x = c r) from funext fun x => propext (by rw [hd_ag n x (h 1 (by omega))])]
    exact mjq_eq (fun s hs => by funext r; exact congrFun (h (7 + s) (by omega)) r) (by funext a b; show (tb (τ 13 a) b = true) = _; rw [h 13 (by omega)])
  unfold g1f
  rw [propext e]
theorem g1f_stq {σ : Sg} {n k : Nat} {c g0 : Nat → Nat} (hc : Comp n (lkC σ n k g0) c) : stq n (hd σ n) (kyC σ) (fbC σ) k g0 (g1f σ n k c g0) := ⟨c, hc, fun _ _ => ⟨g1f_t, g1f_f⟩⟩
theorem FG_step {σ τ τ2 : Sg} {n G C k : Nat} {g : Nat → Nat → Nat} {c : Nat → Nat} (h : ∀ s, s < k → lab τ (G + s) n (g s) ∧ stq n (hd σ n) (kyC σ) (fbC σ) s (gbN g s) (g s)) (hc : Comp n (lkC σ n k (gbN g k)) c)
    (h0 : ∀ a, a < G ∨ C < a → τ2 a = σ a) (h1 : ∀ s, s < k → τ2 (G + s) = τ (G + s)) (h2 : lab τ2 (G + k) n (g1f σ n k c (gbN g k))) : FG σ n G C (k + 1) τ2 := by
  refine ⟨h0, fun s => if s = k then g1f σ n k c (gbN g k) else g s, fun s hs => ?_⟩
  have eg : ∀ t, t ≤ k → gbN (fun s => if s = k then g1f σ n k c (gbN g k) else g s) t = gbN g t := by
    intro t ht
    cases t with
    | zero => rfl
    | succ t => show (if t = k then _ else g t) = g t; rw [if_neg (by omega)]
  by_cases e : s = k
  · subst e
    rw [eg s (Nat.le_refl _)]
    simp only [if_true]
    exact ⟨h2, g1f_stq hc⟩
  · rw [eg s (by omega)]
    simp only [if_neg e]
    exact ⟨lab_ag (h s (by omega)).1 (h1 s (by omega)), (h s (by omega)).2⟩
theorem FG_end {σ τ : Sg} {n G C : Nat} (h : FG σ n G C 3 τ) : (∀ a, a < G ∨ C < a → τ a = σ a) ∧ grs n (hd σ n) (kyC σ) (fbC σ) (gC σ n) ∧ ∀ k, k < 3 → lab τ (G + k) n (gC σ n k) := by
  obtain ⟨h0, g, h1⟩ := h
  have hg : grs n (hd σ n) (kyC σ) (fbC σ) g := ⟨(h1 0 (by omega)).2, (h1 1 (by omega)).2, (h1 2 (by omega)).2⟩
  refine ⟨h0, gq_grs hg, fun k hk r hr => ?_⟩
  unfold gC
  rw [← gq_eq hg k r hk hr]
  exact (h1 k hk).1 r hr
theorem k_fgJ (l : Launch) {σ : Sg} {n : Nat} (hI : cI σ n) : cMv l yX0_findGroups cX0_findGroups 4 6 Lc [.ref 15, .ref 1] σ (fun σ1 => (∀ a, a < 17 ∨ 20 < a → σ1 a = σ a) ∧ grs n (hd σ n) (kyC σ) (fbC σ) (gC σ n) ∧ ∀ k, k < 3 → lab σ1 (17 + k) n (gC σ n k)) := by
  have h24 := hI.2
  refine zMet_of (by decide +kernel) (Nat.le_of_ble_eq_true rfl) (fun D cT ad sz => ?_)
  show Wm (fun _ _ => True) l (rmh 6) RX0 cX0_findGroups 4 none D cT ad Lc (zA ad Lc.length sz) (zZ (fun D cT ad L sz => zQv D cT ad L sz (fun σ1 => (∀ a, a < 17 ∨ 20 < a → σ1 a = σ a) ∧ grs n (hd σ n) (kyC σ) (fbC σ) (gC σ n) ∧ ∀ k, k < 3 → lab σ1 (17 + k) n (gC σ n k))) D cT ad Lc sz) [] 0 (lv_args 0 [.ref 15, .ref 1]) [] σ 0 0
  have lpo : ∀ (q9 k : Nat) (τ : Sg), 3 - k = q9 → k ≤ 3 → FG σ n 17 20 k τ → Wm (fun _ _ => True) l (rmh 6) RX0 cX0_findGroups 4 none D cT ad Lc (zA ad Lc.length sz) (zZ (fun D cT ad L sz => zQv D cT ad L sz (fun σ1 => (∀ a, a < 17 ∨ 20 < a → σ1 a = σ a) ∧ grs n (hd σ n) (kyC σ) (fbC σ) (gC σ n) ∧ ∀ k, k < 3 → lab σ1 (17 + k) n (gC σ n k))) D cT ad Lc sz) [] 2 [(0, .ref 15), (1, .ref 1), (2, .int (nI k))] [] τ 0 0 := by
    intro q9
    induction q9 using Nat.strongRecOn with
    | ind q9 ih =>
      intro k τ hmk hjk hinv0
      obtain ⟨h0, g, hg⟩ := id hinv0
      have hLI : LIq n (hd σ n) (gbN g k) := gbN_LI (fun s hs => (hg s hs).2) k (Nat.le_refl _)
      have hgP : gbP τ 17 n k (gbN g k) := FG_gb (C := 20) hg
      have lpi : ∀ (q9 j : Nat) (τ2 : Sg), n - j = q9 → j ≤ n → k < 3 → agb 20 τ τ2 → (∀ r, r < j → τ2 20 r = nI (gbN g k r)) → Wm (fun _ _ => True) l (rmh 6) RX0 cX0_findGroups 4 none D cT ad Lc (zA ad Lc.length sz) (zZ (fun D cT ad L sz => zQv D cT ad L sz (fun σ1 => (∀ a, a < 17 ∨ 20 < a → σ1 a = σ a) ∧ grs n (hd σ n) (kyC σ) (fbC σ) (gC σ n) ∧ ∀ k, k < 3 → lab σ1 (17 + k) n (gC σ n k))) D cT ad Lc sz) [] 9 [(0, .ref 15), (1, .ref 1), (2, .int (nI k)), (3, .int (nI j))] [] τ2 0 0 := by
        intro q9
        induction q9 using Nat.strongRecOn with
        | ind q9 ih2 =>
          intro j τ2 hmj hjj gk ha2 hv2
          have h1 : τ2 1 = σ 1 := (ha2 1 (by omega)).trans (h0 1 (by omega))
          have hI2 : cI τ2 n := cI_ag h1 hI
          have hg2 : gbP τ2 17 n k (gbN g k) := gbP_ag hgP (fun k9 e => ha2 _ (by omega))
          refine wm_iload_n 10 rfl dX0_findGroups_9 rfl rfl ?_
          refine wm_aload_n 11 rfl dX0_findGroups_10 rfl rfl ?_
          refine wm_getI 14 rfl dX0_findGroups_11 gf_X0_20_0 rfl rfl ?_
          refine wm_icmp_ge 35 17 rfl (by decide) dX0_findGroups_14 (fun c14 => ?_) (fun c14 => ?_)
          · rw [h1, hI.1] at c14
            have gj : j = n := by have := le_of_nI c14 (by omega) (by omega); omega
            have hl2 : lab τ2 20 n (gbN g k) := fun r hr => ⟨hv2 r (by omega), (hLI r hr).1⟩
            have hlk : lkC τ2 n k (gbN g k) = lkC σ n k (gbN g k) := by funext a b; unfold lkC lkq; rw [hd_ag n a h1, hd_ag n b h1]; simp only [kyC]; rw [ha2 (7 + k) (by omega), h0 (7 + k) (by omega)]
            refine wm_aload_n 36 rfl dX0_findGroups_35 rfl rfl ?_
            refine wm_aload_n 37 rfl dX0_findGroups_36 rfl rfl ?_
            refine wm_iload_n 38 rfl dX0_findGroups_37 rfl rfl ?_
            refine wm_callAv (x := ⟨"Assetmerge$Finder", "findClusters", "(LAssetmerge$Inventory;I)V"⟩) (C := RX2) (owner := "Assetmerge$Finder") 41 rfl dX0_findGroups_38 (k_X2_findClusters l hI2 gk hl2 (fun r hr => (hLI r hr).2.1)) ca_X2_findClusters (by decide +kernel) ⟨by decide +kernel, by decide +kernel, (show (parseMethodDescriptor "(LAssetmerge$Inventory;I)V").map (fun d => d.parameters.length) = some 2 by decide +kernel)⟩ aw_5_12 aw_5_11 aw_5_10 aw_5_9 rfl rfl ⟨Nat.le_of_ble_eq_true rfl, Nat.le_of_ble_eq_true rfl⟩ (Nat.le_of_ble_eq_true rfl) ⟨Nat.zero_le _, Nat.zero_le _⟩ ?_
            rintro σ9 ⟨ha9, c, hl9, hc9⟩
            rw [hlk] at hc9
            have h19 : σ9 1 = σ 1 := (ha9 1 (by omega)).trans h1
            have hI9 : cI σ9 n := cI_ag h19 hI
            have hgb9 : gbP σ9 17 n k (gbN g k) := gbP_ag hg2 (fun k9 e => ha9 _ (by omega))
            refine wm_aload_n 42 rfl dX0_findGroups_41 rfl rfl ?_
            refine wm_aload_n 43 rfl dX0_findGroups_42 rfl rfl ?_
            refine wm_iload_n 44 rfl dX0_findGroups_43 rfl rfl ?_
            refine wm_callUv (x := ⟨"Assetmerge$Finder", "joinClusters", "(LAssetmerge$Inventory;I)V"⟩) (C := RX2) 47 rfl dX0_findGroups_44 (k_jcJ l hI9 gk hl9 hgb9) ca_X0_joinClusters rfl aw_7_7 aw_7_6 aw_7_5 aw_7_4 rfl rfl ⟨Nat.le_of_ble_eq_true rfl, Nat.le_of_ble_eq_true rfl⟩ (Nat.le_of_ble_eq_true rfl) ⟨Nat.zero_le _, Nat.zero_le _⟩ ?_
            rintro σ8 ⟨ha8, hl8⟩
            refine wm_iinc (ls' := [(2, _), (0, _), (1, _), (3, _)]) 50 rfl dX0_findGroups_47 rfl (nI_inc _) (by decide) rfl ?_
            refine wm_goto 2 (by decide) dX0_findGroups_50 ?_
            refine wm_loc (ls2 := [(0, _), (1, _), (2, _)]) [1, 2, 0] rfl ?_
            refine ih (3 - (k + 1)) (by omega) (k + 1) σ8 rfl (by omega) (FG_step hg hc9 (fun a ha => ?_) (fun s hs => ?_) ?_)
            · rw [ha8 a (by omega), ha9 a (by omega), ha2 a (by omega), h0 a ha]
            · rw [ha8 _ (by omega), ha9 _ (by omega), ha2 _ (by omega)]
            · intro r hr
              rw [← g1f_ag (τ := σ9) gk (fun a ha => by rw [ha9 a (by omega), ha2 a (by omega), h0 a (by omega)]) r]
              exact hl8 r hr
          · rw [h1, hI.1] at c14
            have gj : j < n := lt_of_nnI c14 (by omega) (by omega)
            refine wm_aload_n 18 rfl dX0_findGroups_17 rfl rfl ?_
            refine wm_getR 21 rfl dX0_findGroups_18 gf_X0_16_1 rfl rfl ?_
            refine wm_iload_n 22 rfl dX0_findGroups_21 rfl rfl ?_
            refine wm_aload_n 23 rfl dX0_findGroups_22 rfl rfl ?_
            refine wm_iload_n 24 rfl dX0_findGroups_23 rfl rfl ?_
            refine wm_iload_n 25 rfl dX0_findGroups_24 rfl rfl ?_
            refine wm_callUi (ty := .int) (x := ⟨"Assetmerge$Finder", "groupBefore", "(II)I"⟩) (C := RX2) 28 rfl dX0_findGroups_25 (k_gbJ l h24 gk gj hg2) ca_X0_groupBefore rfl aw_5_6 aw_5_5 aw_5_4 aw_5_3 rfl rfl ⟨Nat.le_of_ble_eq_true rfl, Nat.le_of_ble_eq_true rfl⟩ (Nat.le_of_ble_eq_true rfl) ⟨Nat.zero_le _, Nat.zero_le _⟩ ?_
            rintro r9 σ9 ⟨rfl, rfl⟩
            refine wm_iastore 29 rfl dX0_findGroups_28 rfl (in24 gj h24) ?_
            rw [nI_clamp (by omega)]
            refine wm_iinc (ls' := [(3, _), (0, _), (1, _), (2, _)]) 32 rfl dX0_findGroups_29 rfl (nI_inc _) (by decide) rfl ?_
            refine wm_goto 9 (by decide) dX0_findGroups_32 ?_
            refine wm_loc (ls2 := [(0, _), (1, _), (2, _), (3, _)]) [1, 2, 3, 0] rfl ?_
            refine ih2 (n - (j + 1)) (by omega) (j + 1) _ rfl (by omega) gk (fun a ha => by rw [zu_ne _ _ _ ha]; exact ha2 a ha) (fun r hr => ?_)
            rw [zu_at]
            by_cases e : r = j
            · subst e; simp [upd]
            · simp only [upd, if_neg e]; exact hv2 r (by omega)
      refine wm_iload_n 3 rfl dX0_findGroups_2 rfl rfl ?_
      refine wm_iconst (v := 3) 4 rfl dX0_findGroups_3 (by decide) ?_
      refine wm_icmp_ge 53 7 rfl (by decide) dX0_findGroups_4 (fun c4 => ?_) (fun c4 => ?_)
      · have gk : k = 3 := by have := le_of_nI (a := 3) c4 (by omega) (by omega); omega
        exact wm_vret dX0_findGroups_53 (by subst gk; exact FG_end hinv0)
      · have gk : k < 3 := lt_of_nnI (a := 3) c4 (by omega) (by omega)
        refine wm_iconst (v := 0) 8 rfl dX0_findGroups_7 (by decide) ?_
        refine wm_istore_n (ls' := [(3, _), (0, _), (1, _), (2, _)]) 9 rfl dX0_findGroups_8 rfl (by decide) rfl ?_
        refine wm_loc (ls2 := [(0, _), (1, _), (2, _), (3, _)]) [1, 2, 3, 0] rfl ?_
        exact lpi n 0 τ rfl (Nat.zero_le _) gk (fun _ _ => rfl) (fun r hr => absurd hr (Nat.not_lt_zero r))
  refine wm_iconst (v := 0) 1 rfl dX0_findGroups_0 (by decide) ?_
  refine wm_istore_n (ls' := [(2, _), (0, _), (1, _)]) 2 rfl dX0_findGroups_1 rfl (by decide) rfl ?_
  refine wm_loc (ls2 := [(0, _), (1, _), (2, _)]) [1, 2, 0] rfl ?_
  exact lpo 3 0 σ rfl (Nat.zero_le _) ⟨fun _ _ => rfl, fun _ r => r, fun s hs => absurd hs (Nat.not_lt_zero s)⟩
theorem k_fgS (l : Launch) {σ : Sg} {n : Nat} (hI : cI σ n) : cMv l yX0_findGroups cX0_findGroups 4 6 Lc [.ref 21, .ref 1] σ (fun σ1 => (∀ a, a < 23 ∨ 26 < a → σ1 a = σ a) ∧ grs n (hd σ n) (kyC σ) (fbC σ) (gC σ n) ∧ ∀ k, k < 3 → lab σ1 (23 + k) n (gC σ n k)) := by
  have h24 := hI.2
  refine zMet_of (by decide +kernel) (Nat.le_of_ble_eq_true rfl) (fun D cT ad sz => ?_)
  show Wm (fun _ _ => True) l (rmh 6) RX0 cX0_findGroups 4 none D cT ad Lc (zA ad Lc.length sz) (zZ (fun D cT ad L sz => zQv D cT ad L sz (fun σ1 => (∀ a, a < 23 ∨ 26 < a → σ1 a = σ a) ∧ grs n (hd σ n) (kyC σ) (fbC σ) (gC σ n) ∧ ∀ k, k < 3 → lab σ1 (23 + k) n (gC σ n k))) D cT ad Lc sz) [] 0 (lv_args 0 [.ref 21, .ref 1]) [] σ 0 0
  have lpo : ∀ (q9 k : Nat) (τ : Sg), 3 - k = q9 → k ≤ 3 → FG σ n 23 26 k τ → Wm (fun _ _ => True) l (rmh 6) RX0 cX0_findGroups 4 none D cT ad Lc (zA ad Lc.length sz) (zZ (fun D cT ad L sz => zQv D cT ad L sz (fun σ1 => (∀ a, a < 23 ∨ 26 < a → σ1 a = σ a) ∧ grs n (hd σ n) (kyC σ) (fbC σ) (gC σ n) ∧ ∀ k, k < 3 → lab σ1 (23 + k) n (gC σ n k))) D cT ad Lc sz) [] 2 [(0, .ref 21), (1, .ref 1), (2, .int (nI k))] [] τ 0 0 := by
    intro q9
    induction q9 using Nat.strongRecOn with
    | ind q9 ih =>
      intro k τ hmk hjk hinv0
      obtain ⟨h0, g, hg⟩ := id hinv0
      have hLI : LIq n (hd σ n) (gbN g k) := gbN_LI (fun s hs => (hg s hs).2) k (Nat.le_refl _)
      have hgP : gbP τ 23 n k (gbN g k) := FG_gb (C := 26) hg
      have lpi : ∀ (q9 j : Nat) (τ2 : Sg), n - j = q9 → j ≤ n → k < 3 → agb 26 τ τ2 → (∀ r, r < j → τ2 26 r = nI (gbN g k r)) → Wm (fun _ _ => True) l (rmh 6) RX0 cX0_findGroups 4 none D cT ad Lc (zA ad Lc.length sz) (zZ (fun D cT ad L sz => zQv D cT ad L sz (fun σ1 => (∀ a, a < 23 ∨ 26 < a → σ1 a = σ a) ∧ grs n (hd σ n) (kyC σ) (fbC σ) (gC σ n) ∧ ∀ k, k < 3 → lab σ1 (23 + k) n (gC σ n k))) D cT ad Lc sz) [] 9 [(0, .ref 21), (1, .ref 1), (2, .int (nI k)), (3, .int (nI j))] [] τ2 0 0 := by
        intro q9
        induction q9 using Nat.strongRecOn with
        | ind q9 ih2 =>
          intro j τ2 hmj hjj gk ha2 hv2
          have h1 : τ2 1 = σ 1 := (ha2 1 (by omega)).trans (h0 1 (by omega))
          have hI2 : cI τ2 n := cI_ag h1 hI
          have hg2 : gbP τ2 23 n k (gbN g k) := gbP_ag hgP (fun k9 e => ha2 _ (by omega))
          refine wm_iload_n 10 rfl dX0_findGroups_9 rfl rfl ?_
          refine wm_aload_n 11 rfl dX0_findGroups_10 rfl rfl ?_
          refine wm_getI 14 rfl dX0_findGroups_11 gf_X0_20_0 rfl rfl ?_
          refine wm_icmp_ge 35 17 rfl (by decide) dX0_findGroups_14 (fun c14 => ?_) (fun c14 => ?_)
          · rw [h1, hI.1] at c14
            have gj : j = n := by have := le_of_nI c14 (by omega) (by omega); omega
            have hl2 : lab τ2 26 n (gbN g k) := fun r hr => ⟨hv2 r (by omega), (hLI r hr).1⟩
            have hlk : lkC τ2 n k (gbN g k) = lkC σ n k (gbN g k) := by funext a b; unfold lkC lkq; rw [hd_ag n a h1, hd_ag n b h1]; simp only [kyC]; rw [ha2 (7 + k) (by omega), h0 (7 + k) (by omega)]
            have hg9 := hg2
            refine wm_aload_n 36 rfl dX0_findGroups_35 rfl rfl ?_
            refine wm_aload_n 37 rfl dX0_findGroups_36 rfl rfl ?_
            refine wm_iload_n 38 rfl dX0_findGroups_37 rfl rfl ?_
            refine wm_callAv (x := ⟨"Assetmerge$Finder", "findClusters", "(LAssetmerge$Inventory;I)V"⟩) (C := RX3) (owner := "Assetmerge$Finder") 41 rfl dX0_findGroups_38 (k_X3_findClusters l hI2 gk hl2 (fun r hr => (hLI r hr).2.1) hg9) ca_X3_findClusters (by decide +kernel) ⟨by decide +kernel, by decide +kernel, (show (parseMethodDescriptor "(LAssetmerge$Inventory;I)V").map (fun d => d.parameters.length) = some 2 by decide +kernel)⟩ aw_6_11 aw_6_10 aw_5_10 aw_5_9 rfl rfl ⟨Nat.le_of_ble_eq_true rfl, Nat.le_of_ble_eq_true rfl⟩ (Nat.le_of_ble_eq_true rfl) ⟨Nat.zero_le _, Nat.zero_le _⟩ ?_
            rintro σ9 ⟨ha9, c, hl9, hc9⟩
            rw [hlk] at hc9
            have h19 : σ9 1 = σ 1 := (ha9 1 (by omega)).trans h1
            have hI9 : cI σ9 n := cI_ag h19 hI
            have hgb9 : gbP σ9 23 n k (gbN g k) := gbP_ag hg2 (fun k9 e => ha9 _ (by omega))
            refine wm_aload_n 42 rfl dX0_findGroups_41 rfl rfl ?_
            refine wm_aload_n 43 rfl dX0_findGroups_42 rfl rfl ?_
            refine wm_iload_n 44 rfl dX0_findGroups_43 rfl rfl ?_
            refine wm_callUv (x := ⟨"Assetmerge$Finder", "joinClusters", "(LAssetmerge$Inventory;I)V"⟩) (C := RX3) 47 rfl dX0_findGroups_44 (k_jcS l hI9 gk hl9 hgb9) ca_X0_joinClusters rfl aw_7_7 aw_8_7 aw_7_5 aw_7_4 rfl rfl ⟨Nat.le_of_ble_eq_true rfl, Nat.le_of_ble_eq_true rfl⟩ (Nat.le_of_ble_eq_true rfl) ⟨Nat.zero_le _, Nat.zero_le _⟩ ?_
            rintro σ8 ⟨ha8, hl8⟩
            refine wm_iinc (ls' := [(2, _), (0, _), (1, _), (3, _)]) 50 rfl dX0_findGroups_47 rfl (nI_inc _) (by decide) rfl ?_
            refine wm_goto 2 (by decide) dX0_findGroups_50 ?_
            refine wm_loc (ls2 := [(0, _), (1, _), (2, _)]) [1, 2, 0] rfl ?_
            refine ih (3 - (k + 1)) (by omega) (k + 1) σ8 rfl (by omega) (FG_step hg hc9 (fun a ha => ?_) (fun s hs => ?_) ?_)
            · rw [ha8 a (by omega), ha9 a (by omega), ha2 a (by omega), h0 a ha]
            · rw [ha8 _ (by omega), ha9 _ (by omega), ha2 _ (by omega)]
            · intro r hr
              rw [← g1f_ag (τ := σ9) gk (fun a ha => by rw [ha9 a (by omega), ha2 a (by omega), h0 a (by omega)]) r]
              exact hl8 r hr
          · rw [h1, hI.1] at c14
            have gj : j < n := lt_of_nnI c14 (by omega) (by omega)
            refine wm_aload_n 18 rfl dX0_findGroups_17 rfl rfl ?_
            refine wm_getR 21 rfl dX0_findGroups_18 gf_X0_16_2 rfl rfl ?_
            refine wm_iload_n 22 rfl dX0_findGroups_21 rfl rfl ?_
            refine wm_aload_n 23 rfl dX0_findGroups_22 rfl rfl ?_
            refine wm_iload_n 24 rfl dX0_findGroups_23 rfl rfl ?_
            refine wm_iload_n 25 rfl dX0_findGroups_24 rfl rfl ?_
            refine wm_callUi (ty := .int) (x := ⟨"Assetmerge$Finder", "groupBefore", "(II)I"⟩) (C := RX3) 28 rfl dX0_findGroups_25 (k_gbS l h24 gk gj hg2) ca_X0_groupBefore rfl aw_5_6 aw_5_8 aw_5_4 aw_5_3 rfl rfl ⟨Nat.le_of_ble_eq_true rfl, Nat.le_of_ble_eq_true rfl⟩ (Nat.le_of_ble_eq_true rfl) ⟨Nat.zero_le _, Nat.zero_le _⟩ ?_
            rintro r9 σ9 ⟨rfl, rfl⟩
            refine wm_iastore 29 rfl dX0_findGroups_28 rfl (in24 gj h24) ?_
            rw [nI_clamp (by omega)]
            refine wm_iinc (ls' := [(3, _), (0, _), (1, _), (2, _)]) 32 rfl dX0_findGroups_29 rfl (nI_inc _) (by decide) rfl ?_
            refine wm_goto 9 (by decide) dX0_findGroups_32 ?_
            refine wm_loc (ls2 := [(0, _), (1, _), (2, _), (3, _)]) [1, 2, 3, 0] rfl ?_
            refine ih2 (n - (j + 1)) (by omega) (j + 1) _ rfl (by omega) gk (fun a ha => by rw [zu_ne _ _ _ ha]; exact ha2 a ha) (fun r hr => ?_)
            rw [zu_at]
            by_cases e : r = j
            · subst e; simp [upd]
            · simp only [upd, if_neg e]; exact hv2 r (by omega)
      refine wm_iload_n 3 rfl dX0_findGroups_2 rfl rfl ?_
      refine wm_iconst (v := 3) 4 rfl dX0_findGroups_3 (by decide) ?_
      refine wm_icmp_ge 53 7 rfl (by decide) dX0_findGroups_4 (fun c4 => ?_) (fun c4 => ?_)
      · have gk : k = 3 := by have := le_of_nI (a := 3) c4 (by omega) (by omega); omega
        exact wm_vret dX0_findGroups_53 (by subst gk; exact FG_end hinv0)
      · have gk : k < 3 := lt_of_nnI (a := 3) c4 (by omega) (by omega)
        refine wm_iconst (v := 0) 8 rfl dX0_findGroups_7 (by decide) ?_
        refine wm_istore_n (ls' := [(3, _), (0, _), (1, _), (2, _)]) 9 rfl dX0_findGroups_8 rfl (by decide) rfl ?_
        refine wm_loc (ls2 := [(0, _), (1, _), (2, _), (3, _)]) [1, 2, 3, 0] rfl ?_
        exact lpi n 0 τ rfl (Nat.zero_le _) gk (fun _ _ => rfl) (fun r hr => absurd hr (Nat.not_lt_zero r))
  refine wm_iconst (v := 0) 1 rfl dX0_findGroups_0 (by decide) ?_
  refine wm_istore_n (ls' := [(2, _), (0, _), (1, _)]) 2 rfl dX0_findGroups_1 rfl (by decide) rfl ?_
  refine wm_loc (ls2 := [(0, _), (1, _), (2, _)]) [1, 2, 0] rfl ?_
  exact lpo 3 0 σ rfl (Nat.zero_le _) ⟨fun _ _ => rfl, fun _ r => r, fun s hs => absurd hs (Nat.not_lt_zero s)⟩
