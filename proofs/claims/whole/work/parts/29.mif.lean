theorem ca_X5_isShared : zCal yX5_isShared cX5_isShared 5 (some .boolean) 2 := ⟨aw_25_4, aw_1_5, by decide +kernel, by decide +kernel, by decide +kernel⟩
theorem cv_X5_isShared : zCaV RX5 yX5_isShared := ⟨aw_25_2, aw_25_3⟩
theorem pf_X5_47_4 : zPF RX5 47 4 16 := ⟨RX5, TX5, 18, "AssetmergeModel", tyX5, rfl, zin_X5, by decide, aw_3_19, rfl, tyX5_ok, nmX5, rfl, by decide +kernel⟩
theorem ca_X5_setKey : zCal yX5_setKey cX5_setKey 5 (some .int) 3 := ⟨aw_8_9, aw_1_5, by decide +kernel, by decide +kernel, by decide +kernel⟩
theorem cv_X5_setKey : zCaV RX5 yX5_setKey := ⟨aw_8_7, aw_8_8⟩
theorem pf_X5_50_4 : zPF RX5 50 4 17 := ⟨RX5, TX5, 18, "AssetmergeModel", tyX5, rfl, zin_X5, by decide, aw_3_20, rfl, tyX5_ok, nmX5, rfl, by decide +kernel⟩
theorem gf_X5_37_4 : zGF RX5 37 4 11 := ⟨RX5, TX5, 18, "AssetmergeModel", rfl, zin_X5, by decide, aw_3_16, Or.inl rfl⟩
theorem pf_X5_37_4 : zPF RX5 37 4 11 := ⟨RX5, TX5, 18, "AssetmergeModel", tyX5, rfl, zin_X5, by decide, aw_3_16, rfl, tyX5_ok, nmX5, rfl, by decide +kernel⟩
theorem pf_X5_73_4 : zPF RX5 73 4 12 := ⟨RX5, TX5, 18, "AssetmergeModel", tyX5, rfl, zin_X5, by decide, aw_7_5, rfl, tyX5_ok, nmX5, rfl, by decide +kernel⟩
/-! THE MODEL'S CALLS: together, steps, shared, what if -/
theorem k_X5_areTogether (l : Launch) {σ : Sg} {n p : Nat} (hI : mI σ n) (hP : mP σ p) (hQ : mQ σ n p) (r o : Int32) : cMi l yX5_areTogether cX5_areTogether 3 .boolean 4 Lm [.ref 0, .int r, .int o] σ (fun v σ1 => mTh σ σ1 [(1, rcM σ n r), (1, rcM σ n o)] (∃ a b, r = nI a ∧ o = nI b ∧ (a < n ∧ σ 6 a = 0) ∧ (b < n ∧ σ 6 b = 0) ∧ mS 0 σ σ1 ∧ fG σ n p ∧ v = zp (gM σ n p 2 a = gM σ n p 2 b))) := by
  have h24 := hI.2
  have h12 := hP.2
  refine zMet_of (by decide +kernel) (Nat.le_of_ble_eq_true rfl) (fun D cT ad sz => ?_)
  show Wm (fun _ _ => True) l (rmh 4) RX5 cX5_areTogether 3 (some .boolean) D cT ad Lm (zA ad Lm.length sz) (zZ (fun D cT ad L9 sz => zQi D cT ad L9 sz (fun v σ1 => mTh σ σ1 [(1, rcM σ n r), (1, rcM σ n o)] (∃ a b, r = nI a ∧ o = nI b ∧ (a < n ∧ σ 6 a = 0) ∧ (b < n ∧ σ 6 b = 0) ∧ mS 0 σ σ1 ∧ fG σ n p ∧ v = zp (gM σ n p 2 a = gM σ n p 2 b)))) D cT ad Lm sz) [] 0 (lv_args 0 [.ref 0, .int r, .int o]) [] σ 0 0
  refine wm_aload_n 1 rfl dX5_areTogether_0 rfl rfl ?_
  refine wm_aload_n 2 rfl dX5_areTogether_1 rfl rfl ?_
  refine wm_iload_n 3 rfl dX5_areTogether_2 rfl rfl ?_
  refine wm_callVi (ty := .boolean) 6 rfl dX5_areTogether_3 (k_X5_isRecord l hI _) ca_X5_isRecord cv_X5_isRecord rfl aw_8_10 rfl rfl ⟨Nat.le_of_ble_eq_true rfl, Nat.le_of_ble_eq_true rfl⟩ (Nat.le_of_ble_eq_true rfl) ⟨Nat.zero_le _, Nat.zero_le _⟩ ?_
  rintro r9 σ9 ⟨rfl, rfl⟩
  refine wm_if_eq 21 9 rfl (by decide) dX5_areTogether_6 (fun c6 => ?_) (fun c6 => ?_)
  · refine wm_iconst (v := 1) 22 rfl dX5_areTogether_21 (by decide) ?_
    refine wm_putI 25 rfl dX5_areTogether_22 pf_X5_53_4 rfl rfl ?_
    refine wm_aload_n 26 rfl dX5_areTogether_25 rfl rfl ?_
    refine wm_getI 29 rfl dX5_areTogether_26 gf_X5_53_4 rfl rfl ?_
    refine wm_if_le 34 32 rfl (by decide) dX5_areTogether_29 (fun c29 => ?_) (fun c29 => ?_)
    · exact absurd (show (1 : Int32) ≤ 0 from c29) (by decide)
    · refine wm_iconst (v := 0) 33 rfl dX5_areTogether_32 (by decide) ?_
      exact wm_iret dX5_areTogether_33 (by first | rfl | exact zp_nar) (by first | exact Or.inl ⟨zp_0.mp c6, mS_thr _ _⟩ | exact Or.inr ⟨zp_n.mp c6, Or.inl ⟨zp_0.mp c14, mS_thr _ _⟩⟩)
  · refine wm_aload_n 10 rfl dX5_areTogether_9 rfl rfl ?_
    refine wm_iload_n 11 rfl dX5_areTogether_10 rfl rfl ?_
    refine wm_callVi (ty := .boolean) 14 rfl dX5_areTogether_11 (k_X5_isRecord l hI _) ca_X5_isRecord cv_X5_isRecord rfl aw_8_10 rfl rfl ⟨Nat.le_of_ble_eq_true rfl, Nat.le_of_ble_eq_true rfl⟩ (Nat.le_of_ble_eq_true rfl) ⟨Nat.zero_le _, Nat.zero_le _⟩ ?_
    rintro r9 σ9 ⟨rfl, rfl⟩
    refine wm_if_eq 21 17 rfl (by decide) dX5_areTogether_14 (fun c14 => ?_) (fun c14 => ?_)
    · refine wm_iconst (v := 1) 22 rfl dX5_areTogether_21 (by decide) ?_
      refine wm_putI 25 rfl dX5_areTogether_22 pf_X5_53_4 rfl rfl ?_
      refine wm_aload_n 26 rfl dX5_areTogether_25 rfl rfl ?_
      refine wm_getI 29 rfl dX5_areTogether_26 gf_X5_53_4 rfl rfl ?_
      refine wm_if_le 34 32 rfl (by decide) dX5_areTogether_29 (fun c29 => ?_) (fun c29 => ?_)
      · exact absurd (show (1 : Int32) ≤ 0 from c29) (by decide)
      · refine wm_iconst (v := 0) 33 rfl dX5_areTogether_32 (by decide) ?_
        exact wm_iret dX5_areTogether_33 (by first | rfl | exact zp_nar) (by first | exact Or.inl ⟨zp_0.mp c6, mS_thr _ _⟩ | exact Or.inr ⟨zp_n.mp c6, Or.inl ⟨zp_0.mp c14, mS_thr _ _⟩⟩)
    · refine wm_iconst (v := 0) 18 rfl dX5_areTogether_17 (by decide) ?_
      refine wm_goto 22 (by decide) dX5_areTogether_18 ?_
      refine wm_putI 25 rfl dX5_areTogether_22 pf_X5_53_4 rfl rfl ?_
      refine wm_aload_n 26 rfl dX5_areTogether_25 rfl rfl ?_
      refine wm_getI 29 rfl dX5_areTogether_26 gf_X5_53_4 rfl rfl ?_
      refine wm_if_le 34 32 rfl (by decide) dX5_areTogether_29 (fun c29 => ?_) (fun c29 => ?_)
      · obtain ⟨a, rfl, ha, ha6⟩ := zp_n.mp c6
        obtain ⟨b, rfl, hb, hb6⟩ := zp_n.mp c14
        have f1 : rcM σ n (nI a) := ⟨a, rfl, ha, ha6⟩
        have f2 : rcM σ n (nI b) := ⟨b, rfl, hb, hb6⟩
        refine wm_aload_n 35 rfl dX5_areTogether_34 rfl rfl ?_
        refine wm_iconst (v := 2) 36 rfl dX5_areTogether_35 (by decide) ?_
        refine wm_callVv 39 rfl dX5_areTogether_36 (k_finds2 l (stM_thr σ 0) hI hP hQ) ca_X5_finds cv_X5_finds rfl aw_18_23 rfl rfl ⟨Nat.le_of_ble_eq_true rfl, Nat.le_of_ble_eq_true rfl⟩ (Nat.le_of_ble_eq_true rfl) ⟨Nat.zero_le _, Nat.zero_le _⟩ ?_
        rintro υ hF
        have hsυ := hF.2.1
        have hgυ := hF.2.2.2
        have hIυ := hsυ.mI hI
        have hS0 := fM_S hF (show zu σ 0 13 0 0 13 = 0 from rfl)
        refine wm_aload_n 40 rfl dX5_areTogether_39 rfl rfl ?_
        refine wm_getR 43 rfl dX5_areTogether_40 gf_X5_41_4 rfl rfl ?_
        refine wm_iload_n 44 rfl dX5_areTogether_43 rfl rfl ?_
        refine wm_iaload 45 rfl dX5_areTogether_44 rfl (in24 ha h24) ?_
        refine wm_aload_n 46 rfl dX5_areTogether_45 rfl rfl ?_
        refine wm_getR 49 rfl dX5_areTogether_46 gf_X5_41_4 rfl rfl ?_
        refine wm_iload_n 50 rfl dX5_areTogether_49 rfl rfl ?_
        refine wm_iaload 51 rfl dX5_areTogether_50 rfl (in24 hb h24) ?_
        refine wm_icmp_ne 58 54 rfl (by decide) dX5_areTogether_51 (fun c51 => ?_) (fun c51 => ?_)
        · have hga := (hgυ a ha).2
          have hgb := (hgυ b hb).2
          rw [nI_clamp (by omega), nI_clamp (by omega), (hgυ a ha).1, (hgυ b hb).1] at c51
          refine wm_iconst (v := 0) 59 rfl dX5_areTogether_58 (by decide) ?_
          exact wm_iret dX5_areTogether_59 (by first | rfl | exact zp_nar) (Or.inr ⟨f1, Or.inr ⟨f2, ⟨a, b, rfl, rfl, ⟨ha, ha6⟩, ⟨hb, hb6⟩, hS0, hF.2.2.1, (zp_f (fun q => c51 (by rw [q]))).symm⟩⟩⟩)
        · have hga := (hgυ a ha).2
          have hgb := (hgυ b hb).2
          rw [nI_clamp (by omega), nI_clamp (by omega), (hgυ a ha).1, (hgυ b hb).1] at c51
          refine wm_iconst (v := 1) 55 rfl dX5_areTogether_54 (by decide) ?_
          refine wm_goto 59 (by decide) dX5_areTogether_55 ?_
          exact wm_iret dX5_areTogether_59 (by first | rfl | exact zp_nar) (Or.inr ⟨f1, Or.inr ⟨f2, ⟨a, b, rfl, rfl, ⟨ha, ha6⟩, ⟨hb, hb6⟩, hS0, hF.2.2.1, (zp_t (eq_of_nI c51 (by omega) (by omega))).symm⟩⟩⟩)
      · exact absurd (show (0 : Int32) ≤ 0 by decide) (show ¬ (0 : Int32) ≤ 0 from c29)
def stP (σ : Sg) (n p : Nat) (r o v : Int32) (σ1 : Sg) : Prop := mTh σ σ1 [(1, rcM σ n r), (1, rcM σ n o), (2, r ≠ o), (3, ∃ k, tgM σ n p r o k)] (∃ k, tgM σ n p r o k ∧ (∀ s, s < k → ¬ tgM σ n p r o s) ∧ mS 0 σ σ1 ∧ v = nI k)
theorem tgM_no {σ : Sg} {n p a b k : Nat} {g : Nat → Nat → Nat} (hn : n ≤ 24) (h : chM σ n p (k + 1) g) (ha : a < n) (hb : b < n) (hne : g k a ≠ g k b) : ¬ tgM σ n p (nI a) (nI b) k := by
  rintro ⟨a2, b2, g2, e1, e2, ha2, hb2, hk, h2, h3⟩
  have q1 := eq_of_nI e1 (by omega) (by omega)
  have q2 := eq_of_nI e2 (by omega) (by omega)
  subst q1; subst q2
  have u := chn_uniq h h2 (fun _ _ => Iff.rfl) (fun _ _ _ _ => rfl) (fun _ _ _ _ _ _ => Iff.rfl) k (by omega)
  exact hne ((u a ha).trans (h3.trans (u b hb).symm))
theorem k_X5_step (l : Launch) {σ : Sg} {n p : Nat} (hI : mI σ n) (hP : mP σ p) (hQ : mQ σ n p) (r o : Int32) : cMi l yX5_step cX5_step 4 .int 4 Lm [.ref 0, .int r, .int o] σ (stP σ n p r o) := by
  have h24 := hI.2
  have h12 := hP.2
  refine zMet_of (by decide +kernel) (Nat.le_of_ble_eq_true rfl) (fun D cT ad sz => ?_)
  show Wm (fun _ _ => True) l (rmh 4) RX5 cX5_step 4 (some .int) D cT ad Lm (zA ad Lm.length sz) (zZ (fun D cT ad L9 sz => zQi D cT ad L9 sz (stP σ n p r o)) D cT ad Lm sz) [] 0 (lv_args 0 [.ref 0, .int r, .int o]) [] σ 0 0
  refine wm_aload_n 1 rfl dX5_step_0 rfl rfl ?_
  refine wm_aload_n 2 rfl dX5_step_1 rfl rfl ?_
  refine wm_iload_n 3 rfl dX5_step_2 rfl rfl ?_
  refine wm_callVi (ty := .boolean) 6 rfl dX5_step_3 (k_X5_isRecord l hI _) ca_X5_isRecord cv_X5_isRecord rfl aw_8_10 rfl rfl ⟨Nat.le_of_ble_eq_true rfl, Nat.le_of_ble_eq_true rfl⟩ (Nat.le_of_ble_eq_true rfl) ⟨Nat.zero_le _, Nat.zero_le _⟩ ?_
  rintro r9 σ9 ⟨rfl, rfl⟩
  refine wm_if_eq 17 9 rfl (by decide) dX5_step_6 (fun c6 => ?_) (fun c6 => ?_)
  · refine wm_iconst (v := 1) 18 rfl dX5_step_17 (by decide) ?_
    refine wm_goto 31 (by decide) dX5_step_18 ?_
    refine wm_putI 34 rfl dX5_step_31 pf_X5_53_4 rfl rfl ?_
    refine wm_aload_n 35 rfl dX5_step_34 rfl rfl ?_
    refine wm_getI 38 rfl dX5_step_35 gf_X5_53_4 rfl rfl ?_
    refine wm_if_le 43 41 rfl (by decide) dX5_step_38 (fun c38 => ?_) (fun c38 => ?_)
    · exact absurd (show (1 : Int32) ≤ 0 from c38) (by decide)
    · refine wm_iconst (v := 0) 42 rfl dX5_step_41 (by decide) ?_
      exact wm_iret dX5_step_42 (by first | rfl | exact zp_nar) (by first | exact Or.inl ⟨zp_0.mp c6, mS_thr _ _⟩ | exact Or.inr ⟨zp_n.mp c6, Or.inl ⟨zp_0.mp c14, mS_thr _ _⟩⟩ | exact Or.inr ⟨zp_n.mp c6, Or.inr ⟨zp_n.mp c14, Or.inl ⟨fun q => q c23, mS_thr _ _⟩⟩⟩)
  · refine wm_aload_n 10 rfl dX5_step_9 rfl rfl ?_
    refine wm_iload_n 11 rfl dX5_step_10 rfl rfl ?_
    refine wm_callVi (ty := .boolean) 14 rfl dX5_step_11 (k_X5_isRecord l hI _) ca_X5_isRecord cv_X5_isRecord rfl aw_8_10 rfl rfl ⟨Nat.le_of_ble_eq_true rfl, Nat.le_of_ble_eq_true rfl⟩ (Nat.le_of_ble_eq_true rfl) ⟨Nat.zero_le _, Nat.zero_le _⟩ ?_
    rintro r9 σ9 ⟨rfl, rfl⟩
    refine wm_if_ne 21 17 rfl (by decide) dX5_step_14 (fun c14 => ?_) (fun c14 => ?_)
    · refine wm_iload_n 22 rfl dX5_step_21 rfl rfl ?_
      refine wm_iload_n 23 rfl dX5_step_22 rfl rfl ?_
      refine wm_icmp_ne 30 26 rfl (by decide) dX5_step_23 (fun c23 => ?_) (fun c23 => ?_)
      · refine wm_iconst (v := 0) 31 rfl dX5_step_30 (by decide) ?_
        refine wm_putI 34 rfl dX5_step_31 pf_X5_53_4 rfl rfl ?_
        refine wm_aload_n 35 rfl dX5_step_34 rfl rfl ?_
        refine wm_getI 38 rfl dX5_step_35 gf_X5_53_4 rfl rfl ?_
        refine wm_if_le 43 41 rfl (by decide) dX5_step_38 (fun c38 => ?_) (fun c38 => ?_)
        · obtain ⟨a, rfl, ha, ha6⟩ := zp_n.mp c6
          obtain ⟨b, rfl, hb, hb6⟩ := zp_n.mp c14
          have f1 : rcM σ n (nI a) := ⟨a, rfl, ha, ha6⟩
          have f2 : rcM σ n (nI b) := ⟨b, rfl, hb, hb6⟩
          refine wm_iconst (v := 0) 44 rfl dX5_step_43 (by decide) ?_
          refine wm_istore_n (ls' := [(3, _), (0, _), (1, _), (2, _)]) 45 rfl dX5_step_44 rfl (by decide) rfl ?_
          refine wm_loc (ls2 := [(0, _), (1, _), (2, _), (3, _)]) [1, 2, 3, 0] rfl ?_
          have lp : ∀ (q9 j : Nat) (τ : Sg), 3 - j = q9 → j ≤ 3 → mS 0 σ τ ∧ (∀ s, s < j → ¬ tgM σ n p (nI a) (nI b) s) → Wm (fun _ _ => True) l (rmh 4) RX5 cX5_step 4 (some .int) D cT ad Lm (zA ad Lm.length sz) (zZ (fun D cT ad L9 sz => zQi D cT ad L9 sz (stP σ n p (nI a) (nI b))) D cT ad Lm sz) [] 45 [(0, .ref 0), (1, .int (nI a)), (2, .int (nI b)), (3, .int (nI j))] [] τ 0 0 := by
            intro q9
            induction q9 using Nat.strongRecOn with
            | ind q9 ih =>
              intro j τ hmj hjj hinv
              refine wm_iload_n 46 rfl dX5_step_45 rfl rfl ?_
              refine wm_iconst (v := 3) 47 rfl dX5_step_46 (by decide) ?_
              refine wm_icmp_ge 78 50 rfl (by decide) dX5_step_47 (fun c47 => ?_) (fun c47 => ?_)
              · have gj : j = 3 := by have := le_of_nI (a := 3) c47 (by omega) (by omega); omega
                refine wm_aload_n 79 rfl dX5_step_78 rfl rfl ?_
                refine wm_iconst (v := 3) 80 rfl dX5_step_79 (by decide) ?_
                refine wm_callVi (ty := .int) 83 rfl dX5_step_80 (k_X5_raises l 3) ca_X5_raises cv_X5_raises rfl aw_13_14 rfl rfl ⟨Nat.le_of_ble_eq_true rfl, Nat.le_of_ble_eq_true rfl⟩ (Nat.le_of_ble_eq_true rfl) ⟨Nat.zero_le _, Nat.zero_le _⟩ ?_
                rintro r9 σ9 ⟨rfl, rfl⟩
                exact wm_iret dX5_step_83 (by first | rfl | exact zp_nar) (by
  subst gj
  refine Or.inr ⟨f1, Or.inr ⟨f2, Or.inr ⟨c23, Or.inl ⟨?_, mS_r hinv.1.2⟩⟩⟩⟩
  rintro ⟨k, hk⟩
  have h3 : k < 3 := by obtain ⟨_, _, _, _, _, _, _, h, _⟩ := hk; exact h
  exact hinv.2 k h3 hk)
              · have gj : j < 3 := lt_of_nnI (a := 3) c47 (by omega) (by omega)
                refine wm_aload_n 51 rfl dX5_step_50 rfl rfl ?_
                refine wm_iload_n 52 rfl dX5_step_51 rfl rfl ?_
                refine wm_callVv 55 rfl dX5_step_52 (k_X5_finds l hinv.1.2 hI hP hQ gj) ca_X5_finds cv_X5_finds rfl aw_18_23 rfl rfl ⟨Nat.le_of_ble_eq_true rfl, Nat.le_of_ble_eq_true rfl⟩ (Nat.le_of_ble_eq_true rfl) ⟨Nat.zero_le _, Nat.zero_le _⟩ ?_
                rintro υ ⟨h9, g, hch, hgυ⟩
                have hS0 : mS 0 σ υ := ⟨by rw [h9 0 (by decide) (by decide)]; exact hinv.1.1, stM_9 hinv.1.2 h9⟩
                have hga := (hgυ a ha).2
                have hgb := (hgυ b hb).2
                refine wm_aload_n 56 rfl dX5_step_55 rfl rfl ?_
                refine wm_getR 59 rfl dX5_step_56 gf_X5_41_4 rfl rfl ?_
                refine wm_iload_n 60 rfl dX5_step_59 rfl rfl ?_
                refine wm_iaload 61 rfl dX5_step_60 rfl (in24 ha h24) ?_
                refine wm_aload_n 62 rfl dX5_step_61 rfl rfl ?_
                refine wm_getR 65 rfl dX5_step_62 gf_X5_41_4 rfl rfl ?_
                refine wm_iload_n 66 rfl dX5_step_65 rfl rfl ?_
                refine wm_iaload 67 rfl dX5_step_66 rfl (in24 hb h24) ?_
                refine wm_icmp_ne 72 70 rfl (by decide) dX5_step_67 (fun c67 => ?_) (fun c67 => ?_)
                · rw [nI_clamp (by omega), nI_clamp (by omega), (hgυ a ha).1, (hgυ b hb).1] at c67
                  refine wm_iinc (ls' := [(3, _), (0, _), (1, _), (2, _)]) 75 rfl dX5_step_72 rfl (nI_inc _) (by decide) rfl ?_
                  refine wm_goto 45 (by decide) dX5_step_75 ?_
                  refine wm_loc (ls2 := [(0, _), (1, _), (2, _), (3, _)]) [1, 2, 3, 0] rfl ?_
                  exact ih (3 - (j + 1)) (by omega) (j + 1) _ rfl (by omega) ⟨hS0, lt_s hinv.2 (tgM_no h24 hch ha hb (ne_of_nnI c67))⟩
                · rw [nI_clamp (by omega), nI_clamp (by omega), (hgυ a ha).1, (hgυ b hb).1] at c67
                  refine wm_iload_n 71 rfl dX5_step_70 rfl rfl ?_
                  exact wm_iret dX5_step_71 (by first | rfl | exact zp_nar) (by
  have ht : tgM σ n p (nI a) (nI b) j := ⟨a, b, g, rfl, rfl, ha, hb, gj, hch, eq_of_nI c67 (by omega) (by omega)⟩
  exact Or.inr ⟨f1, Or.inr ⟨f2, Or.inr ⟨c23, Or.inr ⟨⟨j, ht⟩, ⟨j, ht, hinv.2, hS0, rfl⟩⟩⟩⟩⟩)
          exact lp 3 0 _ rfl (Nat.zero_le _) ⟨mS_thr 0 σ, fun s hs => absurd hs (Nat.not_lt_zero s)⟩
        · exact absurd (show (0 : Int32) ≤ 0 by decide) (show ¬ (0 : Int32) ≤ 0 from c38)
      · refine wm_iconst (v := 2) 27 rfl dX5_step_26 (by decide) ?_
        refine wm_goto 31 (by decide) dX5_step_27 ?_
        refine wm_putI 34 rfl dX5_step_31 pf_X5_53_4 rfl rfl ?_
        refine wm_aload_n 35 rfl dX5_step_34 rfl rfl ?_
        refine wm_getI 38 rfl dX5_step_35 gf_X5_53_4 rfl rfl ?_
        refine wm_if_le 43 41 rfl (by decide) dX5_step_38 (fun c38 => ?_) (fun c38 => ?_)
        · exact absurd (show (2 : Int32) ≤ 0 from c38) (by decide)
        · refine wm_iconst (v := 0) 42 rfl dX5_step_41 (by decide) ?_
          exact wm_iret dX5_step_42 (by first | rfl | exact zp_nar) (by first | exact Or.inl ⟨zp_0.mp c6, mS_thr _ _⟩ | exact Or.inr ⟨zp_n.mp c6, Or.inl ⟨zp_0.mp c14, mS_thr _ _⟩⟩ | exact Or.inr ⟨zp_n.mp c6, Or.inr ⟨zp_n.mp c14, Or.inl ⟨fun q => q c23, mS_thr _ _⟩⟩⟩)
    · refine wm_iconst (v := 1) 18 rfl dX5_step_17 (by decide) ?_
      refine wm_goto 31 (by decide) dX5_step_18 ?_
      refine wm_putI 34 rfl dX5_step_31 pf_X5_53_4 rfl rfl ?_
      refine wm_aload_n 35 rfl dX5_step_34 rfl rfl ?_
      refine wm_getI 38 rfl dX5_step_35 gf_X5_53_4 rfl rfl ?_
      refine wm_if_le 43 41 rfl (by decide) dX5_step_38 (fun c38 => ?_) (fun c38 => ?_)
      · exact absurd (show (1 : Int32) ≤ 0 from c38) (by decide)
      · refine wm_iconst (v := 0) 42 rfl dX5_step_41 (by decide) ?_
        exact wm_iret dX5_step_42 (by first | rfl | exact zp_nar) (by first | exact Or.inl ⟨zp_0.mp c6, mS_thr _ _⟩ | exact Or.inr ⟨zp_n.mp c6, Or.inl ⟨zp_0.mp c14, mS_thr _ _⟩⟩ | exact Or.inr ⟨zp_n.mp c6, Or.inr ⟨zp_n.mp c14, Or.inl ⟨fun q => q c23, mS_thr _ _⟩⟩⟩)
def srM (σ : Sg) (n p : Nat) (k v : Int32) (σ1 : Sg) : Prop := mTh σ σ1 [(1, nR 3 k)] (∃ i, k = nI i ∧ i < 3 ∧ mS 0 σ σ1 ∧ fG σ n p ∧ v = nI (cq (fun q => shq σ n (gM σ n p 2) i q) 100))
theorem k_X5_shared (l : Launch) {σ : Sg} {n p : Nat} (hI : mI σ n) (hP : mP σ p) (hQ : mQ σ n p) (k : Int32) : cMi l yX5_shared cX5_shared 4 .int 4 Lm [.ref 0, .int k] σ (srM σ n p k) := by
  have h24 := hI.2
  have h12 := hP.2
  refine zMet_of (by decide +kernel) (Nat.le_of_ble_eq_true rfl) (fun D cT ad sz => ?_)
  show Wm (fun _ _ => True) l (rmh 4) RX5 cX5_shared 4 (some .int) D cT ad Lm (zA ad Lm.length sz) (zZ (fun D cT ad L9 sz => zQi D cT ad L9 sz (srM σ n p k)) D cT ad Lm sz) [] 0 (lv_args 0 [.ref 0, .int k]) [] σ 0 0
  refine wm_aload_n 1 rfl dX5_shared_0 rfl rfl ?_
  refine wm_iload_n 2 rfl dX5_shared_1 rfl rfl ?_
  refine wm_iconst (v := 0) 3 rfl dX5_shared_2 (by decide) ?_
  refine wm_iconst (v := 2) 4 rfl dX5_shared_3 (by decide) ?_
  refine wm_callSi (ty := .boolean) 7 rfl dX5_shared_4 (k_X5_in l k 0 2) ca_X5_in aw_5_3 aw_5_2 ⟨Nat.le_of_ble_eq_true rfl, Nat.le_of_ble_eq_true rfl⟩ (Nat.le_of_ble_eq_true rfl) ⟨Nat.zero_le _, Nat.zero_le _⟩ ?_
  rintro r9 σ9 ⟨rfl, rfl⟩
  refine wm_if_eq 14 10 rfl (by decide) dX5_shared_7 (fun c7 => ?_) (fun c7 => ?_)
  · refine wm_iconst (v := 1) 15 rfl dX5_shared_14 (by decide) ?_
    refine wm_putI 18 rfl dX5_shared_15 pf_X5_53_4 rfl rfl ?_
    refine wm_aload_n 19 rfl dX5_shared_18 rfl rfl ?_
    refine wm_getI 22 rfl dX5_shared_19 gf_X5_53_4 rfl rfl ?_
    refine wm_if_le 27 25 rfl (by decide) dX5_shared_22 (fun c22 => ?_) (fun c22 => ?_)
    · exact absurd (show (1 : Int32) ≤ 0 from c22) (by decide)
    · refine wm_iconst (v := 0) 26 rfl dX5_shared_25 (by decide) ?_
      exact wm_iret dX5_shared_26 (by first | rfl | exact zp_nar) (Or.inl ⟨fun q => zp_0.mp c7 (rg_3.mpr q), mS_thr _ _⟩)
  · refine wm_iconst (v := 0) 11 rfl dX5_shared_10 (by decide) ?_
    refine wm_goto 15 (by decide) dX5_shared_11 ?_
    refine wm_putI 18 rfl dX5_shared_15 pf_X5_53_4 rfl rfl ?_
    refine wm_aload_n 19 rfl dX5_shared_18 rfl rfl ?_
    refine wm_getI 22 rfl dX5_shared_19 gf_X5_53_4 rfl rfl ?_
    refine wm_if_le 27 25 rfl (by decide) dX5_shared_22 (fun c22 => ?_) (fun c22 => ?_)
    · have p1 := rg_3.mp (zp_n.mp c7)
      have q1 := p1
      obtain ⟨i, rfl, hi⟩ := q1
      refine wm_aload_n 28 rfl dX5_shared_27 rfl rfl ?_
      refine wm_iconst (v := 2) 29 rfl dX5_shared_28 (by decide) ?_
      refine wm_callVv 32 rfl dX5_shared_29 (k_finds2 l (stM_thr σ 0) hI hP hQ) ca_X5_finds cv_X5_finds rfl aw_18_23 rfl rfl ⟨Nat.le_of_ble_eq_true rfl, Nat.le_of_ble_eq_true rfl⟩ (Nat.le_of_ble_eq_true rfl) ⟨Nat.zero_le _, Nat.zero_le _⟩ ?_
      rintro υ hF
      have hsυ := hF.2.1
      have hgυ := hF.2.2.2
      have hIυ := hsυ.mI hI
      have hS0 := fM_S hF (show zu σ 0 13 0 0 13 = 0 from rfl)
      refine wm_iconst (v := 0) 33 rfl dX5_shared_32 (by decide) ?_
      refine wm_istore_n (ls' := [(2, _), (0, _), (1, _)]) 34 rfl dX5_shared_33 rfl (by decide) rfl ?_
      refine wm_iconst (v := 0) 35 rfl dX5_shared_34 (by decide) ?_
      refine wm_istore_n (ls' := [(3, _), (2, _), (0, _), (1, _)]) 36 rfl dX5_shared_35 rfl (by decide) rfl ?_
      refine wm_loc (ls2 := [(0, _), (1, _), (2, _), (3, _)]) [2, 3, 1, 0] rfl ?_
      have lp : ∀ (q9 j : Nat), 100 - j = q9 → j ≤ 100 → True → Wm (fun _ _ => True) l (rmh 4) RX5 cX5_shared 4 (some .int) D cT ad Lm (zA ad Lm.length sz) (zZ (fun D cT ad L9 sz => zQi D cT ad L9 sz (srM σ n p (nI i))) D cT ad Lm sz) [] 36 [(0, .ref 0), (1, .int (nI i)), (2, .int (nI (cq (fun q => shq σ n (gM σ n p 2) i q) j))), (3, .int (nI j))] [] υ 0 0 := by
        intro q9
        induction q9 using Nat.strongRecOn with
        | ind q9 ih =>
          intro j  hmj hjj hinv
          refine wm_iload_n 37 rfl dX5_shared_36 rfl rfl ?_
          refine wm_bipush (v := 99) 39 rfl dX5_shared_37 (by decide) ?_
          refine wm_icmp_gt 65 42 rfl (by decide) dX5_shared_39 (fun c39 => ?_) (fun c39 => ?_)
          · have gj : j = 100 := by have := nI_gt (a := 99) c39 (by omega) (by omega); omega
            refine wm_iload_n 66 rfl dX5_shared_65 rfl rfl ?_
            exact wm_iret dX5_shared_66 (by first | rfl | exact zp_nar) (Or.inr ⟨p1, ⟨i, rfl, hi, hS0, hF.2.2.1, by rw [gj]⟩⟩)
          · have gj : j < 100 := by have := nI_ngt (a := 99) c39 (by omega) (by omega); omega
            refine wm_iload_n 43 rfl dX5_shared_42 rfl rfl ?_
            refine wm_aload_n 44 rfl dX5_shared_43 rfl rfl ?_
            refine wm_iload_n 45 rfl dX5_shared_44 rfl rfl ?_
            refine wm_iload_n 46 rfl dX5_shared_45 rfl rfl ?_
            refine wm_callVi (ty := .boolean) 49 rfl dX5_shared_46 (k_X5_isShared l hsυ hI hgυ hi (q := j) gj) ca_X5_isShared cv_X5_isShared rfl aw_25_1 rfl rfl ⟨Nat.le_of_ble_eq_true rfl, Nat.le_of_ble_eq_true rfl⟩ (Nat.le_of_ble_eq_true rfl) ⟨Nat.zero_le _, Nat.zero_le _⟩ ?_
            rintro r9 σ9 ⟨rfl, rfl⟩
            refine wm_if_eq 56 52 rfl (by decide) dX5_shared_49 (fun c49 => ?_) (fun c49 => ?_)
            · refine wm_iconst (v := 0) 57 rfl dX5_shared_56 (by decide) ?_
              refine wm_iadd 58 rfl dX5_shared_57 ?_
              first
                | rw [show nI (cq (fun q => shq σ n (gM σ n p 2) i q) j) + 0 = nI (cq (fun q => shq σ n (gM σ n p 2) i q) (j + 1)) by rw [cq_f (P := (fun q => shq σ n (gM σ n p 2) i q)) (zp_0.mp c49)]; exact Int32.add_zero _]
                | rw [show nI (cq (fun q => shq σ n (gM σ n p 2) i q) j) + 1 = nI (cq (fun q => shq σ n (gM σ n p 2) i q) (j + 1)) by rw [cq_t (P := (fun q => shq σ n (gM σ n p 2) i q)) (zp_n.mp c49)]; exact nI_1 _]
              refine wm_istore_n (ls' := [(2, _), (0, _), (1, _), (3, _)]) 59 rfl dX5_shared_58 rfl (by decide) rfl ?_
              refine wm_iinc (ls' := [(3, _), (2, _), (0, _), (1, _)]) 62 rfl dX5_shared_59 rfl (nI_inc _) (by decide) rfl ?_
              refine wm_goto 36 (by decide) dX5_shared_62 ?_
              refine wm_loc (ls2 := [(0, _), (1, _), (2, _), (3, _)]) [2, 3, 1, 0] rfl ?_
              exact ih (100 - (j + 1)) (by omega) (j + 1) rfl (by omega) trivial
            · refine wm_iconst (v := 1) 53 rfl dX5_shared_52 (by decide) ?_
              refine wm_goto 57 (by decide) dX5_shared_53 ?_
              refine wm_iadd 58 rfl dX5_shared_57 ?_
              first
                | rw [show nI (cq (fun q => shq σ n (gM σ n p 2) i q) j) + 0 = nI (cq (fun q => shq σ n (gM σ n p 2) i q) (j + 1)) by rw [cq_f (P := (fun q => shq σ n (gM σ n p 2) i q)) (zp_0.mp c49)]; exact Int32.add_zero _]
                | rw [show nI (cq (fun q => shq σ n (gM σ n p 2) i q) j) + 1 = nI (cq (fun q => shq σ n (gM σ n p 2) i q) (j + 1)) by rw [cq_t (P := (fun q => shq σ n (gM σ n p 2) i q)) (zp_n.mp c49)]; exact nI_1 _]
              refine wm_istore_n (ls' := [(2, _), (0, _), (1, _), (3, _)]) 59 rfl dX5_shared_58 rfl (by decide) rfl ?_
              refine wm_iinc (ls' := [(3, _), (2, _), (0, _), (1, _)]) 62 rfl dX5_shared_59 rfl (nI_inc _) (by decide) rfl ?_
              refine wm_goto 36 (by decide) dX5_shared_62 ?_
              refine wm_loc (ls2 := [(0, _), (1, _), (2, _), (3, _)]) [2, 3, 1, 0] rfl ?_
              exact ih (100 - (j + 1)) (by omega) (j + 1) rfl (by omega) trivial
      exact lp 100 0 rfl (Nat.zero_le _) trivial
    · exact absurd (show (0 : Int32) ≤ 0 by decide) (show ¬ (0 : Int32) ≤ 0 from c22)
def thM (σ : Sg) (n p : Nat) : Nat → Prop := fun h => mbM σ n (gM σ n p 2) h h
theorem mS_bk {c : Int32} {σ τ : Sg} {a b : Nat} {x : Int32} (h : mS c (zu σ a b x) τ) (h9 : a ≠ 9) (h10 : a ≠ 10) (h13 : a = 0 → b ≠ 13) : mS c σ (zu τ a b (σ a b)) := by
  refine ⟨?_, fun d e q1 q2 q3 => ?_⟩
  · rw [← h.1]
    unfold zu
    by_cases e : 0 = a
    · have := h13 e.symm
      simp [e, Ne.symm this]
    · simp [e]
  · have h1 := h.2 d e q1 q2 q3
    unfold zu at h1 ⊢
    by_cases e1 : d = a
    · subst e1
      by_cases e2 : e = b
      · subst e2; simp
      · simp only [if_true, e2, if_false] at h1 ⊢
        exact h1
    · simp only [e1, if_false] at h1 ⊢
      exact h1
theorem k_X5_thingsWithout (l : Launch) {σ : Sg} {n p : Nat} (hI : mI σ n) (hP : mP σ p) (hQ : mQ σ n p) (h16 : σ 0 16 = -1) (r : Int32) : cMi l yX5_thingsWithout cX5_thingsWithout 3 .int 5 Lm [.ref 0, .int r] σ (fun v σ1 => mTh σ σ1 [(1, rcM σ n r)] (∃ a, r = nI a ∧ a < n ∧ σ 6 a = 0 ∧ mS 0 σ σ1 ∧ fG (zu σ 0 16 (nI a)) n p ∧ v = nI (cq (thM (zu σ 0 16 (nI a)) n p) n))) := by
  have h24 := hI.2
  have h12 := hP.2
  refine zMet_of (by decide +kernel) (Nat.le_of_ble_eq_true rfl) (fun D cT ad sz => ?_)
  show Wm (fun _ _ => True) l (rmh 5) RX5 cX5_thingsWithout 3 (some .int) D cT ad Lm (zA ad Lm.length sz) (zZ (fun D cT ad L9 sz => zQi D cT ad L9 sz (fun v σ1 => mTh σ σ1 [(1, rcM σ n r)] (∃ a, r = nI a ∧ a < n ∧ σ 6 a = 0 ∧ mS 0 σ σ1 ∧ fG (zu σ 0 16 (nI a)) n p ∧ v = nI (cq (thM (zu σ 0 16 (nI a)) n p) n)))) D cT ad Lm sz) [] 0 (lv_args 0 [.ref 0, .int r]) [] σ 0 0
  refine wm_aload_n 1 rfl dX5_thingsWithout_0 rfl rfl ?_
  refine wm_iload_n 2 rfl dX5_thingsWithout_1 rfl rfl ?_
  refine wm_callVi (ty := .boolean) 5 rfl dX5_thingsWithout_2 (k_X5_lacks l hI _) ca_X5_lacks cv_X5_lacks rfl aw_9_17 rfl rfl ⟨Nat.le_of_ble_eq_true rfl, Nat.le_of_ble_eq_true rfl⟩ (Nat.le_of_ble_eq_true rfl) ⟨Nat.zero_le _, Nat.zero_le _⟩ ?_
  rintro r9 σ9 ⟨rfl, rfl⟩
  refine wm_if_eq 10 8 rfl (by decide) dX5_thingsWithout_5 (fun c5 => ?_) (fun c5 => ?_)
  · rw [c5]
    have p1 := Classical.not_not.mp (zp_0.mp c5)
    have q1 := p1
    obtain ⟨a, rfl, ha, h6⟩ := q1
    refine wm_aload_n 11 rfl dX5_thingsWithout_10 rfl rfl ?_
    refine wm_iload_n 12 rfl dX5_thingsWithout_11 rfl rfl ?_
    refine wm_putI 15 rfl dX5_thingsWithout_12 pf_X5_47_4 rfl rfl ?_
    refine wm_aload_n 16 rfl dX5_thingsWithout_15 rfl rfl ?_
    refine wm_callVi (ty := .int) 19 rfl dX5_thingsWithout_16 (k_X5_thingMany l (σ := zu σ 0 16 (nI a)) (τ := zu (zu σ 0 13 0) 0 16 (nI a)) (stM_zz (stM_thr σ 0) 0 16 (nI a)) (n := n) (p := p) ⟨hI.1, hI.2⟩ ⟨hP.1, hP.2⟩ hQ) ca_X5_thingMany cv_X5_thingMany rfl aw_21_12 rfl rfl ⟨Nat.le_of_ble_eq_true rfl, Nat.le_of_ble_eq_true rfl⟩ (Nat.le_of_ble_eq_true rfl) ⟨Nat.zero_le _, Nat.zero_le _⟩ ?_
    rintro r9 υ ⟨hF, rfl⟩
    have hS0 := fM_S hF (show zu (zu σ 0 13 0) 0 16 (nI a) 0 13 = 0 from rfl)
    refine wm_istore_n (ls' := [(2, _), (0, _), (1, _)]) 20 rfl dX5_thingsWithout_19 rfl (by decide) rfl ?_
    refine wm_aload_n 21 rfl dX5_thingsWithout_20 rfl rfl ?_
    refine wm_iconst (v := (-1)) 22 rfl dX5_thingsWithout_21 (by decide) ?_
    refine wm_putI 25 rfl dX5_thingsWithout_22 pf_X5_47_4 rfl rfl ?_
    refine wm_iload_n 26 rfl dX5_thingsWithout_25 rfl rfl ?_
    exact wm_iret dX5_thingsWithout_26 (by first | rfl | exact zp_nar) (Or.inr ⟨p1, ⟨a, rfl, ha, h6, by have := mS_bk hS0 (by decide) (by decide) (fun _ => by decide); rw [h16] at this; exact this, hF.2.2.1, rfl⟩⟩)
  · refine wm_iconst (v := 0) 9 rfl dX5_thingsWithout_8 (by decide) ?_
    exact wm_iret dX5_thingsWithout_9 (by first | rfl | exact zp_nar) (Or.inl ⟨zp_n.mp c5, mS_z (zp_n.mp c5)⟩)
theorem k_X5_thingsIf (l : Launch) {σ : Sg} {n p : Nat} (hI : mI σ n) (hP : mP σ p) (hQ : mQ σ n p) (r k v : Int32) : cMi l yX5_thingsIf cX5_thingsIf 6 .int 5 Lm [.ref 0, .int r, .int k, .int v] σ (fun o σ1 => mTh σ σ1 [(1, rcM σ n r), (1, nR 3 k), (2, rg v (-1) 99)] (∃ a i, r = nI a ∧ k = nI i ∧ a < n ∧ σ 6 a = 0 ∧ i < 3 ∧ mS 0 σ σ1 ∧ fG (zu σ (11 + a) i v) n p ∧ o = nI (cq (thM (zu σ (11 + a) i v) n p) n))) := by
  have h24 := hI.2
  have h12 := hP.2
  refine zMet_of (by decide +kernel) (Nat.le_of_ble_eq_true rfl) (fun D cT ad sz => ?_)
  show Wm (fun _ _ => True) l (rmh 5) RX5 cX5_thingsIf 6 (some .int) D cT ad Lm (zA ad Lm.length sz) (zZ (fun D cT ad L9 sz => zQi D cT ad L9 sz (fun o σ1 => mTh σ σ1 [(1, rcM σ n r), (1, nR 3 k), (2, rg v (-1) 99)] (∃ a i, r = nI a ∧ k = nI i ∧ a < n ∧ σ 6 a = 0 ∧ i < 3 ∧ mS 0 σ σ1 ∧ fG (zu σ (11 + a) i v) n p ∧ o = nI (cq (thM (zu σ (11 + a) i v) n p) n)))) D cT ad Lm sz) [] 0 (lv_args 0 [.ref 0, .int r, .int k, .int v]) [] σ 0 0
  refine wm_aload_n 1 rfl dX5_thingsIf_0 rfl rfl ?_
  refine wm_iload_n 2 rfl dX5_thingsIf_1 rfl rfl ?_
  refine wm_iload_n 3 rfl dX5_thingsIf_2 rfl rfl ?_
  refine wm_iload_n 4 rfl dX5_thingsIf_3 rfl rfl ?_
  refine wm_callVi (ty := .int) 7 rfl dX5_thingsIf_4 (k_X5_setKey l hI r k v) ca_X5_setKey cv_X5_setKey rfl aw_26_4 rfl rfl ⟨Nat.le_of_ble_eq_true rfl, Nat.le_of_ble_eq_true rfl⟩ (Nat.le_of_ble_eq_true rfl) ⟨Nat.zero_le _, Nat.zero_le _⟩ ?_
  rintro r9 τ hr9
  refine wm_istore (ls' := [(4, _), (0, _), (1, _), (2, _), (3, _)]) 9 rfl dX5_thingsIf_7 (by decide) rfl ?_
  refine wm_aload_n 10 rfl dX5_thingsIf_9 rfl rfl ?_
  refine wm_getI 13 rfl dX5_thingsIf_10 gf_X5_53_4 rfl rfl ?_
  refine wm_if_le 18 16 rfl (by decide) dX5_thingsIf_13 (fun c13 => ?_) (fun c13 => ?_)
  · rcases hr9 with ⟨-, h9⟩ | ⟨p1, ⟨-, h9⟩ | ⟨p2, ⟨-, h9⟩ | ⟨p3, hr9⟩⟩⟩
    · exact absurd (show (1 : Int32) ≤ 0 by rw [← h9.1]; exact c13) (by decide)
    · exact absurd (show (1 : Int32) ≤ 0 by rw [← h9.1]; exact c13) (by decide)
    · exact absurd (show (2 : Int32) ≤ 0 by rw [← h9.1]; exact c13) (by decide)
    obtain ⟨a, i, rfl, rfl, ha, h6, hi, hS9, rfl⟩ : ∃ a i, r = nI a ∧ k = nI i ∧ a < n ∧ σ 6 a = 0 ∧ i < 3 ∧ mS 0 (zu σ (11 + a) i v) τ ∧ r9 = σ (11 + a) i := hr9
    refine wm_aload_n 19 rfl dX5_thingsIf_18 rfl rfl ?_
    refine wm_callVi (ty := .int) 22 rfl dX5_thingsIf_19 (k_X5_thingMany l (σ := zu σ (11 + a) i v) (τ := τ) hS9.2 (n := n) (p := p) ⟨by rw [zu_ne _ _ _ (by omega)]; exact hI.1, hI.2⟩ ⟨by rw [zu_ne _ _ _ (by omega)]; exact hP.1, hP.2⟩ (fun x hx => by rw [zu_ne _ _ _ (by omega), zu_ne _ _ _ (by omega)]; exact hQ x hx)) ca_X5_thingMany cv_X5_thingMany rfl aw_21_12 rfl rfl ⟨Nat.le_of_ble_eq_true rfl, Nat.le_of_ble_eq_true rfl⟩ (Nat.le_of_ble_eq_true rfl) ⟨Nat.zero_le _, Nat.zero_le _⟩ ?_
    rintro r9 υ ⟨hF, rfl⟩
    have hS0 := fM_S hF hS9.1
    refine wm_istore (ls' := [(5, _), (4, _), (0, _), (1, _), (2, _), (3, _)]) 24 rfl dX5_thingsIf_22 (by decide) rfl ?_
    refine wm_aload_n 25 rfl dX5_thingsIf_24 rfl rfl ?_
    refine wm_getR 28 rfl dX5_thingsIf_25 gf_X5_21_4 rfl rfl ?_
    refine wm_iload_n 29 rfl dX5_thingsIf_28 rfl rfl ?_
    refine wm_aaload (r := 11 + a) 30 rfl dX5_thingsIf_29 rfl (vp_in_nI (by omega) (by omega)) (by rw [nI_clamp (by omega)]) ?_
    refine wm_iload_n 31 rfl dX5_thingsIf_30 rfl rfl ?_
    refine wm_iload 33 rfl dX5_thingsIf_31 rfl ?_
    refine wm_iastore 34 rfl dX5_thingsIf_33 (Lm_row (by omega) (by omega)) (vp_in_nI hi (by omega)) ?_
    rw [nI_clamp (by omega)]
    refine wm_iload 36 rfl dX5_thingsIf_34 rfl ?_
    exact wm_iret dX5_thingsIf_36 (by first | rfl | exact zp_nar) (Or.inr ⟨p1, Or.inr ⟨p2, Or.inr ⟨p3, ⟨a, i, rfl, rfl, ha, h6, hi, mS_bk hS0 (by omega) (by omega) (fun e => by omega), hF.2.2.1, rfl⟩⟩⟩⟩)
  · refine wm_iconst (v := 0) 17 rfl dX5_thingsIf_16 (by decide) ?_
    exact wm_iret dX5_thingsIf_17 (by first | rfl | exact zp_nar) (by
  rcases hr9 with ⟨n1, h9⟩ | ⟨p1, ⟨n2, h9⟩ | ⟨p2, ⟨n3, h9⟩ | ⟨p3, hr9⟩⟩⟩
  · exact Or.inl ⟨n1, h9⟩
  · exact Or.inr ⟨p1, Or.inl ⟨n2, h9⟩⟩
  · exact Or.inr ⟨p1, Or.inr ⟨p2, Or.inl ⟨n3, h9⟩⟩⟩
  · obtain ⟨a, i, -, -, -, -, -, hS9, -⟩ : ∃ a i, r = nI a ∧ k = nI i ∧ a < n ∧ σ 6 a = 0 ∧ i < 3 ∧ mS 0 (zu σ (11 + a) i v) τ ∧ r9 = σ (11 + a) i := hr9
    exact absurd (show ((0 : Int32) ≤ 0) by decide) (by rw [← hS9.1]; rw [hS9.1] at c13; rw [hS9.1]; exact c13))
theorem k_X5_thingsIfAllowed (l : Launch) {σ : Sg} {n p : Nat} (hI : mI σ n) (hP : mP σ p) (hQ : mQ σ n p) (h17 : σ 0 17 = -1) (r o : Int32) : cMi l yX5_thingsIfAllowed cX5_thingsIfAllowed 5 .int 5 Lm [.ref 0, .int r, .int o] σ (fun v σ1 => mTh σ σ1 [(1, rcM σ n r), (1, rcM σ n o), (2, frM σ p r o)] (∃ a b i, r = nI a ∧ o = nI b ∧ (a < n ∧ σ 6 a = 0) ∧ (b < n ∧ σ 6 b = 0) ∧ i < p ∧ mtc σ a b i ∧ (∀ j, j < i → ¬ mtc σ a b j) ∧ mS 0 σ σ1 ∧ fG (zu σ 0 17 (nI i)) n p ∧ v = nI (cq (thM (zu σ 0 17 (nI i)) n p) n))) := by
  have h24 := hI.2
  have h12 := hP.2
  refine zMet_of (by decide +kernel) (Nat.le_of_ble_eq_true rfl) (fun D cT ad sz => ?_)
  show Wm (fun _ _ => True) l (rmh 5) RX5 cX5_thingsIfAllowed 5 (some .int) D cT ad Lm (zA ad Lm.length sz) (zZ (fun D cT ad L9 sz => zQi D cT ad L9 sz (fun v σ1 => mTh σ σ1 [(1, rcM σ n r), (1, rcM σ n o), (2, frM σ p r o)] (∃ a b i, r = nI a ∧ o = nI b ∧ (a < n ∧ σ 6 a = 0) ∧ (b < n ∧ σ 6 b = 0) ∧ i < p ∧ mtc σ a b i ∧ (∀ j, j < i → ¬ mtc σ a b j) ∧ mS 0 σ σ1 ∧ fG (zu σ 0 17 (nI i)) n p ∧ v = nI (cq (thM (zu σ 0 17 (nI i)) n p) n)))) D cT ad Lm sz) [] 0 (lv_args 0 [.ref 0, .int r, .int o]) [] σ 0 0
  refine wm_aload_n 1 rfl dX5_thingsIfAllowed_0 rfl rfl ?_
  refine wm_iload_n 2 rfl dX5_thingsIfAllowed_1 rfl rfl ?_
  refine wm_callVi (ty := .boolean) 5 rfl dX5_thingsIfAllowed_2 (k_X5_isRecord l hI _) ca_X5_isRecord cv_X5_isRecord rfl aw_8_10 rfl rfl ⟨Nat.le_of_ble_eq_true rfl, Nat.le_of_ble_eq_true rfl⟩ (Nat.le_of_ble_eq_true rfl) ⟨Nat.zero_le _, Nat.zero_le _⟩ ?_
  rintro r9 σ9 ⟨rfl, rfl⟩
  refine wm_if_eq 16 8 rfl (by decide) dX5_thingsIfAllowed_5 (fun c5 => ?_) (fun c5 => ?_)
  · refine wm_aload_n 17 rfl dX5_thingsIfAllowed_16 rfl rfl ?_
    refine wm_iconst (v := 1) 18 rfl dX5_thingsIfAllowed_17 (by decide) ?_
    refine wm_callVi (ty := .int) 21 rfl dX5_thingsIfAllowed_18 (k_X5_raises l 1) ca_X5_raises cv_X5_raises rfl aw_13_14 rfl rfl ⟨Nat.le_of_ble_eq_true rfl, Nat.le_of_ble_eq_true rfl⟩ (Nat.le_of_ble_eq_true rfl) ⟨Nat.zero_le _, Nat.zero_le _⟩ ?_
    rintro r9 σ9 ⟨rfl, rfl⟩
    exact wm_iret dX5_thingsIfAllowed_21 (by first | rfl | exact zp_nar) (by first | exact Or.inl ⟨zp_0.mp c5, mS_thr _ _⟩ | exact Or.inr ⟨zp_n.mp c5, Or.inl ⟨zp_0.mp c13, mS_thr _ _⟩⟩)
  · refine wm_aload_n 9 rfl dX5_thingsIfAllowed_8 rfl rfl ?_
    refine wm_iload_n 10 rfl dX5_thingsIfAllowed_9 rfl rfl ?_
    refine wm_callVi (ty := .boolean) 13 rfl dX5_thingsIfAllowed_10 (k_X5_isRecord l hI _) ca_X5_isRecord cv_X5_isRecord rfl aw_8_10 rfl rfl ⟨Nat.le_of_ble_eq_true rfl, Nat.le_of_ble_eq_true rfl⟩ (Nat.le_of_ble_eq_true rfl) ⟨Nat.zero_le _, Nat.zero_le _⟩ ?_
    rintro r9 σ9 ⟨rfl, rfl⟩
    refine wm_if_ne 22 16 rfl (by decide) dX5_thingsIfAllowed_13 (fun c13 => ?_) (fun c13 => ?_)
    · obtain ⟨a, rfl, ha, ha6⟩ := zp_n.mp c5
      obtain ⟨b, rfl, hb, hb6⟩ := zp_n.mp c13
      have f1 : rcM σ n (nI a) := ⟨a, rfl, ha, ha6⟩
      have f2 : rcM σ n (nI b) := ⟨b, rfl, hb, hb6⟩
      refine wm_aload_n 23 rfl dX5_thingsIfAllowed_22 rfl rfl ?_
      refine wm_iload_n 24 rfl dX5_thingsIfAllowed_23 rfl rfl ?_
      refine wm_iload_n 25 rfl dX5_thingsIfAllowed_24 rfl rfl ?_
      refine wm_callVi (ty := .int) 28 rfl dX5_thingsIfAllowed_25 (k_X5_pair l (stM.rf σ) hP (a := a) (b := b)) ca_X5_pair cv_X5_pair rfl aw_12_8 rfl rfl ⟨Nat.le_of_ble_eq_true rfl, Nat.le_of_ble_eq_true rfl⟩ (Nat.le_of_ble_eq_true rfl) ⟨Nat.zero_le _, Nat.zero_le _⟩ ?_
      rintro r9 σ9 ⟨rfl, hpr⟩
      refine wm_istore_n (ls' := [(3, _), (0, _), (1, _), (2, _)]) 29 rfl dX5_thingsIfAllowed_28 rfl (by decide) rfl ?_
      refine wm_iload_n 30 rfl dX5_thingsIfAllowed_29 rfl rfl ?_
      refine wm_iconst (v := (-1)) 31 rfl dX5_thingsIfAllowed_30 (by decide) ?_
      refine wm_icmp_ne 40 34 rfl (by decide) dX5_thingsIfAllowed_31 (fun c31 => ?_) (fun c31 => ?_)
      · rcases hpr with ⟨i, hi, rfl, hm1, hm2⟩ | ⟨e9, -⟩
        rotate_left
        · exact absurd e9 c31
        have f3 : frM σ p (nI a) (nI b) := (frM_n (by omega) (by omega)).mpr ⟨i, hi, hm1⟩
        refine wm_aload_n 41 rfl dX5_thingsIfAllowed_40 rfl rfl ?_
        refine wm_iconst (v := 0) 42 rfl dX5_thingsIfAllowed_41 (by decide) ?_
        refine wm_putI 45 rfl dX5_thingsIfAllowed_42 pf_X5_53_4 rfl rfl ?_
        refine wm_aload_n 46 rfl dX5_thingsIfAllowed_45 rfl rfl ?_
        refine wm_iload_n 47 rfl dX5_thingsIfAllowed_46 rfl rfl ?_
        refine wm_putI 50 rfl dX5_thingsIfAllowed_47 pf_X5_50_4 rfl rfl ?_
        refine wm_aload_n 51 rfl dX5_thingsIfAllowed_50 rfl rfl ?_
        refine wm_callVi (ty := .int) 54 rfl dX5_thingsIfAllowed_51 (k_X5_thingMany l (σ := zu σ 0 17 (nI i)) (τ := zu (zu σ 0 13 0) 0 17 (nI i)) (stM_zz (stM_thr σ 0) 0 17 (nI i)) (n := n) (p := p) ⟨hI.1, hI.2⟩ ⟨hP.1, hP.2⟩ hQ) ca_X5_thingMany cv_X5_thingMany rfl aw_21_12 rfl rfl ⟨Nat.le_of_ble_eq_true rfl, Nat.le_of_ble_eq_true rfl⟩ (Nat.le_of_ble_eq_true rfl) ⟨Nat.zero_le _, Nat.zero_le _⟩ ?_
        rintro r9 υ ⟨hF, rfl⟩
        have hS0 := fM_S hF (show zu (zu σ 0 13 0) 0 17 (nI i) 0 13 = 0 from rfl)
        refine wm_istore (ls' := [(4, _), (3, _), (0, _), (1, _), (2, _)]) 56 rfl dX5_thingsIfAllowed_54 (by decide) rfl ?_
        refine wm_aload_n 57 rfl dX5_thingsIfAllowed_56 rfl rfl ?_
        refine wm_iconst (v := (-1)) 58 rfl dX5_thingsIfAllowed_57 (by decide) ?_
        refine wm_putI 61 rfl dX5_thingsIfAllowed_58 pf_X5_50_4 rfl rfl ?_
        refine wm_iload 63 rfl dX5_thingsIfAllowed_61 rfl ?_
        exact wm_iret dX5_thingsIfAllowed_63 (by first | rfl | exact zp_nar) (Or.inr ⟨f1, Or.inr ⟨f2, Or.inr ⟨f3, ⟨a, b, i, rfl, rfl, ⟨ha, ha6⟩, ⟨hb, hb6⟩, hi, hm1, hm2, by have := mS_bk hS0 (by decide) (by decide) (fun _ => by decide); rw [h17] at this; exact this, hF.2.2.1, rfl⟩⟩⟩⟩)
      · refine wm_aload_n 35 rfl dX5_thingsIfAllowed_34 rfl rfl ?_
        refine wm_iconst (v := 2) 36 rfl dX5_thingsIfAllowed_35 (by decide) ?_
        refine wm_callVi (ty := .int) 39 rfl dX5_thingsIfAllowed_36 (k_X5_raises l 2) ca_X5_raises cv_X5_raises rfl aw_13_14 rfl rfl ⟨Nat.le_of_ble_eq_true rfl, Nat.le_of_ble_eq_true rfl⟩ (Nat.le_of_ble_eq_true rfl) ⟨Nat.zero_le _, Nat.zero_le _⟩ ?_
        rintro r9 σ9 ⟨rfl, rfl⟩
        exact wm_iret dX5_thingsIfAllowed_39 (by first | rfl | exact zp_nar) (Or.inr ⟨f1, Or.inr ⟨f2, Or.inl ⟨fun q => (prI_no hpr hP.2).mp c31 ((frM_n (by omega) (by omega)).mp q), mS_thr _ _⟩⟩⟩)
    · refine wm_aload_n 17 rfl dX5_thingsIfAllowed_16 rfl rfl ?_
      refine wm_iconst (v := 1) 18 rfl dX5_thingsIfAllowed_17 (by decide) ?_
      refine wm_callVi (ty := .int) 21 rfl dX5_thingsIfAllowed_18 (k_X5_raises l 1) ca_X5_raises cv_X5_raises rfl aw_13_14 rfl rfl ⟨Nat.le_of_ble_eq_true rfl, Nat.le_of_ble_eq_true rfl⟩ (Nat.le_of_ble_eq_true rfl) ⟨Nat.zero_le _, Nat.zero_le _⟩ ?_
      rintro r9 σ9 ⟨rfl, rfl⟩
      exact wm_iret dX5_thingsIfAllowed_21 (by first | rfl | exact zp_nar) (by first | exact Or.inl ⟨zp_0.mp c5, mS_thr _ _⟩ | exact Or.inr ⟨zp_n.mp c5, Or.inl ⟨zp_0.mp c13, mS_thr _ _⟩⟩)
theorem k_X5_weight (l : Launch) {σ : Sg} {n : Nat} (hI : mI σ n) (hS : sM σ n) (r : Int32) : cMi l yX5_weight cX5_weight 2 .int 3 Lm [.ref 0, .int r] σ (fun v σ1 => mTh σ σ1 [(1, rcM σ n r)] (∃ a, r = nI a ∧ a < n ∧ σ 6 a = 0 ∧ mS 0 σ σ1 ∧ v = wg (enM σ) a (σ 0 12))) := by
  have h24 := hI.2
  refine zMet_of (by decide +kernel) (Nat.le_of_ble_eq_true rfl) (fun D cT ad sz => ?_)
  show Wm (fun _ _ => True) l (rmh 3) RX5 cX5_weight 2 (some .int) D cT ad Lm (zA ad Lm.length sz) (zZ (fun D cT ad L9 sz => zQi D cT ad L9 sz (fun v σ1 => mTh σ σ1 [(1, rcM σ n r)] (∃ a, r = nI a ∧ a < n ∧ σ 6 a = 0 ∧ mS 0 σ σ1 ∧ v = wg (enM σ) a (σ 0 12)))) D cT ad Lm sz) [] 0 (lv_args 0 [.ref 0, .int r]) [] σ 0 0
  refine wm_aload_n 1 rfl dX5_weight_0 rfl rfl ?_
  refine wm_iload_n 2 rfl dX5_weight_1 rfl rfl ?_
  refine wm_callVi (ty := .boolean) 5 rfl dX5_weight_2 (k_X5_lacks l hI _) ca_X5_lacks cv_X5_lacks rfl aw_9_17 rfl rfl ⟨Nat.le_of_ble_eq_true rfl, Nat.le_of_ble_eq_true rfl⟩ (Nat.le_of_ble_eq_true rfl) ⟨Nat.zero_le _, Nat.zero_le _⟩ ?_
  rintro r9 σ9 ⟨rfl, rfl⟩
  refine wm_if_eq 12 8 rfl (by decide) dX5_weight_5 (fun c5 => ?_) (fun c5 => ?_)
  · rw [c5]
    have p1 := Classical.not_not.mp (zp_0.mp c5)
    have q1 := p1
    obtain ⟨a, rfl, ha, h6⟩ := q1
    refine wm_aload_n 13 rfl dX5_weight_12 rfl rfl ?_
    refine wm_iload_n 14 rfl dX5_weight_13 rfl rfl ?_
    refine wm_callVi (ty := .int) 17 rfl dX5_weight_14 (k_X5_weightOf l (stM_thr σ 0) h24 hS ha) ca_X5_weightOf cv_X5_weightOf rfl aw_27_7 rfl rfl ⟨Nat.le_of_ble_eq_true rfl, Nat.le_of_ble_eq_true rfl⟩ (Nat.le_of_ble_eq_true rfl) ⟨Nat.zero_le _, Nat.zero_le _⟩ ?_
    rintro r9 σ9 ⟨rfl, rfl⟩
    exact wm_iret dX5_weight_17 (by first | rfl | exact zp_nar) (by first | exact Or.inl ⟨zp_n.mp c5, mS_z (zp_n.mp c5)⟩ | exact Or.inr ⟨p1, a, rfl, ha, h6, mS_thr _ _, rfl⟩)
  · refine wm_iconst (v := 0) 9 rfl dX5_weight_8 (by decide) ?_
    refine wm_goto 17 (by decide) dX5_weight_9 ?_
    exact wm_iret dX5_weight_17 (by first | rfl | exact zp_nar) (by first | exact Or.inl ⟨zp_n.mp c5, mS_z (zp_n.mp c5)⟩ | exact Or.inr ⟨p1, a, rfl, ha, h6, mS_thr _ _, rfl⟩)
theorem k_X5_setLimit (l : Launch) {σ : Sg} (x : Int32) : cMi l yX5_setLimit cX5_setLimit 3 .int 1 Lm [.ref 0, .int x] σ (fun v σ1 => mTh σ σ1 [(1, rg x 1 99)] (mS 0 (zu σ 0 11 x) σ1 ∧ v = σ 0 11)) := by
  refine zMet_of (by decide +kernel) (Nat.le_of_ble_eq_true rfl) (fun D cT ad sz => ?_)
  show Wm (fun _ _ => True) l (rmh 1) RX5 cX5_setLimit 3 (some .int) D cT ad Lm (zA ad Lm.length sz) (zZ (fun D cT ad L9 sz => zQi D cT ad L9 sz (fun v σ1 => mTh σ σ1 [(1, rg x 1 99)] (mS 0 (zu σ 0 11 x) σ1 ∧ v = σ 0 11))) D cT ad Lm sz) [] 0 (lv_args 0 [.ref 0, .int x]) [] σ 0 0
  refine wm_aload_n 1 rfl dX5_setLimit_0 rfl rfl ?_
  refine wm_iload_n 2 rfl dX5_setLimit_1 rfl rfl ?_
  refine wm_iconst (v := 1) 3 rfl dX5_setLimit_2 (by decide) ?_
  refine wm_bipush (v := 99) 5 rfl dX5_setLimit_3 (by decide) ?_
  refine wm_callSi (ty := .boolean) 8 rfl dX5_setLimit_5 (k_X5_in l x 1 99) ca_X5_in aw_5_3 aw_5_2 ⟨Nat.le_of_ble_eq_true rfl, Nat.le_of_ble_eq_true rfl⟩ (Nat.le_of_ble_eq_true rfl) ⟨Nat.zero_le _, Nat.zero_le _⟩ ?_
  rintro r9 σ9 ⟨rfl, rfl⟩
  refine wm_if_eq 15 11 rfl (by decide) dX5_setLimit_8 (fun c8 => ?_) (fun c8 => ?_)
  · refine wm_iconst (v := 1) 16 rfl dX5_setLimit_15 (by decide) ?_
    refine wm_putI 19 rfl dX5_setLimit_16 pf_X5_53_4 rfl rfl ?_
    refine wm_aload_n 20 rfl dX5_setLimit_19 rfl rfl ?_
    refine wm_getI 23 rfl dX5_setLimit_20 gf_X5_53_4 rfl rfl ?_
    refine wm_if_le 28 26 rfl (by decide) dX5_setLimit_23 (fun c23 => ?_) (fun c23 => ?_)
    · exact absurd (show (1 : Int32) ≤ 0 from c23) (by decide)
    · refine wm_iconst (v := 0) 27 rfl dX5_setLimit_26 (by decide) ?_
      exact wm_iret dX5_setLimit_27 (by first | rfl | exact zp_nar) (Or.inl ⟨zp_0.mp c8, mS_thr _ _⟩)
  · refine wm_iconst (v := 0) 12 rfl dX5_setLimit_11 (by decide) ?_
    refine wm_goto 16 (by decide) dX5_setLimit_12 ?_
    refine wm_putI 19 rfl dX5_setLimit_16 pf_X5_53_4 rfl rfl ?_
    refine wm_aload_n 20 rfl dX5_setLimit_19 rfl rfl ?_
    refine wm_getI 23 rfl dX5_setLimit_20 gf_X5_53_4 rfl rfl ?_
    refine wm_if_le 28 26 rfl (by decide) dX5_setLimit_23 (fun c23 => ?_) (fun c23 => ?_)
    · refine wm_aload_n 29 rfl dX5_setLimit_28 rfl rfl ?_
      refine wm_getI 32 rfl dX5_setLimit_29 gf_X5_37_4 rfl rfl ?_
      refine wm_istore_n (ls' := [(2, _), (0, _), (1, _)]) 33 rfl dX5_setLimit_32 rfl (by decide) rfl ?_
      refine wm_aload_n 34 rfl dX5_setLimit_33 rfl rfl ?_
      refine wm_iload_n 35 rfl dX5_setLimit_34 rfl rfl ?_
      refine wm_putI 38 rfl dX5_setLimit_35 pf_X5_37_4 rfl rfl ?_
      refine wm_iload_n 39 rfl dX5_setLimit_38 rfl rfl ?_
      exact wm_iret dX5_setLimit_39 (by first | rfl | exact zp_nar) (Or.inr ⟨zp_n.mp c8, ⟨(mS_zz (mS_thr 0 σ) _ (fun _ => by decide)), rfl⟩⟩)
    · exact absurd (show (0 : Int32) ≤ 0 by decide) (show ¬ (0 : Int32) ≤ 0 from c23)
theorem k_X5_pass (l : Launch) {σ : Sg} (x : Int32) : cMi l yX5_pass cX5_pass 2 .int 1 Lm [.ref 0, .int x] σ (fun v σ1 => mTh σ σ1 [(1, rg x 1 99), (1, σ 0 12 + x ≤ 999)] (mS 0 (zu σ 0 12 (σ 0 12 + x)) σ1 ∧ v = σ 0 12 + x)) := by
  refine zMet_of (by decide +kernel) (Nat.le_of_ble_eq_true rfl) (fun D cT ad sz => ?_)
  show Wm (fun _ _ => True) l (rmh 1) RX5 cX5_pass 2 (some .int) D cT ad Lm (zA ad Lm.length sz) (zZ (fun D cT ad L9 sz => zQi D cT ad L9 sz (fun v σ1 => mTh σ σ1 [(1, rg x 1 99), (1, σ 0 12 + x ≤ 999)] (mS 0 (zu σ 0 12 (σ 0 12 + x)) σ1 ∧ v = σ 0 12 + x))) D cT ad Lm sz) [] 0 (lv_args 0 [.ref 0, .int x]) [] σ 0 0
  refine wm_aload_n 1 rfl dX5_pass_0 rfl rfl ?_
  refine wm_iload_n 2 rfl dX5_pass_1 rfl rfl ?_
  refine wm_iconst (v := 1) 3 rfl dX5_pass_2 (by decide) ?_
  refine wm_bipush (v := 99) 5 rfl dX5_pass_3 (by decide) ?_
  refine wm_callSi (ty := .boolean) 8 rfl dX5_pass_5 (k_X5_in l x 1 99) ca_X5_in aw_5_3 aw_5_2 ⟨Nat.le_of_ble_eq_true rfl, Nat.le_of_ble_eq_true rfl⟩ (Nat.le_of_ble_eq_true rfl) ⟨Nat.zero_le _, Nat.zero_le _⟩ ?_
  rintro r9 σ9 ⟨rfl, rfl⟩
  refine wm_if_eq 23 11 rfl (by decide) dX5_pass_8 (fun c8 => ?_) (fun c8 => ?_)
  · refine wm_iconst (v := 1) 24 rfl dX5_pass_23 (by decide) ?_
    refine wm_goto 28 (by decide) dX5_pass_24 ?_
    refine wm_putI 31 rfl dX5_pass_28 pf_X5_53_4 rfl rfl ?_
    refine wm_aload_n 32 rfl dX5_pass_31 rfl rfl ?_
    refine wm_getI 35 rfl dX5_pass_32 gf_X5_53_4 rfl rfl ?_
    refine wm_if_le 40 38 rfl (by decide) dX5_pass_35 (fun c35 => ?_) (fun c35 => ?_)
    · exact absurd (show (1 : Int32) ≤ 0 from c35) (by decide)
    · refine wm_iconst (v := 0) 39 rfl dX5_pass_38 (by decide) ?_
      exact wm_iret dX5_pass_39 (by first | rfl | exact zp_nar) (by first | exact Or.inl ⟨zp_0.mp c8, mS_thr _ _⟩ | exact Or.inr ⟨zp_n.mp c8, Or.inl ⟨c20, mS_thr _ _⟩⟩)
  · refine wm_aload_n 12 rfl dX5_pass_11 rfl rfl ?_
    refine wm_getI 15 rfl dX5_pass_12 gf_X5_73_4 rfl rfl ?_
    refine wm_iload_n 16 rfl dX5_pass_15 rfl rfl ?_
    refine wm_iadd 17 rfl dX5_pass_16 ?_
    refine wm_sipush (v := 999) 20 rfl dX5_pass_17 (by decide) ?_
    refine wm_icmp_le 27 23 rfl (by decide) dX5_pass_20 (fun c20 => ?_) (fun c20 => ?_)
    · refine wm_iconst (v := 0) 28 rfl dX5_pass_27 (by decide) ?_
      refine wm_putI 31 rfl dX5_pass_28 pf_X5_53_4 rfl rfl ?_
      refine wm_aload_n 32 rfl dX5_pass_31 rfl rfl ?_
      refine wm_getI 35 rfl dX5_pass_32 gf_X5_53_4 rfl rfl ?_
      refine wm_if_le 40 38 rfl (by decide) dX5_pass_35 (fun c35 => ?_) (fun c35 => ?_)
      · refine wm_aload_n 41 rfl dX5_pass_40 rfl rfl ?_
        refine wm_dup 42 rfl rfl dX5_pass_41 ?_
        refine wm_getI 45 rfl dX5_pass_42 gf_X5_73_4 rfl rfl ?_
        refine wm_iload_n 46 rfl dX5_pass_45 rfl rfl ?_
        refine wm_iadd 47 rfl dX5_pass_46 ?_
        refine wm_putI 50 rfl dX5_pass_47 pf_X5_73_4 rfl rfl ?_
        refine wm_aload_n 51 rfl dX5_pass_50 rfl rfl ?_
        refine wm_getI 54 rfl dX5_pass_51 gf_X5_73_4 rfl rfl ?_
        exact wm_iret dX5_pass_54 (by first | rfl | exact zp_nar) (Or.inr ⟨zp_n.mp c8, Or.inr ⟨c20, ⟨(mS_zz (mS_thr 0 σ) _ (fun _ => by decide)), rfl⟩⟩⟩)
      · exact absurd (show (0 : Int32) ≤ 0 by decide) (show ¬ (0 : Int32) ≤ 0 from c35)
    · refine wm_iconst (v := 1) 24 rfl dX5_pass_23 (by decide) ?_
      refine wm_goto 28 (by decide) dX5_pass_24 ?_
      refine wm_putI 31 rfl dX5_pass_28 pf_X5_53_4 rfl rfl ?_
      refine wm_aload_n 32 rfl dX5_pass_31 rfl rfl ?_
      refine wm_getI 35 rfl dX5_pass_32 gf_X5_53_4 rfl rfl ?_
      refine wm_if_le 40 38 rfl (by decide) dX5_pass_35 (fun c35 => ?_) (fun c35 => ?_)
      · exact absurd (show (1 : Int32) ≤ 0 from c35) (by decide)
      · refine wm_iconst (v := 0) 39 rfl dX5_pass_38 (by decide) ?_
        exact wm_iret dX5_pass_39 (by first | rfl | exact zp_nar) (by first | exact Or.inl ⟨zp_0.mp c8, mS_thr _ _⟩ | exact Or.inr ⟨zp_n.mp c8, Or.inl ⟨c20, mS_thr _ _⟩⟩)
theorem k_X5_today (l : Launch) {σ : Sg} : cMi l yX5_today cX5_today 1 .int 0 Lm [.ref 0] σ (fun v σ1 => mS 0 σ σ1 ∧ v = σ 0 12) := by
  refine zMet_of (by decide +kernel) (Nat.le_of_ble_eq_true rfl) (fun D cT ad sz => ?_)
  show Wm (fun _ _ => True) l (rmh 0) RX5 cX5_today 1 (some .int) D cT ad Lm (zA ad Lm.length sz) (zZ (fun D cT ad L9 sz => zQi D cT ad L9 sz (fun v σ1 => mS 0 σ σ1 ∧ v = σ 0 12)) D cT ad Lm sz) [] 0 (lv_args 0 [.ref 0]) [] σ 0 0
  refine wm_aload_n 1 rfl dX5_today_0 rfl rfl ?_
  refine wm_iconst (v := 0) 2 rfl dX5_today_1 (by decide) ?_
  refine wm_putI 5 rfl dX5_today_2 pf_X5_53_4 rfl rfl ?_
  refine wm_aload_n 6 rfl dX5_today_5 rfl rfl ?_
  refine wm_getI 9 rfl dX5_today_6 gf_X5_73_4 rfl rfl ?_
  exact wm_iret dX5_today_9 (by first | rfl | exact zp_nar) ⟨mS_thr 0 σ, rfl⟩
