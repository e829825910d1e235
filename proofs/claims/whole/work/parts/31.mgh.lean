theorem ca_X5_lastOf : zCal yX5_lastOf cX5_lastOf 4 (some .int) 1 := ⟨aw_32_6, aw_1_5, by decide +kernel, by decide +kernel, by decide +kernel⟩
theorem cv_X5_lastOf : zCaV RX5 yX5_lastOf := ⟨aw_32_4, aw_32_5⟩
theorem ca_X5_nextGhost : zCal yX5_nextGhost cX5_nextGhost 4 (some .int) 0 := ⟨aw_32_23, aw_1_5, by decide +kernel, by decide +kernel, by decide +kernel⟩
theorem cv_X5_nextGhost : zCaV RX5 yX5_nextGhost := ⟨aw_32_21, aw_32_22⟩
/-! THE MODEL'S CALLS: ghosts, the mark -/
def ghM (σ : Sg) (n : Nat) (g sn : Nat → Nat) (L t h : Nat) : Prop := L < t - lsM σ n g sn h
/-- the next day on which one of T, seen last on ls, becomes a ghost -/
def NGq (T : Nat → Prop) (ls : Nat → Nat) (d L m : Nat) (v : Int32) : Prop := (v = -1 ∧ ∀ h, h < m → T h → ¬ (d < ls h + L + 1 ∧ ls h + L + 1 ≤ 999)) ∨ ∃ t, v = nI t ∧ t ≤ 999 ∧ d < t ∧ (∃ h, h < m ∧ T h ∧ t = ls h + L + 1) ∧ ∀ h, h < m → T h → d < ls h + L + 1 → t ≤ ls h + L + 1
theorem NGq_keep {T : Nat → Prop} {ls : Nat → Nat} {d L m : Nat} {v : Int32} (hN : NGq T ls d L m v) (h : T m → ¬ (d < ls m + L + 1 ∧ ls m + L + 1 ≤ 999)) : NGq T ls d L (m + 1) v := by
  rcases hN with ⟨e, h1⟩ | ⟨t, e, h1, h2, ⟨x, hx, h3, h4⟩, h5⟩
  · exact Or.inl ⟨e, lt_s h1 h⟩
  · refine Or.inr ⟨t, e, h1, h2, ⟨x, by omega, h3, h4⟩, lt_s h5 (fun q1 q2 => ?_)⟩
    have := h q1
    omega
theorem NGq_keep2 {T : Nat → Prop} {ls : Nat → Nat} {d L m : Nat} {v : Int32} (hN : NGq T ls d L m v) (h1 : ¬ v = -1) (h2 : v ≤ nI (ls m + L + 1)) (hb : ls m + L + 1 < 2 ^ 31) : NGq T ls d L (m + 1) v := by
  rcases hN with ⟨e, -⟩ | ⟨t, e, h3, h4, ⟨x, hx, h5, h6⟩, h7⟩
  · exact absurd e h1
  · subst e
    exact Or.inr ⟨t, rfl, h3, h4, ⟨x, by omega, h5, h6⟩, lt_s h7 (fun _ _ => le_of_nI h2 (by omega) hb)⟩
theorem NGq_take {T : Nat → Prop} {ls : Nat → Nat} {d L m : Nat} {v : Int32} (hN : NGq T ls d L m v) (hm : T m) (h1 : d < ls m + L + 1) (h2 : ls m + L + 1 ≤ 999) (h3 : v = -1 ∨ nI (ls m + L + 1) < v) : NGq T ls d L (m + 1) (nI (ls m + L + 1)) := by
  refine Or.inr ⟨_, rfl, h2, h1, ⟨m, by omega, hm, rfl⟩, lt_s (fun x hx q1 q2 => ?_) (fun _ _ => Nat.le_refl _)⟩
  rcases hN with ⟨e, h4⟩ | ⟨t', e, h4, h5, -, h6⟩
  · have := h4 x hx q1
    omega
  · have h7 := h6 x hx q1 q2
    rcases h3 with h3 | h3
    · rw [e] at h3; exact absurd h3 (nI_ne_m1 (by omega))
    · rw [e] at h3
      have := nI_gt h3 (by omega) (by omega)
      omega
theorem rg_nn {a b c : Nat} (ha : a < 2 ^ 31) (hb : b < 2 ^ 31) (hc : c < 2 ^ 31) : rg (nI a) (nI b) (nI c) ↔ b ≤ a ∧ a ≤ c := by
  unfold rg
  constructor
  · rintro ⟨h1, h2⟩
    exact ⟨nI_ngt h1 ha hb, le_of_nI h2 ha hc⟩
  · rintro ⟨h1, h2⟩
    exact ⟨fun q => by have := nI_gt q ha hb; omega, (nI_leI ha hc).mpr h2⟩
theorem k_X5_isGhost (l : Launch) {σ : Sg} {n p : Nat} (hI : mI σ n) (hP : mP σ p) (hQ : mQ σ n p) {sn : Nat → Nat} {d L : Nat} (hD : cDM σ n sn d L) (h16 : σ 0 16 = -1) (r : Int32) : cMi l yX5_isGhost cX5_isGhost 2 .boolean 4 Lm [.ref 0, .int r] σ (fun v σ1 => mTh σ σ1 [(1, rcM σ n r)] (∃ a, r = nI a ∧ a < n ∧ σ 6 a = 0 ∧ mS 0 σ σ1 ∧ fG σ n p ∧ v = zp (ghM σ n (gM σ n p 2) sn L d ((gM σ n p 2) a)))) := by
  have h24 := hI.2
  have h12 := hP.2
  refine zMet_of (by decide +kernel) (Nat.le_of_ble_eq_true rfl) (fun D cT ad sz => ?_)
  show Wm (fun _ _ => True) l (rmh 4) RX5 cX5_isGhost 2 (some .boolean) D cT ad Lm (zA ad Lm.length sz) (zZ (fun D cT ad L9 sz => zQi D cT ad L9 sz (fun v σ1 => mTh σ σ1 [(1, rcM σ n r)] (∃ a, r = nI a ∧ a < n ∧ σ 6 a = 0 ∧ mS 0 σ σ1 ∧ fG σ n p ∧ v = zp (ghM σ n (gM σ n p 2) sn L d ((gM σ n p 2) a))))) D cT ad Lm sz) [] 0 (lv_args 0 [.ref 0, .int r]) [] σ 0 0
  refine wm_aload_n 1 rfl dX5_isGhost_0 rfl rfl ?_
  refine wm_iload_n 2 rfl dX5_isGhost_1 rfl rfl ?_
  refine wm_callVi (ty := .boolean) 5 rfl dX5_isGhost_2 (k_X5_lacks l hI _) ca_X5_lacks cv_X5_lacks rfl aw_9_17 rfl rfl ⟨Nat.le_of_ble_eq_true rfl, Nat.le_of_ble_eq_true rfl⟩ (Nat.le_of_ble_eq_true rfl) ⟨Nat.zero_le _, Nat.zero_le _⟩ ?_
  rintro r9 σ9 ⟨rfl, rfl⟩
  refine wm_if_eq 10 8 rfl (by decide) dX5_isGhost_5 (fun c5 => ?_) (fun c5 => ?_)
  · rw [c5]
    have p1 := Classical.not_not.mp (zp_0.mp c5)
    have q1 := p1
    obtain ⟨a, rfl, ha, h6⟩ := q1
    refine wm_aload_n 11 rfl dX5_isGhost_10 rfl rfl ?_
    refine wm_iconst (v := 2) 12 rfl dX5_isGhost_11 (by decide) ?_
    refine wm_callVv 15 rfl dX5_isGhost_12 (k_finds2 l (stM_thr σ 0) hI hP hQ) ca_X5_finds cv_X5_finds rfl aw_18_23 rfl rfl ⟨Nat.le_of_ble_eq_true rfl, Nat.le_of_ble_eq_true rfl⟩ (Nat.le_of_ble_eq_true rfl) ⟨Nat.zero_le _, Nat.zero_le _⟩ ?_
    rintro υ hF
    have hsυ := hF.2.1
    have hgυ := hF.2.2.2
    have hIυ := hsυ.mI hI
    have hS0 := fM_S hF (show zu σ 0 13 0 0 13 = 0 from rfl)
    refine wm_aload_n 16 rfl dX5_isGhost_15 rfl rfl ?_
    refine wm_getI 19 rfl dX5_isGhost_16 gf_X5_73_4 rfl rfl ?_
    refine wm_aload_n 20 rfl dX5_isGhost_19 rfl rfl ?_
    refine wm_aload_n 21 rfl dX5_isGhost_20 rfl rfl ?_
    refine wm_getR 24 rfl dX5_isGhost_21 gf_X5_41_4 rfl rfl ?_
    refine wm_iload_n 25 rfl dX5_isGhost_24 rfl rfl ?_
    refine wm_iaload 26 rfl dX5_isGhost_25 rfl (in24 ha h24) ?_
    have hga := (hgυ a ha).2
    have hd9 := hD.2.2.1
    have hL9 := hD.2.2.2.2.2
    rw [nI_clamp (by omega), (hgυ a ha).1]
    refine wm_callVi (ty := .int) 29 rfl dX5_isGhost_26 (k_X5_lastOf l hsυ hI hgυ hD (h := gM σ n p 2 a) (by omega) ⟨a, ha, ⟨ha, h6, by rw [h16]; exact nI_ne_m1 (by omega)⟩, rfl⟩) ca_X5_lastOf cv_X5_lastOf rfl aw_32_3 rfl rfl ⟨Nat.le_of_ble_eq_true rfl, Nat.le_of_ble_eq_true rfl⟩ (Nat.le_of_ble_eq_true rfl) ⟨Nat.zero_le _, Nat.zero_le _⟩ ?_
    rintro r9 σ9 ⟨rfl, rfl⟩
    refine wm_isub 30 rfl dX5_isGhost_29 ?_
    rw [hsυ 0 12 (by decide) (by decide) (fun _ => by decide), hD.2.1, pk_subN (by have : lsM σ n (gM σ n p 2) sn (gM σ n p 2 a) ≤ d := lsM_le hD; exact this)]
    refine wm_aload_n 31 rfl dX5_isGhost_30 rfl rfl ?_
    refine wm_getI 34 rfl dX5_isGhost_31 gf_X5_37_4 rfl rfl ?_
    refine wm_icmp_le 41 37 rfl (by decide) dX5_isGhost_34 (fun c34 => ?_) (fun c34 => ?_)
    · rw [hsυ 0 11 (by decide) (by decide) (fun _ => by decide), hD.2.2.2.1] at c34
      refine wm_iconst (v := 0) 42 rfl dX5_isGhost_41 (by decide) ?_
      exact wm_iret dX5_isGhost_42 (by first | rfl | exact zp_nar) (Or.inr ⟨p1, ⟨a, rfl, ha, h6, hS0, hF.2.2.1, (zp_f (fun q => by have := le_of_nI c34 (by omega) (by omega); unfold ghM at q; omega)).symm⟩⟩)
    · rw [hsυ 0 11 (by decide) (by decide) (fun _ => by decide), hD.2.2.2.1] at c34
      refine wm_iconst (v := 1) 38 rfl dX5_isGhost_37 (by decide) ?_
      refine wm_goto 42 (by decide) dX5_isGhost_38 ?_
      exact wm_iret dX5_isGhost_42 (by first | rfl | exact zp_nar) (Or.inr ⟨p1, ⟨a, rfl, ha, h6, hS0, hF.2.2.1, (zp_t (by have := lt_of_nnI c34 (by omega) (by omega); unfold ghM; omega)).symm⟩⟩)
  · refine wm_iconst (v := 0) 9 rfl dX5_isGhost_8 (by decide) ?_
    exact wm_iret dX5_isGhost_9 (by first | rfl | exact zp_nar) (Or.inl ⟨zp_n.mp c5, mS_z (zp_n.mp c5)⟩)
theorem k_X5_ghosts (l : Launch) {σ : Sg} {n p : Nat} (hI : mI σ n) (hP : mP σ p) (hQ : mQ σ n p) {sn : Nat → Nat} {d L : Nat} (hD : cDM σ n sn d L) (h16 : σ 0 16 = -1) : cMi l yX5_ghosts cX5_ghosts 3 .int 4 Lm [.ref 0] σ (fun v σ1 => mS 0 σ σ1 ∧ fG σ n p ∧ v = nI (cq (fun h => mbM σ n (gM σ n p 2) h h ∧ ghM σ n (gM σ n p 2) sn L d h) n)) := by
  have h24 := hI.2
  have h12 := hP.2
  refine zMet_of (by decide +kernel) (Nat.le_of_ble_eq_true rfl) (fun D cT ad sz => ?_)
  show Wm (fun _ _ => True) l (rmh 4) RX5 cX5_ghosts 3 (some .int) D cT ad Lm (zA ad Lm.length sz) (zZ (fun D cT ad L9 sz => zQi D cT ad L9 sz (fun v σ1 => mS 0 σ σ1 ∧ fG σ n p ∧ v = nI (cq (fun h => mbM σ n (gM σ n p 2) h h ∧ ghM σ n (gM σ n p 2) sn L d h) n))) D cT ad Lm sz) [] 0 (lv_args 0 [.ref 0]) [] σ 0 0
  refine wm_aload_n 1 rfl dX5_ghosts_0 rfl rfl ?_
  refine wm_iconst (v := 0) 2 rfl dX5_ghosts_1 (by decide) ?_
  refine wm_putI 5 rfl dX5_ghosts_2 pf_X5_53_4 rfl rfl ?_
  refine wm_aload_n 6 rfl dX5_ghosts_5 rfl rfl ?_
  refine wm_iconst (v := 2) 7 rfl dX5_ghosts_6 (by decide) ?_
  refine wm_callVv 10 rfl dX5_ghosts_7 (k_finds2 l (stM_thr σ 0) hI hP hQ) ca_X5_finds cv_X5_finds rfl aw_18_23 rfl rfl ⟨Nat.le_of_ble_eq_true rfl, Nat.le_of_ble_eq_true rfl⟩ (Nat.le_of_ble_eq_true rfl) ⟨Nat.zero_le _, Nat.zero_le _⟩ ?_
  rintro υ hF
  have hsυ := hF.2.1
  have hgυ := hF.2.2.2
  have hIυ := hsυ.mI hI
  have hS0 := fM_S hF (show zu σ 0 13 0 0 13 = 0 from rfl)
  refine wm_iconst (v := 0) 11 rfl dX5_ghosts_10 (by decide) ?_
  refine wm_istore_n (ls' := [(1, _), (0, _)]) 12 rfl dX5_ghosts_11 rfl (by decide) rfl ?_
  refine wm_iconst (v := 0) 13 rfl dX5_ghosts_12 (by decide) ?_
  refine wm_istore_n (ls' := [(2, _), (1, _), (0, _)]) 14 rfl dX5_ghosts_13 rfl (by decide) rfl ?_
  refine wm_loc (ls2 := [(0, _), (1, _), (2, _)]) [2, 1, 0] rfl ?_
  have lp : ∀ (q9 j : Nat), n - j = q9 → j ≤ n → True → Wm (fun _ _ => True) l (rmh 4) RX5 cX5_ghosts 3 (some .int) D cT ad Lm (zA ad Lm.length sz) (zZ (fun D cT ad L9 sz => zQi D cT ad L9 sz (fun v σ1 => mS 0 σ σ1 ∧ fG σ n p ∧ v = nI (cq (fun h => mbM σ n (gM σ n p 2) h h ∧ ghM σ n (gM σ n p 2) sn L d h) n))) D cT ad Lm sz) [] 14 [(0, .ref 0), (1, .int (nI (cq (fun h => mbM σ n (gM σ n p 2) h h ∧ ghM σ n (gM σ n p 2) sn L d h) j))), (2, .int (nI j))] [] υ 0 0 := by
    intro q9
    induction q9 using Nat.strongRecOn with
    | ind q9 ih =>
      intro j  hmj hjj hinv
      refine wm_iload_n 15 rfl dX5_ghosts_14 rfl rfl ?_
      refine wm_aload_n 16 rfl dX5_ghosts_15 rfl rfl ?_
      refine wm_getI 19 rfl dX5_ghosts_16 gf_X5_56_4 rfl rfl ?_
      refine wm_icmp_ge 62 22 rfl (by decide) dX5_ghosts_19 (fun c19 => ?_) (fun c19 => ?_)
      · rw [hIυ.1] at c19
        have gj : j = n := by have := le_of_nI c19 (by omega) (by omega); omega
        refine wm_iload_n 63 rfl dX5_ghosts_62 rfl rfl ?_
        exact wm_iret dX5_ghosts_63 (by first | rfl | exact zp_nar) ⟨hS0, hF.2.2.1, by rw [gj]⟩
      · rw [hIυ.1] at c19
        have gj : j < n := lt_of_nnI c19 (by omega) (by omega)
        refine wm_iload_n 23 rfl dX5_ghosts_22 rfl rfl ?_
        refine wm_aload_n 24 rfl dX5_ghosts_23 rfl rfl ?_
        refine wm_iload_n 25 rfl dX5_ghosts_24 rfl rfl ?_
        refine wm_iload_n 26 rfl dX5_ghosts_25 rfl rfl ?_
        refine wm_callVi (ty := .boolean) 29 rfl dX5_ghosts_26 (k_X5_isOf l hsυ h24 hgυ gj (h := j) gj) ca_X5_isOf cv_X5_isOf rfl aw_22_7 rfl rfl ⟨Nat.le_of_ble_eq_true rfl, Nat.le_of_ble_eq_true rfl⟩ (Nat.le_of_ble_eq_true rfl) ⟨Nat.zero_le _, Nat.zero_le _⟩ ?_
        rintro r9 σ9 ⟨rfl, rfl⟩
        refine wm_if_eq 53 32 rfl (by decide) dX5_ghosts_29 (fun c29 => ?_) (fun c29 => ?_)
        · refine wm_iconst (v := 0) 54 rfl dX5_ghosts_53 (by decide) ?_
          refine wm_iadd 55 rfl dX5_ghosts_54 ?_
          first
            | rw [show nI (cq (fun h => mbM σ n (gM σ n p 2) h h ∧ ghM σ n (gM σ n p 2) sn L d h) j) + 0 = nI (cq (fun h => mbM σ n (gM σ n p 2) h h ∧ ghM σ n (gM σ n p 2) sn L d h) (j + 1)) by rw [cq_f (P := (fun h => mbM σ n (gM σ n p 2) h h ∧ ghM σ n (gM σ n p 2) sn L d h)) (by first | exact fun q => zp_0.mp c29 q.1 | exact fun q => by have := le_of_nI c46 (by omega) (by omega); have := q.2; unfold ghM at this; omega)]; exact Int32.add_zero _]
            | rw [show nI (cq (fun h => mbM σ n (gM σ n p 2) h h ∧ ghM σ n (gM σ n p 2) sn L d h) j) + 1 = nI (cq (fun h => mbM σ n (gM σ n p 2) h h ∧ ghM σ n (gM σ n p 2) sn L d h) (j + 1)) by rw [cq_t (P := (fun h => mbM σ n (gM σ n p 2) h h ∧ ghM σ n (gM σ n p 2) sn L d h)) (⟨hm, by have := lt_of_nnI c46 (by omega) (by omega); unfold ghM; omega⟩)]; exact nI_1 _]
          refine wm_istore_n (ls' := [(1, _), (0, _), (2, _)]) 56 rfl dX5_ghosts_55 rfl (by decide) rfl ?_
          refine wm_iinc (ls' := [(2, _), (1, _), (0, _)]) 59 rfl dX5_ghosts_56 rfl (nI_inc _) (by decide) rfl ?_
          refine wm_goto 14 (by decide) dX5_ghosts_59 ?_
          refine wm_loc (ls2 := [(0, _), (1, _), (2, _)]) [2, 1, 0] rfl ?_
          exact ih (n - (j + 1)) (by omega) (j + 1) rfl (by omega) trivial
        · have hm := zp_n.mp c29
          have hd9 := hD.2.2.1
          have hL9 := hD.2.2.2.2.2
          refine wm_aload_n 33 rfl dX5_ghosts_32 rfl rfl ?_
          refine wm_getI 36 rfl dX5_ghosts_33 gf_X5_73_4 rfl rfl ?_
          refine wm_aload_n 37 rfl dX5_ghosts_36 rfl rfl ?_
          refine wm_iload_n 38 rfl dX5_ghosts_37 rfl rfl ?_
          refine wm_callVi (ty := .int) 41 rfl dX5_ghosts_38 (k_X5_lastOf l hsυ hI hgυ hD (h := j) gj ⟨j, gj, hm⟩) ca_X5_lastOf cv_X5_lastOf rfl aw_32_3 rfl rfl ⟨Nat.le_of_ble_eq_true rfl, Nat.le_of_ble_eq_true rfl⟩ (Nat.le_of_ble_eq_true rfl) ⟨Nat.zero_le _, Nat.zero_le _⟩ ?_
          rintro r9 σ9 ⟨rfl, rfl⟩
          refine wm_isub 42 rfl dX5_ghosts_41 ?_
          rw [hsυ 0 12 (by decide) (by decide) (fun _ => by decide), hD.2.1, pk_subN (by have : lsM σ n (gM σ n p 2) sn j ≤ d := lsM_le hD; exact this)]
          refine wm_aload_n 43 rfl dX5_ghosts_42 rfl rfl ?_
          refine wm_getI 46 rfl dX5_ghosts_43 gf_X5_37_4 rfl rfl ?_
          refine wm_icmp_le 53 49 rfl (by decide) dX5_ghosts_46 (fun c46 => ?_) (fun c46 => ?_)
          · rw [hsυ 0 11 (by decide) (by decide) (fun _ => by decide), hD.2.2.2.1] at c46
            refine wm_iconst (v := 0) 54 rfl dX5_ghosts_53 (by decide) ?_
            refine wm_iadd 55 rfl dX5_ghosts_54 ?_
            first
              | rw [show nI (cq (fun h => mbM σ n (gM σ n p 2) h h ∧ ghM σ n (gM σ n p 2) sn L d h) j) + 0 = nI (cq (fun h => mbM σ n (gM σ n p 2) h h ∧ ghM σ n (gM σ n p 2) sn L d h) (j + 1)) by rw [cq_f (P := (fun h => mbM σ n (gM σ n p 2) h h ∧ ghM σ n (gM σ n p 2) sn L d h)) (by first | exact fun q => zp_0.mp c29 q.1 | exact fun q => by have := le_of_nI c46 (by omega) (by omega); have := q.2; unfold ghM at this; omega)]; exact Int32.add_zero _]
              | rw [show nI (cq (fun h => mbM σ n (gM σ n p 2) h h ∧ ghM σ n (gM σ n p 2) sn L d h) j) + 1 = nI (cq (fun h => mbM σ n (gM σ n p 2) h h ∧ ghM σ n (gM σ n p 2) sn L d h) (j + 1)) by rw [cq_t (P := (fun h => mbM σ n (gM σ n p 2) h h ∧ ghM σ n (gM σ n p 2) sn L d h)) (⟨hm, by have := lt_of_nnI c46 (by omega) (by omega); unfold ghM; omega⟩)]; exact nI_1 _]
            refine wm_istore_n (ls' := [(1, _), (0, _), (2, _)]) 56 rfl dX5_ghosts_55 rfl (by decide) rfl ?_
            refine wm_iinc (ls' := [(2, _), (1, _), (0, _)]) 59 rfl dX5_ghosts_56 rfl (nI_inc _) (by decide) rfl ?_
            refine wm_goto 14 (by decide) dX5_ghosts_59 ?_
            refine wm_loc (ls2 := [(0, _), (1, _), (2, _)]) [2, 1, 0] rfl ?_
            exact ih (n - (j + 1)) (by omega) (j + 1) rfl (by omega) trivial
          · rw [hsυ 0 11 (by decide) (by decide) (fun _ => by decide), hD.2.2.2.1] at c46
            refine wm_iconst (v := 1) 50 rfl dX5_ghosts_49 (by decide) ?_
            refine wm_goto 54 (by decide) dX5_ghosts_50 ?_
            refine wm_iadd 55 rfl dX5_ghosts_54 ?_
            first
              | rw [show nI (cq (fun h => mbM σ n (gM σ n p 2) h h ∧ ghM σ n (gM σ n p 2) sn L d h) j) + 0 = nI (cq (fun h => mbM σ n (gM σ n p 2) h h ∧ ghM σ n (gM σ n p 2) sn L d h) (j + 1)) by rw [cq_f (P := (fun h => mbM σ n (gM σ n p 2) h h ∧ ghM σ n (gM σ n p 2) sn L d h)) (by first | exact fun q => zp_0.mp c29 q.1 | exact fun q => by have := le_of_nI c46 (by omega) (by omega); have := q.2; unfold ghM at this; omega)]; exact Int32.add_zero _]
              | rw [show nI (cq (fun h => mbM σ n (gM σ n p 2) h h ∧ ghM σ n (gM σ n p 2) sn L d h) j) + 1 = nI (cq (fun h => mbM σ n (gM σ n p 2) h h ∧ ghM σ n (gM σ n p 2) sn L d h) (j + 1)) by rw [cq_t (P := (fun h => mbM σ n (gM σ n p 2) h h ∧ ghM σ n (gM σ n p 2) sn L d h)) (⟨hm, by have := lt_of_nnI c46 (by omega) (by omega); unfold ghM; omega⟩)]; exact nI_1 _]
            refine wm_istore_n (ls' := [(1, _), (0, _), (2, _)]) 56 rfl dX5_ghosts_55 rfl (by decide) rfl ?_
            refine wm_iinc (ls' := [(2, _), (1, _), (0, _)]) 59 rfl dX5_ghosts_56 rfl (nI_inc _) (by decide) rfl ?_
            refine wm_goto 14 (by decide) dX5_ghosts_59 ?_
            refine wm_loc (ls2 := [(0, _), (1, _), (2, _)]) [2, 1, 0] rfl ?_
            exact ih (n - (j + 1)) (by omega) (j + 1) rfl (by omega) trivial
  exact lp n 0 rfl (Nat.zero_le _) trivial
theorem k_X5_nextGhost (l : Launch) {σ : Sg} {n p : Nat} (hI : mI σ n) (hP : mP σ p) (hQ : mQ σ n p) {sn : Nat → Nat} {d L : Nat} (hD : cDM σ n sn d L) (h16 : σ 0 16 = -1) : cMi l yX5_nextGhost cX5_nextGhost 4 .int 4 Lm [.ref 0] σ (fun v σ1 => mS 0 σ σ1 ∧ fG σ n p ∧ NGq (fun h => mbM σ n (gM σ n p 2) h h) (lsM σ n (gM σ n p 2) sn) d L n v) := by
  have h24 := hI.2
  have h12 := hP.2
  refine zMet_of (by decide +kernel) (Nat.le_of_ble_eq_true rfl) (fun D cT ad sz => ?_)
  show Wm (fun _ _ => True) l (rmh 4) RX5 cX5_nextGhost 4 (some .int) D cT ad Lm (zA ad Lm.length sz) (zZ (fun D cT ad L9 sz => zQi D cT ad L9 sz (fun v σ1 => mS 0 σ σ1 ∧ fG σ n p ∧ NGq (fun h => mbM σ n (gM σ n p 2) h h) (lsM σ n (gM σ n p 2) sn) d L n v)) D cT ad Lm sz) [] 0 (lv_args 0 [.ref 0]) [] σ 0 0
  refine wm_aload_n 1 rfl dX5_nextGhost_0 rfl rfl ?_
  refine wm_iconst (v := 0) 2 rfl dX5_nextGhost_1 (by decide) ?_
  refine wm_putI 5 rfl dX5_nextGhost_2 pf_X5_53_4 rfl rfl ?_
  refine wm_aload_n 6 rfl dX5_nextGhost_5 rfl rfl ?_
  refine wm_iconst (v := 2) 7 rfl dX5_nextGhost_6 (by decide) ?_
  refine wm_callVv 10 rfl dX5_nextGhost_7 (k_finds2 l (stM_thr σ 0) hI hP hQ) ca_X5_finds cv_X5_finds rfl aw_18_23 rfl rfl ⟨Nat.le_of_ble_eq_true rfl, Nat.le_of_ble_eq_true rfl⟩ (Nat.le_of_ble_eq_true rfl) ⟨Nat.zero_le _, Nat.zero_le _⟩ ?_
  rintro υ hF
  have hsυ := hF.2.1
  have hgυ := hF.2.2.2
  have hIυ := hsυ.mI hI
  have hS0 := fM_S hF (show zu σ 0 13 0 0 13 = 0 from rfl)
  refine wm_iconst (v := (-1)) 11 rfl dX5_nextGhost_10 (by decide) ?_
  refine wm_istore_n (ls' := [(1, _), (0, _)]) 12 rfl dX5_nextGhost_11 rfl (by decide) rfl ?_
  refine wm_iconst (v := 0) 13 rfl dX5_nextGhost_12 (by decide) ?_
  refine wm_istore_n (ls' := [(2, _), (1, _), (0, _)]) 14 rfl dX5_nextGhost_13 rfl (by decide) rfl ?_
  refine wm_loc (ls2 := [(0, _), (1, _), (2, _)]) [2, 1, 0] rfl ?_
  have lp : ∀ (q9 j : Nat) (bv : Int32), n - j = q9 → j ≤ n → NGq (fun h => mbM σ n (gM σ n p 2) h h) (lsM σ n (gM σ n p 2) sn) d L j bv → Wm (fun _ _ => True) l (rmh 4) RX5 cX5_nextGhost 4 (some .int) D cT ad Lm (zA ad Lm.length sz) (zZ (fun D cT ad L9 sz => zQi D cT ad L9 sz (fun v σ1 => mS 0 σ σ1 ∧ fG σ n p ∧ NGq (fun h => mbM σ n (gM σ n p 2) h h) (lsM σ n (gM σ n p 2) sn) d L n v)) D cT ad Lm sz) [] 14 [(0, .ref 0), (1, .int bv), (2, .int (nI j))] [] υ 0 0 := by
    intro q9
    induction q9 using Nat.strongRecOn with
    | ind q9 ih =>
      intro j bv hmj hjj hinv
      have hd9 := hD.2.2.1
      have hL9 := hD.2.2.2.2.2
      have hle : lsM σ n (gM σ n p 2) sn j ≤ d := lsM_le hD
      refine wm_iload_n 15 rfl dX5_nextGhost_14 rfl rfl ?_
      refine wm_aload_n 16 rfl dX5_nextGhost_15 rfl rfl ?_
      refine wm_getI 19 rfl dX5_nextGhost_16 gf_X5_56_4 rfl rfl ?_
      refine wm_icmp_ge 86 22 rfl (by decide) dX5_nextGhost_19 (fun c19 => ?_) (fun c19 => ?_)
      · rw [hIυ.1] at c19
        have gj : j = n := by have := le_of_nI c19 (by omega) (by omega); omega
        refine wm_iload_n 87 rfl dX5_nextGhost_86 rfl rfl ?_
        exact wm_iret dX5_nextGhost_87 (by first | rfl | exact zp_nar) (by subst gj; exact ⟨hS0, hF.2.2.1, hinv⟩)
      · rw [hIυ.1] at c19
        have gj : j < n := lt_of_nnI c19 (by omega) (by omega)
        refine wm_aload_n 23 rfl dX5_nextGhost_22 rfl rfl ?_
        refine wm_iload_n 24 rfl dX5_nextGhost_23 rfl rfl ?_
        refine wm_iload_n 25 rfl dX5_nextGhost_24 rfl rfl ?_
        refine wm_callVi (ty := .boolean) 28 rfl dX5_nextGhost_25 (k_X5_isOf l hsυ h24 hgυ gj (h := j) gj) ca_X5_isOf cv_X5_isOf rfl aw_22_7 rfl rfl ⟨Nat.le_of_ble_eq_true rfl, Nat.le_of_ble_eq_true rfl⟩ (Nat.le_of_ble_eq_true rfl) ⟨Nat.zero_le _, Nat.zero_le _⟩ ?_
        rintro r9 σ9 ⟨rfl, rfl⟩
        refine wm_if_eq 46 31 rfl (by decide) dX5_nextGhost_28 (fun c28 => ?_) (fun c28 => ?_)
        · refine wm_iconst (v := 0) 47 rfl dX5_nextGhost_46 (by decide) ?_
          refine wm_istore_n (ls' := [(3, _), (0, _), (1, _), (2, _)]) 48 rfl dX5_nextGhost_47 rfl (by decide) rfl ?_
          refine wm_iload_n 49 rfl dX5_nextGhost_48 rfl rfl ?_
          refine wm_aload_n 50 rfl dX5_nextGhost_49 rfl rfl ?_
          refine wm_getI 53 rfl dX5_nextGhost_50 gf_X5_73_4 rfl rfl ?_
          rw [hsυ 0 12 (by decide) (by decide) (fun _ => by decide), hD.2.1]
          refine wm_iconst (v := 1) 54 rfl dX5_nextGhost_53 (by decide) ?_
          refine wm_iadd 55 rfl dX5_nextGhost_54 ?_
          rw [nI_1]
          refine wm_sipush (v := 999) 58 rfl dX5_nextGhost_55 (by decide) ?_
          refine wm_callSi (ty := .boolean) 61 rfl dX5_nextGhost_58 (k_X5_in l _ (nI (d + 1)) 999) ca_X5_in aw_5_3 aw_5_2 ⟨Nat.le_of_ble_eq_true rfl, Nat.le_of_ble_eq_true rfl⟩ (Nat.le_of_ble_eq_true rfl) ⟨Nat.zero_le _, Nat.zero_le _⟩ ?_
          rintro r9 σ9 ⟨rfl, rfl⟩
          refine wm_if_eq 78 64 rfl (by decide) dX5_nextGhost_61 (fun c61 => ?_) (fun c61 => ?_)
          · refine wm_iload_n 79 rfl dX5_nextGhost_78 rfl rfl ?_
            refine wm_istore_n (ls' := [(1, _), (3, _), (0, _), (2, _)]) 80 rfl dX5_nextGhost_79 rfl (by decide) rfl ?_
            refine wm_iinc (ls' := [(2, _), (1, _), (3, _), (0, _)]) 83 rfl dX5_nextGhost_80 rfl (nI_inc _) (by decide) rfl ?_
            refine wm_goto 14 (by decide) dX5_nextGhost_83 ?_
            refine wm_loc (ls2 := [(0, _), (1, _), (2, _)]) [3, 1, 0] rfl ?_
            first
              | exact ih (n - (j + 1)) (by omega) (j + 1) _ rfl (by omega) (NGq_keep hinv (fun q => absurd q (zp_0.mp c28)))
              | exact ih (n - (j + 1)) (by omega) (j + 1) _ rfl (by omega) (NGq_keep hinv (fun _ q => zp_0.mp c61 ((rg_nn (c := 999) (by omega) (by omega) (by omega)).mpr ⟨by omega, q.2⟩)))
              | exact absurd ((rg_nn (a := 0) (c := 999) (by omega) (by omega) (by omega)).mp (zp_n.mp c61)).1 (by omega)
              | exact ih (n - (j + 1)) (by omega) (j + 1) _ rfl (by omega) (NGq_take hinv hm (by have := (rg_nn (c := 999) (by omega) (by omega) (by omega)).mp (zp_n.mp c61); omega) (by have := (rg_nn (c := 999) (by omega) (by omega) (by omega)).mp (zp_n.mp c61); omega) (Or.inl rfl))
              | exact ih (n - (j + 1)) (by omega) (j + 1) _ rfl (by omega) (NGq_keep2 hinv c66 c71 (by omega))
              | exact ih (n - (j + 1)) (by omega) (j + 1) _ rfl (by omega) (NGq_take hinv hm (by have := (rg_nn (c := 999) (by omega) (by omega) (by omega)).mp (zp_n.mp c61); omega) (by have := (rg_nn (c := 999) (by omega) (by omega) (by omega)).mp (zp_n.mp c61); omega) (Or.inr (fa_nlt c71)))
          · refine wm_iload_n 65 rfl dX5_nextGhost_64 rfl rfl ?_
            refine wm_iconst (v := (-1)) 66 rfl dX5_nextGhost_65 (by decide) ?_
            refine wm_icmp_eq 74 69 rfl (by decide) dX5_nextGhost_66 (fun c66 => ?_) (fun c66 => ?_)
            · subst c66
              refine wm_iload_n 75 rfl dX5_nextGhost_74 rfl rfl ?_
              refine wm_goto 79 (by decide) dX5_nextGhost_75 ?_
              refine wm_istore_n (ls' := [(1, _), (3, _), (0, _), (2, _)]) 80 rfl dX5_nextGhost_79 rfl (by decide) rfl ?_
              refine wm_iinc (ls' := [(2, _), (1, _), (3, _), (0, _)]) 83 rfl dX5_nextGhost_80 rfl (nI_inc _) (by decide) rfl ?_
              refine wm_goto 14 (by decide) dX5_nextGhost_83 ?_
              refine wm_loc (ls2 := [(0, _), (1, _), (2, _)]) [3, 1, 0] rfl ?_
              first
                | exact ih (n - (j + 1)) (by omega) (j + 1) _ rfl (by omega) (NGq_keep hinv (fun q => absurd q (zp_0.mp c28)))
                | exact ih (n - (j + 1)) (by omega) (j + 1) _ rfl (by omega) (NGq_keep hinv (fun _ q => zp_0.mp c61 ((rg_nn (c := 999) (by omega) (by omega) (by omega)).mpr ⟨by omega, q.2⟩)))
                | exact absurd ((rg_nn (a := 0) (c := 999) (by omega) (by omega) (by omega)).mp (zp_n.mp c61)).1 (by omega)
                | exact ih (n - (j + 1)) (by omega) (j + 1) _ rfl (by omega) (NGq_take hinv hm (by have := (rg_nn (c := 999) (by omega) (by omega) (by omega)).mp (zp_n.mp c61); omega) (by have := (rg_nn (c := 999) (by omega) (by omega) (by omega)).mp (zp_n.mp c61); omega) (Or.inl rfl))
                | exact ih (n - (j + 1)) (by omega) (j + 1) _ rfl (by omega) (NGq_keep2 hinv c66 c71 (by omega))
                | exact ih (n - (j + 1)) (by omega) (j + 1) _ rfl (by omega) (NGq_take hinv hm (by have := (rg_nn (c := 999) (by omega) (by omega) (by omega)).mp (zp_n.mp c61); omega) (by have := (rg_nn (c := 999) (by omega) (by omega) (by omega)).mp (zp_n.mp c61); omega) (Or.inr (fa_nlt c71)))
            · refine wm_iload_n 70 rfl dX5_nextGhost_69 rfl rfl ?_
              refine wm_iload_n 71 rfl dX5_nextGhost_70 rfl rfl ?_
              refine wm_icmp_ge 78 74 rfl (by decide) dX5_nextGhost_71 (fun c71 => ?_) (fun c71 => ?_)
              · refine wm_iload_n 79 rfl dX5_nextGhost_78 rfl rfl ?_
                refine wm_istore_n (ls' := [(1, _), (3, _), (0, _), (2, _)]) 80 rfl dX5_nextGhost_79 rfl (by decide) rfl ?_
                refine wm_iinc (ls' := [(2, _), (1, _), (3, _), (0, _)]) 83 rfl dX5_nextGhost_80 rfl (nI_inc _) (by decide) rfl ?_
                refine wm_goto 14 (by decide) dX5_nextGhost_83 ?_
                refine wm_loc (ls2 := [(0, _), (1, _), (2, _)]) [3, 1, 0] rfl ?_
                first
                  | exact ih (n - (j + 1)) (by omega) (j + 1) _ rfl (by omega) (NGq_keep hinv (fun q => absurd q (zp_0.mp c28)))
                  | exact ih (n - (j + 1)) (by omega) (j + 1) _ rfl (by omega) (NGq_keep hinv (fun _ q => zp_0.mp c61 ((rg_nn (c := 999) (by omega) (by omega) (by omega)).mpr ⟨by omega, q.2⟩)))
                  | exact absurd ((rg_nn (a := 0) (c := 999) (by omega) (by omega) (by omega)).mp (zp_n.mp c61)).1 (by omega)
                  | exact ih (n - (j + 1)) (by omega) (j + 1) _ rfl (by omega) (NGq_take hinv hm (by have := (rg_nn (c := 999) (by omega) (by omega) (by omega)).mp (zp_n.mp c61); omega) (by have := (rg_nn (c := 999) (by omega) (by omega) (by omega)).mp (zp_n.mp c61); omega) (Or.inl rfl))
                  | exact ih (n - (j + 1)) (by omega) (j + 1) _ rfl (by omega) (NGq_keep2 hinv c66 c71 (by omega))
                  | exact ih (n - (j + 1)) (by omega) (j + 1) _ rfl (by omega) (NGq_take hinv hm (by have := (rg_nn (c := 999) (by omega) (by omega) (by omega)).mp (zp_n.mp c61); omega) (by have := (rg_nn (c := 999) (by omega) (by omega) (by omega)).mp (zp_n.mp c61); omega) (Or.inr (fa_nlt c71)))
              · refine wm_iload_n 75 rfl dX5_nextGhost_74 rfl rfl ?_
                refine wm_goto 79 (by decide) dX5_nextGhost_75 ?_
                refine wm_istore_n (ls' := [(1, _), (3, _), (0, _), (2, _)]) 80 rfl dX5_nextGhost_79 rfl (by decide) rfl ?_
                refine wm_iinc (ls' := [(2, _), (1, _), (3, _), (0, _)]) 83 rfl dX5_nextGhost_80 rfl (nI_inc _) (by decide) rfl ?_
                refine wm_goto 14 (by decide) dX5_nextGhost_83 ?_
                refine wm_loc (ls2 := [(0, _), (1, _), (2, _)]) [3, 1, 0] rfl ?_
                first
                  | exact ih (n - (j + 1)) (by omega) (j + 1) _ rfl (by omega) (NGq_keep hinv (fun q => absurd q (zp_0.mp c28)))
                  | exact ih (n - (j + 1)) (by omega) (j + 1) _ rfl (by omega) (NGq_keep hinv (fun _ q => zp_0.mp c61 ((rg_nn (c := 999) (by omega) (by omega) (by omega)).mpr ⟨by omega, q.2⟩)))
                  | exact absurd ((rg_nn (a := 0) (c := 999) (by omega) (by omega) (by omega)).mp (zp_n.mp c61)).1 (by omega)
                  | exact ih (n - (j + 1)) (by omega) (j + 1) _ rfl (by omega) (NGq_take hinv hm (by have := (rg_nn (c := 999) (by omega) (by omega) (by omega)).mp (zp_n.mp c61); omega) (by have := (rg_nn (c := 999) (by omega) (by omega) (by omega)).mp (zp_n.mp c61); omega) (Or.inl rfl))
                  | exact ih (n - (j + 1)) (by omega) (j + 1) _ rfl (by omega) (NGq_keep2 hinv c66 c71 (by omega))
                  | exact ih (n - (j + 1)) (by omega) (j + 1) _ rfl (by omega) (NGq_take hinv hm (by have := (rg_nn (c := 999) (by omega) (by omega) (by omega)).mp (zp_n.mp c61); omega) (by have := (rg_nn (c := 999) (by omega) (by omega) (by omega)).mp (zp_n.mp c61); omega) (Or.inr (fa_nlt c71)))
        · have hm := zp_n.mp c28
          refine wm_aload_n 32 rfl dX5_nextGhost_31 rfl rfl ?_
          refine wm_iload_n 33 rfl dX5_nextGhost_32 rfl rfl ?_
          refine wm_callVi (ty := .int) 36 rfl dX5_nextGhost_33 (k_X5_lastOf l hsυ hI hgυ hD (h := j) gj ⟨j, gj, hm⟩) ca_X5_lastOf cv_X5_lastOf rfl aw_32_3 rfl rfl ⟨Nat.le_of_ble_eq_true rfl, Nat.le_of_ble_eq_true rfl⟩ (Nat.le_of_ble_eq_true rfl) ⟨Nat.zero_le _, Nat.zero_le _⟩ ?_
          rintro r9 σ9 ⟨rfl, rfl⟩
          refine wm_aload_n 37 rfl dX5_nextGhost_36 rfl rfl ?_
          refine wm_getI 40 rfl dX5_nextGhost_37 gf_X5_37_4 rfl rfl ?_
          rw [hsυ 0 11 (by decide) (by decide) (fun _ => by decide), hD.2.2.2.1]
          refine wm_iadd 41 rfl dX5_nextGhost_40 ?_
          rw [nI_add]
          refine wm_iconst (v := 1) 42 rfl dX5_nextGhost_41 (by decide) ?_
          refine wm_iadd 43 rfl dX5_nextGhost_42 ?_
          rw [nI_1]
          refine wm_goto 47 (by decide) dX5_nextGhost_43 ?_
          refine wm_istore_n (ls' := [(3, _), (0, _), (1, _), (2, _)]) 48 rfl dX5_nextGhost_47 rfl (by decide) rfl ?_
          refine wm_iload_n 49 rfl dX5_nextGhost_48 rfl rfl ?_
          refine wm_aload_n 50 rfl dX5_nextGhost_49 rfl rfl ?_
          refine wm_getI 53 rfl dX5_nextGhost_50 gf_X5_73_4 rfl rfl ?_
          rw [hsυ 0 12 (by decide) (by decide) (fun _ => by decide), hD.2.1]
          refine wm_iconst (v := 1) 54 rfl dX5_nextGhost_53 (by decide) ?_
          refine wm_iadd 55 rfl dX5_nextGhost_54 ?_
          rw [nI_1]
          refine wm_sipush (v := 999) 58 rfl dX5_nextGhost_55 (by decide) ?_
          refine wm_callSi (ty := .boolean) 61 rfl dX5_nextGhost_58 (k_X5_in l _ (nI (d + 1)) 999) ca_X5_in aw_5_3 aw_5_2 ⟨Nat.le_of_ble_eq_true rfl, Nat.le_of_ble_eq_true rfl⟩ (Nat.le_of_ble_eq_true rfl) ⟨Nat.zero_le _, Nat.zero_le _⟩ ?_
          rintro r9 σ9 ⟨rfl, rfl⟩
          refine wm_if_eq 78 64 rfl (by decide) dX5_nextGhost_61 (fun c61 => ?_) (fun c61 => ?_)
          · refine wm_iload_n 79 rfl dX5_nextGhost_78 rfl rfl ?_
            refine wm_istore_n (ls' := [(1, _), (3, _), (0, _), (2, _)]) 80 rfl dX5_nextGhost_79 rfl (by decide) rfl ?_
            refine wm_iinc (ls' := [(2, _), (1, _), (3, _), (0, _)]) 83 rfl dX5_nextGhost_80 rfl (nI_inc _) (by decide) rfl ?_
            refine wm_goto 14 (by decide) dX5_nextGhost_83 ?_
            refine wm_loc (ls2 := [(0, _), (1, _), (2, _)]) [3, 1, 0] rfl ?_
            first
              | exact ih (n - (j + 1)) (by omega) (j + 1) _ rfl (by omega) (NGq_keep hinv (fun q => absurd q (zp_0.mp c28)))
              | exact ih (n - (j + 1)) (by omega) (j + 1) _ rfl (by omega) (NGq_keep hinv (fun _ q => zp_0.mp c61 ((rg_nn (c := 999) (by omega) (by omega) (by omega)).mpr ⟨by omega, q.2⟩)))
              | exact absurd ((rg_nn (a := 0) (c := 999) (by omega) (by omega) (by omega)).mp (zp_n.mp c61)).1 (by omega)
              | exact ih (n - (j + 1)) (by omega) (j + 1) _ rfl (by omega) (NGq_take hinv hm (by have := (rg_nn (c := 999) (by omega) (by omega) (by omega)).mp (zp_n.mp c61); omega) (by have := (rg_nn (c := 999) (by omega) (by omega) (by omega)).mp (zp_n.mp c61); omega) (Or.inl rfl))
              | exact ih (n - (j + 1)) (by omega) (j + 1) _ rfl (by omega) (NGq_keep2 hinv c66 c71 (by omega))
              | exact ih (n - (j + 1)) (by omega) (j + 1) _ rfl (by omega) (NGq_take hinv hm (by have := (rg_nn (c := 999) (by omega) (by omega) (by omega)).mp (zp_n.mp c61); omega) (by have := (rg_nn (c := 999) (by omega) (by omega) (by omega)).mp (zp_n.mp c61); omega) (Or.inr (fa_nlt c71)))
          · refine wm_iload_n 65 rfl dX5_nextGhost_64 rfl rfl ?_
            refine wm_iconst (v := (-1)) 66 rfl dX5_nextGhost_65 (by decide) ?_
            refine wm_icmp_eq 74 69 rfl (by decide) dX5_nextGhost_66 (fun c66 => ?_) (fun c66 => ?_)
            · subst c66
              refine wm_iload_n 75 rfl dX5_nextGhost_74 rfl rfl ?_
              refine wm_goto 79 (by decide) dX5_nextGhost_75 ?_
              refine wm_istore_n (ls' := [(1, _), (3, _), (0, _), (2, _)]) 80 rfl dX5_nextGhost_79 rfl (by decide) rfl ?_
              refine wm_iinc (ls' := [(2, _), (1, _), (3, _), (0, _)]) 83 rfl dX5_nextGhost_80 rfl (nI_inc _) (by decide) rfl ?_
              refine wm_goto 14 (by decide) dX5_nextGhost_83 ?_
              refine wm_loc (ls2 := [(0, _), (1, _), (2, _)]) [3, 1, 0] rfl ?_
              first
                | exact ih (n - (j + 1)) (by omega) (j + 1) _ rfl (by omega) (NGq_keep hinv (fun q => absurd q (zp_0.mp c28)))
                | exact ih (n - (j + 1)) (by omega) (j + 1) _ rfl (by omega) (NGq_keep hinv (fun _ q => zp_0.mp c61 ((rg_nn (c := 999) (by omega) (by omega) (by omega)).mpr ⟨by omega, q.2⟩)))
                | exact absurd ((rg_nn (a := 0) (c := 999) (by omega) (by omega) (by omega)).mp (zp_n.mp c61)).1 (by omega)
                | exact ih (n - (j + 1)) (by omega) (j + 1) _ rfl (by omega) (NGq_take hinv hm (by have := (rg_nn (c := 999) (by omega) (by omega) (by omega)).mp (zp_n.mp c61); omega) (by have := (rg_nn (c := 999) (by omega) (by omega) (by omega)).mp (zp_n.mp c61); omega) (Or.inl rfl))
                | exact ih (n - (j + 1)) (by omega) (j + 1) _ rfl (by omega) (NGq_keep2 hinv c66 c71 (by omega))
                | exact ih (n - (j + 1)) (by omega) (j + 1) _ rfl (by omega) (NGq_take hinv hm (by have := (rg_nn (c := 999) (by omega) (by omega) (by omega)).mp (zp_n.mp c61); omega) (by have := (rg_nn (c := 999) (by omega) (by omega) (by omega)).mp (zp_n.mp c61); omega) (Or.inr (fa_nlt c71)))
            · refine wm_iload_n 70 rfl dX5_nextGhost_69 rfl rfl ?_
              refine wm_iload_n 71 rfl dX5_nextGhost_70 rfl rfl ?_
              refine wm_icmp_ge 78 74 rfl (by decide) dX5_nextGhost_71 (fun c71 => ?_) (fun c71 => ?_)
              · refine wm_iload_n 79 rfl dX5_nextGhost_78 rfl rfl ?_
                refine wm_istore_n (ls' := [(1, _), (3, _), (0, _), (2, _)]) 80 rfl dX5_nextGhost_79 rfl (by decide) rfl ?_
                refine wm_iinc (ls' := [(2, _), (1, _), (3, _), (0, _)]) 83 rfl dX5_nextGhost_80 rfl (nI_inc _) (by decide) rfl ?_
                refine wm_goto 14 (by decide) dX5_nextGhost_83 ?_
                refine wm_loc (ls2 := [(0, _), (1, _), (2, _)]) [3, 1, 0] rfl ?_
                first
                  | exact ih (n - (j + 1)) (by omega) (j + 1) _ rfl (by omega) (NGq_keep hinv (fun q => absurd q (zp_0.mp c28)))
                  | exact ih (n - (j + 1)) (by omega) (j + 1) _ rfl (by omega) (NGq_keep hinv (fun _ q => zp_0.mp c61 ((rg_nn (c := 999) (by omega) (by omega) (by omega)).mpr ⟨by omega, q.2⟩)))
                  | exact absurd ((rg_nn (a := 0) (c := 999) (by omega) (by omega) (by omega)).mp (zp_n.mp c61)).1 (by omega)
                  | exact ih (n - (j + 1)) (by omega) (j + 1) _ rfl (by omega) (NGq_take hinv hm (by have := (rg_nn (c := 999) (by omega) (by omega) (by omega)).mp (zp_n.mp c61); omega) (by have := (rg_nn (c := 999) (by omega) (by omega) (by omega)).mp (zp_n.mp c61); omega) (Or.inl rfl))
                  | exact ih (n - (j + 1)) (by omega) (j + 1) _ rfl (by omega) (NGq_keep2 hinv c66 c71 (by omega))
                  | exact ih (n - (j + 1)) (by omega) (j + 1) _ rfl (by omega) (NGq_take hinv hm (by have := (rg_nn (c := 999) (by omega) (by omega) (by omega)).mp (zp_n.mp c61); omega) (by have := (rg_nn (c := 999) (by omega) (by omega) (by omega)).mp (zp_n.mp c61); omega) (Or.inr (fa_nlt c71)))
              · refine wm_iload_n 75 rfl dX5_nextGhost_74 rfl rfl ?_
                refine wm_goto 79 (by decide) dX5_nextGhost_75 ?_
                refine wm_istore_n (ls' := [(1, _), (3, _), (0, _), (2, _)]) 80 rfl dX5_nextGhost_79 rfl (by decide) rfl ?_
                refine wm_iinc (ls' := [(2, _), (1, _), (3, _), (0, _)]) 83 rfl dX5_nextGhost_80 rfl (nI_inc _) (by decide) rfl ?_
                refine wm_goto 14 (by decide) dX5_nextGhost_83 ?_
                refine wm_loc (ls2 := [(0, _), (1, _), (2, _)]) [3, 1, 0] rfl ?_
                first
                  | exact ih (n - (j + 1)) (by omega) (j + 1) _ rfl (by omega) (NGq_keep hinv (fun q => absurd q (zp_0.mp c28)))
                  | exact ih (n - (j + 1)) (by omega) (j + 1) _ rfl (by omega) (NGq_keep hinv (fun _ q => zp_0.mp c61 ((rg_nn (c := 999) (by omega) (by omega) (by omega)).mpr ⟨by omega, q.2⟩)))
                  | exact absurd ((rg_nn (a := 0) (c := 999) (by omega) (by omega) (by omega)).mp (zp_n.mp c61)).1 (by omega)
                  | exact ih (n - (j + 1)) (by omega) (j + 1) _ rfl (by omega) (NGq_take hinv hm (by have := (rg_nn (c := 999) (by omega) (by omega) (by omega)).mp (zp_n.mp c61); omega) (by have := (rg_nn (c := 999) (by omega) (by omega) (by omega)).mp (zp_n.mp c61); omega) (Or.inl rfl))
                  | exact ih (n - (j + 1)) (by omega) (j + 1) _ rfl (by omega) (NGq_keep2 hinv c66 c71 (by omega))
                  | exact ih (n - (j + 1)) (by omega) (j + 1) _ rfl (by omega) (NGq_take hinv hm (by have := (rg_nn (c := 999) (by omega) (by omega) (by omega)).mp (zp_n.mp c61); omega) (by have := (rg_nn (c := 999) (by omega) (by omega) (by omega)).mp (zp_n.mp c61); omega) (Or.inr (fa_nlt c71)))
  exact lp n 0 (-1) rfl (Nat.zero_le _) (Or.inl ⟨rfl, fun h hh => absurd hh (Nat.not_lt_zero h)⟩)
theorem k_X5_nextGhostByDays (l : Launch) {σ : Sg} {n p : Nat} (hI : mI σ n) (hP : mP σ p) (hQ : mQ σ n p) {sn : Nat → Nat} {d L : Nat} (hD : cDM σ n sn d L) (h16 : σ 0 16 = -1) : cMi l yX5_nextGhostByDays cX5_nextGhostByDays 1 .int 5 Lm [.ref 0] σ (fun v σ1 => mS 0 σ σ1 ∧ fG σ n p ∧ NGq (fun h => mbM σ n (gM σ n p 2) h h) (lsM σ n (gM σ n p 2) sn) d L n v) := by
  refine zMet_of (by decide +kernel) (Nat.le_of_ble_eq_true rfl) (fun D cT ad sz => ?_)
  show Wm (fun _ _ => True) l (rmh 5) RX5 cX5_nextGhostByDays 1 (some .int) D cT ad Lm (zA ad Lm.length sz) (zZ (fun D cT ad L9 sz => zQi D cT ad L9 sz (fun v σ1 => mS 0 σ σ1 ∧ fG σ n p ∧ NGq (fun h => mbM σ n (gM σ n p 2) h h) (lsM σ n (gM σ n p 2) sn) d L n v)) D cT ad Lm sz) [] 0 (lv_args 0 [.ref 0]) [] σ 0 0
  refine wm_aload_n 1 rfl dX5_nextGhostByDays_0 rfl rfl ?_
  refine wm_callVi (ty := .int) 4 rfl dX5_nextGhostByDays_1 (k_X5_nextGhost l hI hP hQ hD h16) ca_X5_nextGhost cv_X5_nextGhost rfl aw_33_13 rfl rfl ⟨Nat.le_of_ble_eq_true rfl, Nat.le_of_ble_eq_true rfl⟩ (Nat.le_of_ble_eq_true rfl) ⟨Nat.zero_le _, Nat.zero_le _⟩ ?_
  rintro r9 σ9 hr9
  exact wm_iret dX5_nextGhostByDays_4 (by first | rfl | exact zp_nar) hr9
theorem k_X5_mark (l : Launch) {σ : Sg} {n p : Nat} (hI : mI σ n) (hP : mP σ p) (hQ : mQ σ n p) : cMl l yX5_mark cX5_mark 9 4 Lm [.ref 0] σ (fun v σ1 => mS 0 σ σ1 ∧ fG σ n p ∧ v = lN (sq (fun h => cq (mbM σ n (gM σ n p 2) h) n ≠ 0) (fun h => cq (mbM σ n (gM σ n p 2) h) n * cq (mbM σ n (gM σ n p 2) h) n * sq (mbM σ n (gM σ n p 2) h) (fun r => r) n + 1) n)) := by
  have h24 := hI.2
  have h12 := hP.2
  refine zMet_of (by decide +kernel) (Nat.le_of_ble_eq_true rfl) (fun D cT ad sz => ?_)
  show Wm (fun _ _ => True) l (rmh 4) RX5 cX5_mark 9 (some .long) D cT ad Lm (zA ad Lm.length sz) (zZ (fun D cT ad L9 sz => zQl D cT ad L9 sz (fun v σ1 => mS 0 σ σ1 ∧ fG σ n p ∧ v = lN (sq (fun h => cq (mbM σ n (gM σ n p 2) h) n ≠ 0) (fun h => cq (mbM σ n (gM σ n p 2) h) n * cq (mbM σ n (gM σ n p 2) h) n * sq (mbM σ n (gM σ n p 2) h) (fun r => r) n + 1) n))) D cT ad Lm sz) [] 0 (lv_args 0 [.ref 0]) [] σ 0 0
  refine wm_aload_n 1 rfl dX5_mark_0 rfl rfl ?_
  refine wm_iconst (v := 0) 2 rfl dX5_mark_1 (by decide) ?_
  refine wm_putI 5 rfl dX5_mark_2 pf_X5_53_4 rfl rfl ?_
  refine wm_aload_n 6 rfl dX5_mark_5 rfl rfl ?_
  refine wm_iconst (v := 2) 7 rfl dX5_mark_6 (by decide) ?_
  refine wm_callVv 10 rfl dX5_mark_7 (k_finds2 l (stM_thr σ 0) hI hP hQ) ca_X5_finds cv_X5_finds rfl aw_18_23 rfl rfl ⟨Nat.le_of_ble_eq_true rfl, Nat.le_of_ble_eq_true rfl⟩ (Nat.le_of_ble_eq_true rfl) ⟨Nat.zero_le _, Nat.zero_le _⟩ ?_
  rintro υ hF
  have hsυ := hF.2.1
  have hgυ := hF.2.2.2
  have hIυ := hsυ.mI hI
  have hS0 := fM_S hF (show zu σ 0 13 0 0 13 = 0 from rfl)
  refine wm_lconst (v := 0) 11 rfl dX5_mark_10 (by decide) ?_
  refine wm_lstore_n (ls' := [(1, _), (0, _)]) 12 rfl dX5_mark_11 rfl (by decide) rfl ?_
  refine wm_iconst (v := 0) 13 rfl dX5_mark_12 (by decide) ?_
  refine wm_istore_n (ls' := [(3, _), (1, _), (0, _)]) 14 rfl dX5_mark_13 rfl (by decide) rfl ?_
  refine wm_loc (ls2 := [(0, _), (1, _), (3, _)]) [2, 1, 0] rfl ?_
  have lpo : ∀ (q9 i : Nat), n - i = q9 → i ≤ n → True → Wm (fun _ _ => True) l (rmh 4) RX5 cX5_mark 9 (some .long) D cT ad Lm (zA ad Lm.length sz) (zZ (fun D cT ad L9 sz => zQl D cT ad L9 sz (fun v σ1 => mS 0 σ σ1 ∧ fG σ n p ∧ v = lN (sq (fun h => cq (mbM σ n (gM σ n p 2) h) n ≠ 0) (fun h => cq (mbM σ n (gM σ n p 2) h) n * cq (mbM σ n (gM σ n p 2) h) n * sq (mbM σ n (gM σ n p 2) h) (fun r => r) n + 1) n))) D cT ad Lm sz) [] 14 [(0, .ref 0), (1, .long (lN (sq (fun h => cq (mbM σ n (gM σ n p 2) h) n ≠ 0) (fun h => cq (mbM σ n (gM σ n p 2) h) n * cq (mbM σ n (gM σ n p 2) h) n * sq (mbM σ n (gM σ n p 2) h) (fun r => r) n + 1) i))), (3, .int (nI i))] [] υ 0 0 := by
    intro q9
    induction q9 using Nat.strongRecOn with
    | ind q9 ih =>
      intro i  hmi hji hinv0
      have lpi : ∀ (q9 j : Nat), n - j = q9 → j ≤ n → i < n → Wm (fun _ _ => True) l (rmh 4) RX5 cX5_mark 9 (some .long) D cT ad Lm (zA ad Lm.length sz) (zZ (fun D cT ad L9 sz => zQl D cT ad L9 sz (fun v σ1 => mS 0 σ σ1 ∧ fG σ n p ∧ v = lN (sq (fun h => cq (mbM σ n (gM σ n p 2) h) n ≠ 0) (fun h => cq (mbM σ n (gM σ n p 2) h) n * cq (mbM σ n (gM σ n p 2) h) n * sq (mbM σ n (gM σ n p 2) h) (fun r => r) n + 1) n))) D cT ad Lm sz) [] 31 [(0, .ref 0), (1, .long (lN (sq (fun h => cq (mbM σ n (gM σ n p 2) h) n ≠ 0) (fun h => cq (mbM σ n (gM σ n p 2) h) n * cq (mbM σ n (gM σ n p 2) h) n * sq (mbM σ n (gM σ n p 2) h) (fun r => r) n + 1) i))), (3, .int (nI i)), (4, .long (lN (cq (mbM σ n (gM σ n p 2) i) j))), (6, .long (lN (sq (mbM σ n (gM σ n p 2) i) (fun r => r) j))), (8, .int (nI j))] [] υ 0 0 := by
        intro q9
        induction q9 using Nat.strongRecOn with
        | ind q9 ih2 =>
          intro j  hmj hjj gi
          refine wm_iload 33 rfl dX5_mark_31 rfl ?_
          refine wm_aload_n 34 rfl dX5_mark_33 rfl rfl ?_
          refine wm_getI 37 rfl dX5_mark_34 gf_X5_56_4 rfl rfl ?_
          refine wm_icmp_ge 88 40 rfl (by decide) dX5_mark_37 (fun c37 => ?_) (fun c37 => ?_)
          · rw [hIυ.1] at c37
            have gj : j = n := by have := le_of_nI c37 (by omega) (by omega); omega
            refine wm_lload_n 89 rfl dX5_mark_88 rfl rfl ?_
            refine wm_lload 91 rfl dX5_mark_89 rfl ?_
            refine wm_lconst (v := 0) 92 rfl dX5_mark_91 (by decide) ?_
            refine wm_lcmp 93 rfl dX5_mark_92 ?_
            refine wm_if_le 109 96 rfl (by decide) dX5_mark_93 (fun c93 => ?_) (fun c93 => ?_)
            · rw [gj] at c93 ⊢
              have hc := cq_le (mbM σ n (gM σ n p 2) i) n
              have q93 : ¬ (cq (mbM σ n (gM σ n p 2) i) n ≠ 0) := fun q => q (by have := (lN_le (b := 0) (by omega) (by omega)).mp ((lg_cmp_le _ _).mp c93); omega)
              refine wm_lconst (v := 0) 110 rfl dX5_mark_109 (by decide) ?_
              refine wm_ladd 111 rfl dX5_mark_110 ?_
              refine wm_lstore_n (ls' := [(1, _), (0, _), (3, _), (4, _), (6, _), (8, _)]) 112 rfl dX5_mark_111 rfl (by decide) rfl ?_
              refine wm_iinc (ls' := [(3, _), (1, _), (0, _), (4, _), (6, _), (8, _)]) 115 rfl dX5_mark_112 rfl (nI_inc _) (by decide) rfl ?_
              refine wm_goto 14 (by decide) dX5_mark_115 ?_
              refine wm_loc (ls2 := [(0, _), (1, _), (3, _)]) [2, 1, 0] rfl ?_
              first
                | (rw [show lN (sq (fun h => cq (mbM σ n (gM σ n p 2) h) n ≠ 0) (fun h => cq (mbM σ n (gM σ n p 2) h) n * cq (mbM σ n (gM σ n p 2) h) n * sq (mbM σ n (gM σ n p 2) h) (fun r => r) n + 1) i) + 0 = lN (sq (fun h => cq (mbM σ n (gM σ n p 2) h) n ≠ 0) (fun h => cq (mbM σ n (gM σ n p 2) h) n * cq (mbM σ n (gM σ n p 2) h) n * sq (mbM σ n (gM σ n p 2) h) (fun r => r) n + 1) (i + 1)) by rw [sq_f (P := (fun h => cq (mbM σ n (gM σ n p 2) h) n ≠ 0)) q93]; exact Int64.add_zero _]
                   exact ih (n - (i + 1)) (by omega) (i + 1) rfl (by omega) trivial)
                | (rw [lN_mul, lN_mul, lN_1, lN_add, show sq (fun h => cq (mbM σ n (gM σ n p 2) h) n ≠ 0) (fun h => cq (mbM σ n (gM σ n p 2) h) n * cq (mbM σ n (gM σ n p 2) h) n * sq (mbM σ n (gM σ n p 2) h) (fun r => r) n + 1) i + (cq (mbM σ n (gM σ n p 2) i) n * cq (mbM σ n (gM σ n p 2) i) n * sq (mbM σ n (gM σ n p 2) i) (fun r => r) n + 1) = sq (fun h => cq (mbM σ n (gM σ n p 2) h) n ≠ 0) (fun h => cq (mbM σ n (gM σ n p 2) h) n * cq (mbM σ n (gM σ n p 2) h) n * sq (mbM σ n (gM σ n p 2) h) (fun r => r) n + 1) (i + 1) from (sq_t (P := (fun h => cq (mbM σ n (gM σ n p 2) h) n ≠ 0)) (f := (fun h => cq (mbM σ n (gM σ n p 2) h) n * cq (mbM σ n (gM σ n p 2) h) n * sq (mbM σ n (gM σ n p 2) h) (fun r => r) n + 1)) q93).symm]
                   exact ih (n - (i + 1)) (by omega) (i + 1) rfl (by omega) trivial)
            · rw [gj] at c93 ⊢
              have hc := cq_le (mbM σ n (gM σ n p 2) i) n
              have q93 : cq (mbM σ n (gM σ n p 2) i) n ≠ 0 := fun q => c93 ((lg_cmp_le _ _).mpr (by rw [q]; exact (lN_le (b := 0) (by omega) (by omega)).mpr (Nat.le_refl 0)))
              refine wm_lload 98 rfl dX5_mark_96 rfl ?_
              refine wm_lload 100 rfl dX5_mark_98 rfl ?_
              refine wm_lmul 101 rfl dX5_mark_100 ?_
              refine wm_lload 103 rfl dX5_mark_101 rfl ?_
              refine wm_lmul 104 rfl dX5_mark_103 ?_
              refine wm_lconst (v := 1) 105 rfl dX5_mark_104 (by decide) ?_
              refine wm_ladd 106 rfl dX5_mark_105 ?_
              refine wm_goto 110 (by decide) dX5_mark_106 ?_
              refine wm_ladd 111 rfl dX5_mark_110 ?_
              refine wm_lstore_n (ls' := [(1, _), (0, _), (3, _), (4, _), (6, _), (8, _)]) 112 rfl dX5_mark_111 rfl (by decide) rfl ?_
              refine wm_iinc (ls' := [(3, _), (1, _), (0, _), (4, _), (6, _), (8, _)]) 115 rfl dX5_mark_112 rfl (nI_inc _) (by decide) rfl ?_
              refine wm_goto 14 (by decide) dX5_mark_115 ?_
              refine wm_loc (ls2 := [(0, _), (1, _), (3, _)]) [2, 1, 0] rfl ?_
              first
                | (rw [show lN (sq (fun h => cq (mbM σ n (gM σ n p 2) h) n ≠ 0) (fun h => cq (mbM σ n (gM σ n p 2) h) n * cq (mbM σ n (gM σ n p 2) h) n * sq (mbM σ n (gM σ n p 2) h) (fun r => r) n + 1) i) + 0 = lN (sq (fun h => cq (mbM σ n (gM σ n p 2) h) n ≠ 0) (fun h => cq (mbM σ n (gM σ n p 2) h) n * cq (mbM σ n (gM σ n p 2) h) n * sq (mbM σ n (gM σ n p 2) h) (fun r => r) n + 1) (i + 1)) by rw [sq_f (P := (fun h => cq (mbM σ n (gM σ n p 2) h) n ≠ 0)) q93]; exact Int64.add_zero _]
                   exact ih (n - (i + 1)) (by omega) (i + 1) rfl (by omega) trivial)
                | (rw [lN_mul, lN_mul, lN_1, lN_add, show sq (fun h => cq (mbM σ n (gM σ n p 2) h) n ≠ 0) (fun h => cq (mbM σ n (gM σ n p 2) h) n * cq (mbM σ n (gM σ n p 2) h) n * sq (mbM σ n (gM σ n p 2) h) (fun r => r) n + 1) i + (cq (mbM σ n (gM σ n p 2) i) n * cq (mbM σ n (gM σ n p 2) i) n * sq (mbM σ n (gM σ n p 2) i) (fun r => r) n + 1) = sq (fun h => cq (mbM σ n (gM σ n p 2) h) n ≠ 0) (fun h => cq (mbM σ n (gM σ n p 2) h) n * cq (mbM σ n (gM σ n p 2) h) n * sq (mbM σ n (gM σ n p 2) h) (fun r => r) n + 1) (i + 1) from (sq_t (P := (fun h => cq (mbM σ n (gM σ n p 2) h) n ≠ 0)) (f := (fun h => cq (mbM σ n (gM σ n p 2) h) n * cq (mbM σ n (gM σ n p 2) h) n * sq (mbM σ n (gM σ n p 2) h) (fun r => r) n + 1)) q93).symm]
                   exact ih (n - (i + 1)) (by omega) (i + 1) rfl (by omega) trivial)
          · rw [hIυ.1] at c37
            have gj : j < n := lt_of_nnI c37 (by omega) (by omega)
            refine wm_lload 42 rfl dX5_mark_40 rfl ?_
            refine wm_aload_n 43 rfl dX5_mark_42 rfl rfl ?_
            refine wm_iload 45 rfl dX5_mark_43 rfl ?_
            refine wm_iload_n 46 rfl dX5_mark_45 rfl rfl ?_
            refine wm_callVi (ty := .boolean) 49 rfl dX5_mark_46 (k_X5_isOf l hsυ h24 hgυ gj (h := i) gi) ca_X5_isOf cv_X5_isOf rfl aw_22_7 rfl rfl ⟨Nat.le_of_ble_eq_true rfl, Nat.le_of_ble_eq_true rfl⟩ (Nat.le_of_ble_eq_true rfl) ⟨Nat.zero_le _, Nat.zero_le _⟩ ?_
            rintro r9 σ9 ⟨rfl, rfl⟩
            refine wm_if_eq 56 52 rfl (by decide) dX5_mark_49 (fun c49 => ?_) (fun c49 => ?_)
            · have c49n := zp_0.mp c49
              refine wm_lconst (v := 0) 57 rfl dX5_mark_56 (by decide) ?_
              refine wm_ladd 58 rfl dX5_mark_57 ?_
              first
                | rw [show lN (cq (mbM σ n (gM σ n p 2) i) j) + 0 = lN (cq (mbM σ n (gM σ n p 2) i) (j + 1)) by rw [cq_f (P := (mbM σ n (gM σ n p 2) i)) c49n]; exact Int64.add_zero _]
                | rw [lN_1, ← cq_t (P := (mbM σ n (gM σ n p 2) i)) c49y]
              refine wm_lstore (ls' := [(4, _), (0, _), (1, _), (3, _), (6, _), (8, _)]) 60 rfl dX5_mark_58 (by decide) rfl ?_
              refine wm_lload 62 rfl dX5_mark_60 rfl ?_
              refine wm_aload_n 63 rfl dX5_mark_62 rfl rfl ?_
              refine wm_iload 65 rfl dX5_mark_63 rfl ?_
              refine wm_iload_n 66 rfl dX5_mark_65 rfl rfl ?_
              refine wm_callVi (ty := .boolean) 69 rfl dX5_mark_66 (k_X5_isOf l hsυ h24 hgυ gj (h := i) gi) ca_X5_isOf cv_X5_isOf rfl aw_22_7 rfl rfl ⟨Nat.le_of_ble_eq_true rfl, Nat.le_of_ble_eq_true rfl⟩ (Nat.le_of_ble_eq_true rfl) ⟨Nat.zero_le _, Nat.zero_le _⟩ ?_
              rintro r9 σ9 ⟨rfl, rfl⟩
              refine wm_if_eq 78 72 rfl (by decide) dX5_mark_69 (fun c69 => ?_) (fun c69 => ?_)
              · refine wm_lconst (v := 0) 79 rfl dX5_mark_78 (by decide) ?_
                refine wm_ladd 80 rfl dX5_mark_79 ?_
                first
                  | rw [show lN (sq (mbM σ n (gM σ n p 2) i) (fun r => r) j) + 0 = lN (sq (mbM σ n (gM σ n p 2) i) (fun r => r) (j + 1)) by rw [sq_f (P := (mbM σ n (gM σ n p 2) i)) c49n]; exact Int64.add_zero _]
                  | rw [lN_add, ← sq_t (P := (mbM σ n (gM σ n p 2) i)) (f := fun r => r) c49y]
                refine wm_lstore (ls' := [(6, _), (4, _), (0, _), (1, _), (3, _), (8, _)]) 82 rfl dX5_mark_80 (by decide) rfl ?_
                refine wm_iinc (ls' := [(8, _), (6, _), (4, _), (0, _), (1, _), (3, _)]) 85 rfl dX5_mark_82 rfl (nI_inc _) (by decide) rfl ?_
                refine wm_goto 31 (by decide) dX5_mark_85 ?_
                refine wm_loc (ls2 := [(0, _), (1, _), (3, _), (4, _), (6, _), (8, _)]) [3, 4, 5, 2, 1, 0] rfl ?_
                exact ih2 (n - (j + 1)) (by omega) (j + 1) rfl (by omega) gi
              · exact absurd (zp_n.mp c69) c49n
            · have c49y := zp_n.mp c49
              refine wm_lconst (v := 1) 53 rfl dX5_mark_52 (by decide) ?_
              refine wm_goto 57 (by decide) dX5_mark_53 ?_
              refine wm_ladd 58 rfl dX5_mark_57 ?_
              first
                | rw [show lN (cq (mbM σ n (gM σ n p 2) i) j) + 0 = lN (cq (mbM σ n (gM σ n p 2) i) (j + 1)) by rw [cq_f (P := (mbM σ n (gM σ n p 2) i)) c49n]; exact Int64.add_zero _]
                | rw [lN_1, ← cq_t (P := (mbM σ n (gM σ n p 2) i)) c49y]
              refine wm_lstore (ls' := [(4, _), (0, _), (1, _), (3, _), (6, _), (8, _)]) 60 rfl dX5_mark_58 (by decide) rfl ?_
              refine wm_lload 62 rfl dX5_mark_60 rfl ?_
              refine wm_aload_n 63 rfl dX5_mark_62 rfl rfl ?_
              refine wm_iload 65 rfl dX5_mark_63 rfl ?_
              refine wm_iload_n 66 rfl dX5_mark_65 rfl rfl ?_
              refine wm_callVi (ty := .boolean) 69 rfl dX5_mark_66 (k_X5_isOf l hsυ h24 hgυ gj (h := i) gi) ca_X5_isOf cv_X5_isOf rfl aw_22_7 rfl rfl ⟨Nat.le_of_ble_eq_true rfl, Nat.le_of_ble_eq_true rfl⟩ (Nat.le_of_ble_eq_true rfl) ⟨Nat.zero_le _, Nat.zero_le _⟩ ?_
              rintro r9 σ9 ⟨rfl, rfl⟩
              refine wm_if_eq 78 72 rfl (by decide) dX5_mark_69 (fun c69 => ?_) (fun c69 => ?_)
              · exact absurd c49y (zp_0.mp c69)
              · refine wm_iload 74 rfl dX5_mark_72 rfl ?_
                refine wm_i2l 75 rfl dX5_mark_74 ?_
                rw [nI_l (by omega)]
                refine wm_goto 79 (by decide) dX5_mark_75 ?_
                refine wm_ladd 80 rfl dX5_mark_79 ?_
                first
                  | rw [show lN (sq (mbM σ n (gM σ n p 2) i) (fun r => r) j) + 0 = lN (sq (mbM σ n (gM σ n p 2) i) (fun r => r) (j + 1)) by rw [sq_f (P := (mbM σ n (gM σ n p 2) i)) c49n]; exact Int64.add_zero _]
                  | rw [lN_add, ← sq_t (P := (mbM σ n (gM σ n p 2) i)) (f := fun r => r) c49y]
                refine wm_lstore (ls' := [(6, _), (4, _), (0, _), (1, _), (3, _), (8, _)]) 82 rfl dX5_mark_80 (by decide) rfl ?_
                refine wm_iinc (ls' := [(8, _), (6, _), (4, _), (0, _), (1, _), (3, _)]) 85 rfl dX5_mark_82 rfl (nI_inc _) (by decide) rfl ?_
                refine wm_goto 31 (by decide) dX5_mark_85 ?_
                refine wm_loc (ls2 := [(0, _), (1, _), (3, _), (4, _), (6, _), (8, _)]) [3, 4, 5, 2, 1, 0] rfl ?_
                exact ih2 (n - (j + 1)) (by omega) (j + 1) rfl (by omega) gi
      refine wm_iload_n 15 rfl dX5_mark_14 rfl rfl ?_
      refine wm_aload_n 16 rfl dX5_mark_15 rfl rfl ?_
      refine wm_getI 19 rfl dX5_mark_16 gf_X5_56_4 rfl rfl ?_
      refine wm_icmp_ge 118 22 rfl (by decide) dX5_mark_19 (fun c19 => ?_) (fun c19 => ?_)
      · rw [hIυ.1] at c19
        have gi : i = n := by have := le_of_nI c19 (by omega) (by omega); omega
        refine wm_lload_n 119 rfl dX5_mark_118 rfl rfl ?_
        exact wm_lret dX5_mark_119 ⟨hS0, hF.2.2.1, by rw [gi]⟩
      · rw [hIυ.1] at c19
        have gi : i < n := lt_of_nnI c19 (by omega) (by omega)
        refine wm_lconst (v := 0) 23 rfl dX5_mark_22 (by decide) ?_
        refine wm_lstore (ls' := [(4, _), (0, _), (1, _), (3, _)]) 25 rfl dX5_mark_23 (by decide) rfl ?_
        refine wm_lconst (v := 0) 26 rfl dX5_mark_25 (by decide) ?_
        refine wm_lstore (ls' := [(6, _), (4, _), (0, _), (1, _), (3, _)]) 28 rfl dX5_mark_26 (by decide) rfl ?_
        refine wm_iconst (v := 0) 29 rfl dX5_mark_28 (by decide) ?_
        refine wm_istore (ls' := [(8, _), (6, _), (4, _), (0, _), (1, _), (3, _)]) 31 rfl dX5_mark_29 (by decide) rfl ?_
        refine wm_loc (ls2 := [(0, _), (1, _), (3, _), (4, _), (6, _), (8, _)]) [3, 4, 5, 2, 1, 0] rfl ?_
        exact lpi n 0 rfl (Nat.zero_le _) gi
  exact lpo n 0 rfl (Nat.zero_le _) trivial
