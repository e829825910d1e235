theorem ca_X5_isAhead : zCal yX5_isAhead cX5_isAhead 3 (some .boolean) 2 := ⟨aw_28_21, aw_1_5, by decide +kernel, by decide +kernel, by decide +kernel⟩
theorem cv_X5_isAhead : zCaV RX5 yX5_isAhead := ⟨aw_28_19, aw_28_20⟩
theorem ca_X5_teller : zCal yX5_teller cX5_teller 5 (some .int) 2 := ⟨aw_28_17, aw_1_5, by decide +kernel, by decide +kernel, by decide +kernel⟩
theorem cv_X5_teller : zCaV RX5 yX5_teller := ⟨aw_28_15, aw_28_16⟩
theorem ca_X5_fact : zCal yX5_fact cX5_fact 4 (some .int) 2 := ⟨aw_28_13, aw_1_5, by decide +kernel, by decide +kernel, by decide +kernel⟩
theorem cv_X5_fact : zCaV RX5 yX5_fact := ⟨aw_28_11, aw_28_12⟩
/-! THE MODEL'S CALLS: facts, ghosts, the mark -/
def ftM (σ : Sg) (n p : Nat) (r f : Int32) (x : Nat) : Prop := ∃ a i, r = nI a ∧ f = nI i ∧ a < n ∧ σ 6 a = 0 ∧ i < 3 ∧ x < n ∧ tfM σ n (gM σ n p 2) (gM σ n p 2 a) i x
def teM (σ : Sg) (n p : Nat) (r f v : Int32) (σ1 : Sg) : Prop := (¬ rcM σ n r ∧ mS 1 σ σ1 ∧ v = -1) ∨ (rcM σ n r ∧ ¬ nR 3 f ∧ mS 1 σ σ1 ∧ v = -1) ∨
  ∃ a i, r = nI a ∧ f = nI i ∧ a < n ∧ σ 6 a = 0 ∧ i < 3 ∧ fG σ n p ∧ lab σ1 9 n (gM σ n p 2) ∧ bsM σ n (gM σ n p 2) (gM σ n p 2 a) i n v ∧ mS (if v = -1 then 2 else 0) σ σ1
/-- the first fact's record, told by the order -/
def bxM (σ : Sg) (n p : Nat) (r f : Int32) (i x : Nat) : Prop := ∃ a, r = nI a ∧ f = nI i ∧ a < n ∧ σ 6 a = 0 ∧ i < 3 ∧ x < n ∧ tfM σ n (gM σ n p 2) (gM σ n p 2 a) i x ∧ ∀ y, y < n → tfM σ n (gM σ n p 2) (gM σ n p 2 a) i y → y ≠ x → ahM σ x y
theorem teM_f {σ : Sg} {n p : Nat} {r f v : Int32} {σ1 : Sg} {F : Prop} (hn : n ≤ 24) (h : teM σ n p r f v σ1) (hv : v = -1) : mTh σ σ1 [(1, rcM σ n r), (1, nR 3 f), (2, ∃ x, ftM σ n p r f x)] F := by
  rcases h with ⟨h1, h2, -⟩ | ⟨h1, h2, h3, -⟩ | ⟨a, i, rfl, rfl, ha, h6, hi, -, -, hb, hS⟩
  · exact Or.inl ⟨h1, h2⟩
  · exact Or.inr ⟨h1, Or.inl ⟨h2, h3⟩⟩
  · rw [if_pos hv] at hS
    refine Or.inr ⟨⟨a, rfl, ha, h6⟩, Or.inr ⟨⟨i, rfl, hi⟩, Or.inl ⟨?_, hS⟩⟩⟩
    rintro ⟨x, a2, i2, e1, e2, ha2, -, hi2, hx, ht⟩
    rw [← eq_of_nI e1 (by omega) (by omega), ← eq_of_nI e2 (by omega) (by omega)] at ht
    rcases hb with ⟨y, hy, hy2, -, e⟩ | ⟨-, hb⟩
    · exact nI_ne_m1 (by omega) (e.symm.trans hv)
    · exact hb x hx ht
theorem teM_t {σ : Sg} {n p : Nat} {r f v : Int32} {σ1 : Sg} (hn : n ≤ 24) (h : teM σ n p r f v σ1) (hv : ¬ v = -1) : ∃ i x, bxM σ n p r f i x ∧ v = nI x ∧ x < n ∧ i < 3 ∧ f = nI i ∧ rcM σ n r ∧ ftM σ n p r f x ∧ fG σ n p ∧ lab σ1 9 n (gM σ n p 2) ∧ mS 0 σ σ1 := by
  rcases h with ⟨-, -, h2⟩ | ⟨-, -, -, h3⟩ | ⟨a, i, rfl, rfl, ha, h6, hi, hG, hl, hb, hS⟩
  · exact absurd h2 hv
  · exact absurd h3 hv
  · rw [if_neg hv] at hS
    rcases hb with ⟨x, hx, hx2, ⟨h1, h2⟩, e⟩ | ⟨e, -⟩
    · exact ⟨i, x, ⟨a, rfl, rfl, ha, h6, hi, hx, h1, h2⟩, e, hx, hi, rfl, ⟨a, rfl, ha, h6⟩, ⟨a, i, rfl, rfl, ha, h6, hi, hx, h1⟩, hG, hl, hS⟩
    · exact absurd e hv
theorem k_X5_teller (l : Launch) {σ : Sg} {n p : Nat} (hI : mI σ n) (hP : mP σ p) (hQ : mQ σ n p) (hS : sM σ n) (r f : Int32) : cMi l yX5_teller cX5_teller 5 .int 4 Lm [.ref 0, .int r, .int f] σ (teM σ n p r f) := by
  have h24 := hI.2
  have h12 := hP.2
  refine zMet_of (by decide +kernel) (Nat.le_of_ble_eq_true rfl) (fun D cT ad sz => ?_)
  show Wm (fun _ _ => True) l (rmh 4) RX5 cX5_teller 5 (some .int) D cT ad Lm (zA ad Lm.length sz) (zZ (fun D cT ad L9 sz => zQi D cT ad L9 sz (teM σ n p r f)) D cT ad Lm sz) [] 0 (lv_args 0 [.ref 0, .int r, .int f]) [] σ 0 0
  refine wm_aload_n 1 rfl dX5_teller_0 rfl rfl ?_
  refine wm_aload_n 2 rfl dX5_teller_1 rfl rfl ?_
  refine wm_iload_n 3 rfl dX5_teller_2 rfl rfl ?_
  refine wm_callVi (ty := .boolean) 6 rfl dX5_teller_3 (k_X5_isRecord l hI _) ca_X5_isRecord cv_X5_isRecord rfl aw_8_10 rfl rfl ⟨Nat.le_of_ble_eq_true rfl, Nat.le_of_ble_eq_true rfl⟩ (Nat.le_of_ble_eq_true rfl) ⟨Nat.zero_le _, Nat.zero_le _⟩ ?_
  rintro r9 σ9 ⟨rfl, rfl⟩
  refine wm_if_eq 22 9 rfl (by decide) dX5_teller_6 (fun c6 => ?_) (fun c6 => ?_)
  · refine wm_iconst (v := 1) 23 rfl dX5_teller_22 (by decide) ?_
    refine wm_putI 26 rfl dX5_teller_23 pf_X5_53_4 rfl rfl ?_
    refine wm_aload_n 27 rfl dX5_teller_26 rfl rfl ?_
    refine wm_getI 30 rfl dX5_teller_27 gf_X5_53_4 rfl rfl ?_
    refine wm_if_le 35 33 rfl (by decide) dX5_teller_30 (fun c30 => ?_) (fun c30 => ?_)
    · exact absurd (show (1 : Int32) ≤ 0 from c30) (by decide)
    · refine wm_iconst (v := (-1)) 34 rfl dX5_teller_33 (by decide) ?_
      exact wm_iret dX5_teller_34 (by first | rfl | exact zp_nar) (by first | exact Or.inl ⟨zp_0.mp c6, mS_thr _ _, rfl⟩ | exact Or.inr (Or.inl ⟨zp_n.mp c6, fun q => zp_0.mp c15 (rg_3.mpr q), mS_thr _ _, rfl⟩))
  · refine wm_iload_n 10 rfl dX5_teller_9 rfl rfl ?_
    refine wm_iconst (v := 0) 11 rfl dX5_teller_10 (by decide) ?_
    refine wm_iconst (v := 2) 12 rfl dX5_teller_11 (by decide) ?_
    refine wm_callSi (ty := .boolean) 15 rfl dX5_teller_12 (k_X5_in l f 0 2) ca_X5_in aw_5_3 aw_5_2 ⟨Nat.le_of_ble_eq_true rfl, Nat.le_of_ble_eq_true rfl⟩ (Nat.le_of_ble_eq_true rfl) ⟨Nat.zero_le _, Nat.zero_le _⟩ ?_
    rintro r9 σ9 ⟨rfl, rfl⟩
    refine wm_if_eq 22 18 rfl (by decide) dX5_teller_15 (fun c15 => ?_) (fun c15 => ?_)
    · refine wm_iconst (v := 1) 23 rfl dX5_teller_22 (by decide) ?_
      refine wm_putI 26 rfl dX5_teller_23 pf_X5_53_4 rfl rfl ?_
      refine wm_aload_n 27 rfl dX5_teller_26 rfl rfl ?_
      refine wm_getI 30 rfl dX5_teller_27 gf_X5_53_4 rfl rfl ?_
      refine wm_if_le 35 33 rfl (by decide) dX5_teller_30 (fun c30 => ?_) (fun c30 => ?_)
      · exact absurd (show (1 : Int32) ≤ 0 from c30) (by decide)
      · refine wm_iconst (v := (-1)) 34 rfl dX5_teller_33 (by decide) ?_
        exact wm_iret dX5_teller_34 (by first | rfl | exact zp_nar) (by first | exact Or.inl ⟨zp_0.mp c6, mS_thr _ _, rfl⟩ | exact Or.inr (Or.inl ⟨zp_n.mp c6, fun q => zp_0.mp c15 (rg_3.mpr q), mS_thr _ _, rfl⟩))
    · refine wm_iconst (v := 0) 19 rfl dX5_teller_18 (by decide) ?_
      refine wm_goto 23 (by decide) dX5_teller_19 ?_
      refine wm_putI 26 rfl dX5_teller_23 pf_X5_53_4 rfl rfl ?_
      refine wm_aload_n 27 rfl dX5_teller_26 rfl rfl ?_
      refine wm_getI 30 rfl dX5_teller_27 gf_X5_53_4 rfl rfl ?_
      refine wm_if_le 35 33 rfl (by decide) dX5_teller_30 (fun c30 => ?_) (fun c30 => ?_)
      · obtain ⟨a, rfl, ha, h6⟩ := zp_n.mp c6
        obtain ⟨i, rfl, hi⟩ := rg_3.mp (zp_n.mp c15)
        refine wm_aload_n 36 rfl dX5_teller_35 rfl rfl ?_
        refine wm_iconst (v := 2) 37 rfl dX5_teller_36 (by decide) ?_
        refine wm_callVv 40 rfl dX5_teller_37 (k_finds2 l (stM_thr σ 0) hI hP hQ) ca_X5_finds cv_X5_finds rfl aw_18_23 rfl rfl ⟨Nat.le_of_ble_eq_true rfl, Nat.le_of_ble_eq_true rfl⟩ (Nat.le_of_ble_eq_true rfl) ⟨Nat.zero_le _, Nat.zero_le _⟩ ?_
        rintro υ hF
        have hsυ := hF.2.1
        have hgυ := hF.2.2.2
        have hIυ := hsυ.mI hI
        have hS0 := fM_S hF (show zu σ 0 13 0 0 13 = 0 from rfl)
        refine wm_iconst (v := (-1)) 41 rfl dX5_teller_40 (by decide) ?_
        refine wm_istore_n (ls' := [(3, _), (0, _), (1, _), (2, _)]) 42 rfl dX5_teller_41 rfl (by decide) rfl ?_
        refine wm_iconst (v := 0) 43 rfl dX5_teller_42 (by decide) ?_
        refine wm_istore (ls' := [(4, _), (3, _), (0, _), (1, _), (2, _)]) 45 rfl dX5_teller_43 (by decide) rfl ?_
        refine wm_loc (ls2 := [(0, _), (1, _), (2, _), (3, _), (4, _)]) [2, 3, 4, 1, 0] rfl ?_
        have hga := (hgυ a ha).2
        have lp : ∀ (q9 j : Nat) (bv : Int32), n - j = q9 → j ≤ n → bsM σ n (gM σ n p 2) ((gM σ n p 2) a) i j bv → Wm (fun _ _ => True) l (rmh 4) RX5 cX5_teller 5 (some .int) D cT ad Lm (zA ad Lm.length sz) (zZ (fun D cT ad L9 sz => zQi D cT ad L9 sz (teM σ n p (nI a) (nI i))) D cT ad Lm sz) [] 45 [(0, .ref 0), (1, .int (nI a)), (2, .int (nI i)), (3, .int bv), (4, .int (nI j))] [] υ 0 0 := by
          intro q9
          induction q9 using Nat.strongRecOn with
          | ind q9 ih =>
            intro j bv hmj hjj hinv
            refine wm_iload 47 rfl dX5_teller_45 rfl ?_
            refine wm_aload_n 48 rfl dX5_teller_47 rfl rfl ?_
            refine wm_getI 51 rfl dX5_teller_48 gf_X5_56_4 rfl rfl ?_
            refine wm_icmp_ge 106 54 rfl (by decide) dX5_teller_51 (fun c51 => ?_) (fun c51 => ?_)
            · rw [hIυ.1] at c51
              have gj : j = n := by have := le_of_nI c51 (by omega) (by omega); omega
              refine wm_aload_n 107 rfl dX5_teller_106 rfl rfl ?_
              refine wm_iload_n 108 rfl dX5_teller_107 rfl rfl ?_
              refine wm_iconst (v := (-1)) 109 rfl dX5_teller_108 (by decide) ?_
              refine wm_icmp_ne 116 112 rfl (by decide) dX5_teller_109 (fun c109 => ?_) (fun c109 => ?_)
              · refine wm_iconst (v := 0) 117 rfl dX5_teller_116 (by decide) ?_
                refine wm_putI 120 rfl dX5_teller_117 pf_X5_53_4 rfl rfl ?_
                refine wm_iload_n 121 rfl dX5_teller_120 rfl rfl ?_
                exact wm_iret dX5_teller_121 (by first | rfl | exact zp_nar) (by
  subst gj
  refine Or.inr (Or.inr ⟨a, i, rfl, rfl, ha, h6, hi, hF.2.2.1, fun r hr => hgυ r hr, hinv, ?_⟩)
  first
    | (rw [if_pos c109]; exact mS_r hsυ)
    | (rw [if_neg c109]; exact mS_r hsυ))
              · refine wm_iconst (v := 2) 113 rfl dX5_teller_112 (by decide) ?_
                refine wm_goto 117 (by decide) dX5_teller_113 ?_
                refine wm_putI 120 rfl dX5_teller_117 pf_X5_53_4 rfl rfl ?_
                refine wm_iload_n 121 rfl dX5_teller_120 rfl rfl ?_
                exact wm_iret dX5_teller_121 (by first | rfl | exact zp_nar) (by
  subst gj
  refine Or.inr (Or.inr ⟨a, i, rfl, rfl, ha, h6, hi, hF.2.2.1, fun r hr => hgυ r hr, hinv, ?_⟩)
  first
    | (rw [if_pos c109]; exact mS_r hsυ)
    | (rw [if_neg c109]; exact mS_r hsυ))
            · rw [hIυ.1] at c51
              have gj : j < n := lt_of_nnI c51 (by omega) (by omega)
              refine wm_aload_n 55 rfl dX5_teller_54 rfl rfl ?_
              refine wm_iload 57 rfl dX5_teller_55 rfl ?_
              refine wm_aload_n 58 rfl dX5_teller_57 rfl rfl ?_
              refine wm_getR 61 rfl dX5_teller_58 gf_X5_41_4 rfl rfl ?_
              refine wm_iload_n 62 rfl dX5_teller_61 rfl rfl ?_
              refine wm_iaload 63 rfl dX5_teller_62 rfl (in24 ha h24) ?_
              rw [nI_clamp (by omega), (hgυ a ha).1]
              refine wm_callVi (ty := .boolean) 66 rfl dX5_teller_63 (k_X5_isOf l hsυ h24 hgυ gj (h := gM σ n p 2 a) (by omega)) ca_X5_isOf cv_X5_isOf rfl aw_22_7 rfl rfl ⟨Nat.le_of_ble_eq_true rfl, Nat.le_of_ble_eq_true rfl⟩ (Nat.le_of_ble_eq_true rfl) ⟨Nat.zero_le _, Nat.zero_le _⟩ ?_
              rintro r9 σ9 ⟨rfl, rfl⟩
              refine wm_if_eq 100 69 rfl (by decide) dX5_teller_66 (fun c66 => ?_) (fun c66 => ?_)
              · refine wm_iinc (ls' := [(4, _), (0, _), (1, _), (2, _), (3, _)]) 103 rfl dX5_teller_100 rfl (nI_inc _) (by decide) rfl ?_
                refine wm_goto 45 (by decide) dX5_teller_103 ?_
                refine wm_loc (ls2 := [(0, _), (1, _), (2, _), (3, _), (4, _)]) [1, 2, 3, 4, 0] rfl ?_
                first
                  | exact ih (n - (j + 1)) (by omega) (j + 1) _ rfl (by omega) (bsM_skip hinv (fun q => zp_0.mp c66 q.1))
                  | exact ih (n - (j + 1)) (by omega) (j + 1) _ rfl (by omega) (bsM_skip hinv (fun q => q.2 c79))
                  | exact ih (n - (j + 1)) (by omega) (j + 1) _ rfl (by omega) (bsM_first (by omega) hinv ⟨zp_n.mp c66, c79⟩)
                  | exact ih (n - (j + 1)) (by omega) (j + 1) _ rfl (by omega) (bsM_keep hrb2 hinv (zp_0.mp c94))
                  | exact ih (n - (j + 1)) (by omega) (j + 1) _ rfl (by omega) (bsM_take hrb2 (by omega) hinv ⟨zp_n.mp c66, c79⟩ (zp_n.mp c94))
              · refine wm_aload_n 70 rfl dX5_teller_69 rfl rfl ?_
                refine wm_getR 73 rfl dX5_teller_70 gf_X5_24_4 rfl rfl ?_
                refine wm_iload 75 rfl dX5_teller_73 rfl ?_
                refine wm_aaload (r := 35 + j) 76 rfl dX5_teller_75 rfl (vp_in_nI (by omega) (by omega)) (by rw [nI_clamp (by omega)]) ?_
                refine wm_iload_n 77 rfl dX5_teller_76 rfl rfl ?_
                refine wm_iaload 78 rfl dX5_teller_77 (Lm_row (by omega) (by omega)) (vp_in_nI hi (by omega)) ?_
                refine wm_iconst (v := (-1)) 79 rfl dX5_teller_78 (by decide) ?_
                refine wm_icmp_eq 100 82 rfl (by decide) dX5_teller_79 (fun c79 => ?_) (fun c79 => ?_)
                · rw [nI_clamp (by omega), hsυ.row (a := 35 + j) (by omega) (by omega) (by omega)] at c79
                  refine wm_iinc (ls' := [(4, _), (0, _), (1, _), (2, _), (3, _)]) 103 rfl dX5_teller_100 rfl (nI_inc _) (by decide) rfl ?_
                  refine wm_goto 45 (by decide) dX5_teller_103 ?_
                  refine wm_loc (ls2 := [(0, _), (1, _), (2, _), (3, _), (4, _)]) [1, 2, 3, 4, 0] rfl ?_
                  first
                    | exact ih (n - (j + 1)) (by omega) (j + 1) _ rfl (by omega) (bsM_skip hinv (fun q => zp_0.mp c66 q.1))
                    | exact ih (n - (j + 1)) (by omega) (j + 1) _ rfl (by omega) (bsM_skip hinv (fun q => q.2 c79))
                    | exact ih (n - (j + 1)) (by omega) (j + 1) _ rfl (by omega) (bsM_first (by omega) hinv ⟨zp_n.mp c66, c79⟩)
                    | exact ih (n - (j + 1)) (by omega) (j + 1) _ rfl (by omega) (bsM_keep hrb2 hinv (zp_0.mp c94))
                    | exact ih (n - (j + 1)) (by omega) (j + 1) _ rfl (by omega) (bsM_take hrb2 (by omega) hinv ⟨zp_n.mp c66, c79⟩ (zp_n.mp c94))
                · rw [nI_clamp (by omega), hsυ.row (a := 35 + j) (by omega) (by omega) (by omega)] at c79
                  refine wm_iload_n 83 rfl dX5_teller_82 rfl rfl ?_
                  refine wm_iconst (v := (-1)) 84 rfl dX5_teller_83 (by decide) ?_
                  refine wm_icmp_eq 97 87 rfl (by decide) dX5_teller_84 (fun c84 => ?_) (fun c84 => ?_)
                  · subst c84
                    refine wm_iload 99 rfl dX5_teller_97 rfl ?_
                    refine wm_istore_n (ls' := [(3, _), (0, _), (1, _), (2, _), (4, _)]) 100 rfl dX5_teller_99 rfl (by decide) rfl ?_
                    refine wm_iinc (ls' := [(4, _), (3, _), (0, _), (1, _), (2, _)]) 103 rfl dX5_teller_100 rfl (nI_inc _) (by decide) rfl ?_
                    refine wm_goto 45 (by decide) dX5_teller_103 ?_
                    refine wm_loc (ls2 := [(0, _), (1, _), (2, _), (3, _), (4, _)]) [2, 3, 4, 1, 0] rfl ?_
                    first
                      | exact ih (n - (j + 1)) (by omega) (j + 1) _ rfl (by omega) (bsM_skip hinv (fun q => zp_0.mp c66 q.1))
                      | exact ih (n - (j + 1)) (by omega) (j + 1) _ rfl (by omega) (bsM_skip hinv (fun q => q.2 c79))
                      | exact ih (n - (j + 1)) (by omega) (j + 1) _ rfl (by omega) (bsM_first (by omega) hinv ⟨zp_n.mp c66, c79⟩)
                      | exact ih (n - (j + 1)) (by omega) (j + 1) _ rfl (by omega) (bsM_keep hrb2 hinv (zp_0.mp c94))
                      | exact ih (n - (j + 1)) (by omega) (j + 1) _ rfl (by omega) (bsM_take hrb2 (by omega) hinv ⟨zp_n.mp c66, c79⟩ (zp_n.mp c94))
                  · obtain ⟨rb, hrb, hrb2, -, rfl⟩ : ∃ r, r < j ∧ r < 24 ∧ True ∧ bv = nI r := by rcases hinv with ⟨r, h1, h2, -, h3⟩ | h; exact ⟨r, h1, h2, trivial, h3⟩; exact absurd h.1 c84
                    refine wm_aload_n 88 rfl dX5_teller_87 rfl rfl ?_
                    refine wm_iload 90 rfl dX5_teller_88 rfl ?_
                    refine wm_iload_n 91 rfl dX5_teller_90 rfl rfl ?_
                    refine wm_callVi (ty := .boolean) 94 rfl dX5_teller_91 (k_X5_isAhead l hsυ h24 hS gj (b := rb) (by omega)) ca_X5_isAhead cv_X5_isAhead rfl aw_28_18 rfl rfl ⟨Nat.le_of_ble_eq_true rfl, Nat.le_of_ble_eq_true rfl⟩ (Nat.le_of_ble_eq_true rfl) ⟨Nat.zero_le _, Nat.zero_le _⟩ ?_
                    rintro r9 σ9 ⟨rfl, rfl⟩
                    refine wm_if_eq 100 97 rfl (by decide) dX5_teller_94 (fun c94 => ?_) (fun c94 => ?_)
                    · refine wm_iinc (ls' := [(4, _), (0, _), (1, _), (2, _), (3, _)]) 103 rfl dX5_teller_100 rfl (nI_inc _) (by decide) rfl ?_
                      refine wm_goto 45 (by decide) dX5_teller_103 ?_
                      refine wm_loc (ls2 := [(0, _), (1, _), (2, _), (3, _), (4, _)]) [1, 2, 3, 4, 0] rfl ?_
                      first
                        | exact ih (n - (j + 1)) (by omega) (j + 1) _ rfl (by omega) (bsM_skip hinv (fun q => zp_0.mp c66 q.1))
                        | exact ih (n - (j + 1)) (by omega) (j + 1) _ rfl (by omega) (bsM_skip hinv (fun q => q.2 c79))
                        | exact ih (n - (j + 1)) (by omega) (j + 1) _ rfl (by omega) (bsM_first (by omega) hinv ⟨zp_n.mp c66, c79⟩)
                        | exact ih (n - (j + 1)) (by omega) (j + 1) _ rfl (by omega) (bsM_keep hrb2 hinv (zp_0.mp c94))
                        | exact ih (n - (j + 1)) (by omega) (j + 1) _ rfl (by omega) (bsM_take hrb2 (by omega) hinv ⟨zp_n.mp c66, c79⟩ (zp_n.mp c94))
                    · refine wm_iload 99 rfl dX5_teller_97 rfl ?_
                      refine wm_istore_n (ls' := [(3, _), (0, _), (1, _), (2, _), (4, _)]) 100 rfl dX5_teller_99 rfl (by decide) rfl ?_
                      refine wm_iinc (ls' := [(4, _), (3, _), (0, _), (1, _), (2, _)]) 103 rfl dX5_teller_100 rfl (nI_inc _) (by decide) rfl ?_
                      refine wm_goto 45 (by decide) dX5_teller_103 ?_
                      refine wm_loc (ls2 := [(0, _), (1, _), (2, _), (3, _), (4, _)]) [2, 3, 4, 1, 0] rfl ?_
                      first
                        | exact ih (n - (j + 1)) (by omega) (j + 1) _ rfl (by omega) (bsM_skip hinv (fun q => zp_0.mp c66 q.1))
                        | exact ih (n - (j + 1)) (by omega) (j + 1) _ rfl (by omega) (bsM_skip hinv (fun q => q.2 c79))
                        | exact ih (n - (j + 1)) (by omega) (j + 1) _ rfl (by omega) (bsM_first (by omega) hinv ⟨zp_n.mp c66, c79⟩)
                        | exact ih (n - (j + 1)) (by omega) (j + 1) _ rfl (by omega) (bsM_keep hrb2 hinv (zp_0.mp c94))
                        | exact ih (n - (j + 1)) (by omega) (j + 1) _ rfl (by omega) (bsM_take hrb2 (by omega) hinv ⟨zp_n.mp c66, c79⟩ (zp_n.mp c94))
        exact lp n 0 (-1) rfl (Nat.zero_le _) (Or.inr ⟨rfl, fun r hr => absurd hr (Nat.not_lt_zero r)⟩)
      · exact absurd (show (0 : Int32) ≤ 0 by decide) (show ¬ (0 : Int32) ≤ 0 from c30)
theorem k_X5_fact (l : Launch) {σ : Sg} {n p : Nat} (hI : mI σ n) (hP : mP σ p) (hQ : mQ σ n p) (hS : sM σ n) (r f : Int32) : cMi l yX5_fact cX5_fact 4 .int 5 Lm [.ref 0, .int r, .int f] σ (fun v σ1 => mTh σ σ1 [(1, rcM σ n r), (1, nR 3 f), (2, ∃ x, ftM σ n p r f x)] (∃ i x, bxM σ n p r f i x ∧ fG σ n p ∧ mS 0 σ σ1 ∧ v = σ (35 + x) i)) := by
  have h24 := hI.2
  have h12 := hP.2
  refine zMet_of (by decide +kernel) (Nat.le_of_ble_eq_true rfl) (fun D cT ad sz => ?_)
  show Wm (fun _ _ => True) l (rmh 5) RX5 cX5_fact 4 (some .int) D cT ad Lm (zA ad Lm.length sz) (zZ (fun D cT ad L9 sz => zQi D cT ad L9 sz (fun v σ1 => mTh σ σ1 [(1, rcM σ n r), (1, nR 3 f), (2, ∃ x, ftM σ n p r f x)] (∃ i x, bxM σ n p r f i x ∧ fG σ n p ∧ mS 0 σ σ1 ∧ v = σ (35 + x) i))) D cT ad Lm sz) [] 0 (lv_args 0 [.ref 0, .int r, .int f]) [] σ 0 0
  refine wm_aload_n 1 rfl dX5_fact_0 rfl rfl ?_
  refine wm_iload_n 2 rfl dX5_fact_1 rfl rfl ?_
  refine wm_iload_n 3 rfl dX5_fact_2 rfl rfl ?_
  refine wm_callVi (ty := .int) 6 rfl dX5_fact_3 (k_X5_teller l hI hP hQ hS r f) ca_X5_teller cv_X5_teller rfl aw_28_14 rfl rfl ⟨Nat.le_of_ble_eq_true rfl, Nat.le_of_ble_eq_true rfl⟩ (Nat.le_of_ble_eq_true rfl) ⟨Nat.zero_le _, Nat.zero_le _⟩ ?_
  rintro r9 τ hr9
  refine wm_istore_n (ls' := [(3, _), (0, _), (1, _), (2, _)]) 7 rfl dX5_fact_6 rfl (by decide) rfl ?_
  refine wm_iload_n 8 rfl dX5_fact_7 rfl rfl ?_
  refine wm_iconst (v := (-1)) 9 rfl dX5_fact_8 (by decide) ?_
  refine wm_icmp_ne 16 12 rfl (by decide) dX5_fact_9 (fun c9 => ?_) (fun c9 => ?_)
  · obtain ⟨i, x, hbx, rfl, hx, hi, rfl, f1, f3, hG, hl, hS0⟩ := teM_t h24 hr9 c9
    refine wm_aload_n 17 rfl dX5_fact_16 rfl rfl ?_
    refine wm_getR 20 rfl dX5_fact_17 gf_X5_24_4 rfl rfl ?_
    refine wm_iload_n 21 rfl dX5_fact_20 rfl rfl ?_
    refine wm_aaload (r := 35 + x) 22 rfl dX5_fact_21 rfl (vp_in_nI (by omega) (by omega)) (by rw [nI_clamp (by omega)]) ?_
    refine wm_iload_n 23 rfl dX5_fact_22 rfl rfl ?_
    refine wm_iaload 24 rfl dX5_fact_23 (Lm_row (by omega) (by omega)) (vp_in_nI hi (by omega)) ?_
    exact wm_iret dX5_fact_24 (by first | rfl | exact zp_nar) (by first | exact teM_f h24 hr9 c9 | exact Or.inr ⟨f1, Or.inr ⟨⟨i, rfl, hi⟩, Or.inr ⟨⟨x, f3⟩, i, x, hbx, hG, hS0, by rw [nI_clamp (by omega), hS0.2.row (a := 35 + x) (by omega) (by omega) (by omega)]⟩⟩⟩)
  · refine wm_iconst (v := 0) 13 rfl dX5_fact_12 (by decide) ?_
    refine wm_goto 24 (by decide) dX5_fact_13 ?_
    exact wm_iret dX5_fact_24 (by first | rfl | exact zp_nar) (by first | exact teM_f h24 hr9 c9 | exact Or.inr ⟨f1, Or.inr ⟨⟨i, rfl, hi⟩, Or.inr ⟨⟨x, f3⟩, i, x, hbx, hG, hS0, by rw [nI_clamp (by omega), hS0.2.row (a := 35 + x) (by omega) (by omega) (by omega)]⟩⟩⟩)
theorem k_X5_factByPairs (l : Launch) {σ : Sg} {n p : Nat} (hI : mI σ n) (hP : mP σ p) (hQ : mQ σ n p) (hS : sM σ n) (r f : Int32) : cMi l yX5_factByPairs cX5_factByPairs 3 .int 6 Lm [.ref 0, .int r, .int f] σ (fun v σ1 => mTh σ σ1 [(1, rcM σ n r), (1, nR 3 f), (2, ∃ x, ftM σ n p r f x)] (∃ i x, bxM σ n p r f i x ∧ fG σ n p ∧ mS 0 σ σ1 ∧ v = σ (35 + x) i)) := by
  refine zMet_of (by decide +kernel) (Nat.le_of_ble_eq_true rfl) (fun D cT ad sz => ?_)
  show Wm (fun _ _ => True) l (rmh 6) RX5 cX5_factByPairs 3 (some .int) D cT ad Lm (zA ad Lm.length sz) (zZ (fun D cT ad L9 sz => zQi D cT ad L9 sz (fun v σ1 => mTh σ σ1 [(1, rcM σ n r), (1, nR 3 f), (2, ∃ x, ftM σ n p r f x)] (∃ i x, bxM σ n p r f i x ∧ fG σ n p ∧ mS 0 σ σ1 ∧ v = σ (35 + x) i))) D cT ad Lm sz) [] 0 (lv_args 0 [.ref 0, .int r, .int f]) [] σ 0 0
  refine wm_aload_n 1 rfl dX5_factByPairs_0 rfl rfl ?_
  refine wm_iload_n 2 rfl dX5_factByPairs_1 rfl rfl ?_
  refine wm_iload_n 3 rfl dX5_factByPairs_2 rfl rfl ?_
  refine wm_callVi (ty := .int) 6 rfl dX5_factByPairs_3 (k_X5_fact l hI hP hQ hS r f) ca_X5_fact cv_X5_fact rfl aw_29_21 rfl rfl ⟨Nat.le_of_ble_eq_true rfl, Nat.le_of_ble_eq_true rfl⟩ (Nat.le_of_ble_eq_true rfl) ⟨Nat.zero_le _, Nat.zero_le _⟩ ?_
  rintro r9 σ9 hr9
  exact wm_iret dX5_factByPairs_6 (by first | rfl | exact zp_nar) hr9
theorem k_X5_factFrom (l : Launch) {σ : Sg} {n p : Nat} (hI : mI σ n) (hP : mP σ p) (hQ : mQ σ n p) (hS : sM σ n) (r f : Int32) : cMi l yX5_factFrom cX5_factFrom 4 .int 5 Lm [.ref 0, .int r, .int f] σ (fun v σ1 => mTh σ σ1 [(1, rcM σ n r), (1, nR 3 f), (2, ∃ x, ftM σ n p r f x)] (∃ i x, bxM σ n p r f i x ∧ fG σ n p ∧ mS 0 σ σ1 ∧ v = nI x)) := by
  have h24 := hI.2
  have h12 := hP.2
  refine zMet_of (by decide +kernel) (Nat.le_of_ble_eq_true rfl) (fun D cT ad sz => ?_)
  show Wm (fun _ _ => True) l (rmh 5) RX5 cX5_factFrom 4 (some .int) D cT ad Lm (zA ad Lm.length sz) (zZ (fun D cT ad L9 sz => zQi D cT ad L9 sz (fun v σ1 => mTh σ σ1 [(1, rcM σ n r), (1, nR 3 f), (2, ∃ x, ftM σ n p r f x)] (∃ i x, bxM σ n p r f i x ∧ fG σ n p ∧ mS 0 σ σ1 ∧ v = nI x))) D cT ad Lm sz) [] 0 (lv_args 0 [.ref 0, .int r, .int f]) [] σ 0 0
  refine wm_aload_n 1 rfl dX5_factFrom_0 rfl rfl ?_
  refine wm_iload_n 2 rfl dX5_factFrom_1 rfl rfl ?_
  refine wm_iload_n 3 rfl dX5_factFrom_2 rfl rfl ?_
  refine wm_callVi (ty := .int) 6 rfl dX5_factFrom_3 (k_X5_teller l hI hP hQ hS r f) ca_X5_teller cv_X5_teller rfl aw_28_14 rfl rfl ⟨Nat.le_of_ble_eq_true rfl, Nat.le_of_ble_eq_true rfl⟩ (Nat.le_of_ble_eq_true rfl) ⟨Nat.zero_le _, Nat.zero_le _⟩ ?_
  rintro r9 τ hr9
  refine wm_istore_n (ls' := [(3, _), (0, _), (1, _), (2, _)]) 7 rfl dX5_factFrom_6 rfl (by decide) rfl ?_
  refine wm_iload_n 8 rfl dX5_factFrom_7 rfl rfl ?_
  refine wm_iconst (v := (-1)) 9 rfl dX5_factFrom_8 (by decide) ?_
  refine wm_icmp_ne 16 12 rfl (by decide) dX5_factFrom_9 (fun c9 => ?_) (fun c9 => ?_)
  · obtain ⟨i, x, hbx, rfl, hx, hi, rfl, f1, f3, hG, hl, hS0⟩ := teM_t h24 hr9 c9
    refine wm_iload_n 17 rfl dX5_factFrom_16 rfl rfl ?_
    exact wm_iret dX5_factFrom_17 (by first | rfl | exact zp_nar) (by first | exact teM_f h24 hr9 c9 | exact Or.inr ⟨f1, Or.inr ⟨⟨i, rfl, hi⟩, Or.inr ⟨⟨x, f3⟩, i, x, hbx, hG, hS0, rfl⟩⟩⟩)
  · refine wm_iconst (v := 0) 13 rfl dX5_factFrom_12 (by decide) ?_
    refine wm_goto 17 (by decide) dX5_factFrom_13 ?_
    exact wm_iret dX5_factFrom_17 (by first | rfl | exact zp_nar) (by first | exact teM_f h24 hr9 c9 | exact Or.inr ⟨f1, Or.inr ⟨⟨i, rfl, hi⟩, Or.inr ⟨⟨x, f3⟩, i, x, hbx, hG, hS0, rfl⟩⟩⟩)
def agM (σ : Sg) (n p : Nat) (r f : Int32) (v : UInt32) (σ1 : Sg) : Prop := mTh σ σ1 [(1, rcM σ n r), (1, nR 3 f), (2, ∃ x, ftM σ n p r f x)] (∃ a i x, bxM σ n p r f i x ∧ (r = nI a ∧ a < n) ∧ fG σ n p ∧ mS 0 σ σ1 ∧ v = FP.fdiv (FP.i2f (nI (cq (fun y => tfM σ n (gM σ n p 2) ((gM σ n p 2) a) i y ∧ σ (35 + y) i = σ (35 + x) i) n))) (FP.i2f (nI (cq (tfM σ n (gM σ n p 2) ((gM σ n p 2) a) i) n))))
theorem k_X5_agreement (l : Launch) {σ : Sg} {n p : Nat} (hI : mI σ n) (hP : mP σ p) (hQ : mQ σ n p) (hS : sM σ n) (r f : Int32) : cMf l yX5_agreement cX5_agreement 8 5 Lm [.ref 0, .int r, .int f] σ (agM σ n p r f) := by
  have h24 := hI.2
  have h12 := hP.2
  refine zMet_of (by decide +kernel) (Nat.le_of_ble_eq_true rfl) (fun D cT ad sz => ?_)
  show Wm (fun _ _ => True) l (rmh 5) RX5 cX5_agreement 8 (some .float) D cT ad Lm (zA ad Lm.length sz) (zZ (fun D cT ad L9 sz => zQf D cT ad L9 sz (agM σ n p r f)) D cT ad Lm sz) [] 0 (lv_args 0 [.ref 0, .int r, .int f]) [] σ 0 0
  refine wm_aload_n 1 rfl dX5_agreement_0 rfl rfl ?_
  refine wm_iload_n 2 rfl dX5_agreement_1 rfl rfl ?_
  refine wm_iload_n 3 rfl dX5_agreement_2 rfl rfl ?_
  refine wm_callVi (ty := .int) 6 rfl dX5_agreement_3 (k_X5_teller l hI hP hQ hS r f) ca_X5_teller cv_X5_teller rfl aw_28_14 rfl rfl ⟨Nat.le_of_ble_eq_true rfl, Nat.le_of_ble_eq_true rfl⟩ (Nat.le_of_ble_eq_true rfl) ⟨Nat.zero_le _, Nat.zero_le _⟩ ?_
  rintro r9 τ hr9
  refine wm_istore_n (ls' := [(3, _), (0, _), (1, _), (2, _)]) 7 rfl dX5_agreement_6 rfl (by decide) rfl ?_
  refine wm_iconst (v := 0) 8 rfl dX5_agreement_7 (by decide) ?_
  refine wm_istore (ls' := [(4, _), (3, _), (0, _), (1, _), (2, _)]) 10 rfl dX5_agreement_8 (by decide) rfl ?_
  refine wm_iconst (v := 0) 11 rfl dX5_agreement_10 (by decide) ?_
  refine wm_istore (ls' := [(5, _), (4, _), (3, _), (0, _), (1, _), (2, _)]) 13 rfl dX5_agreement_11 (by decide) rfl ?_
  refine wm_iconst (v := 0) 14 rfl dX5_agreement_13 (by decide) ?_
  refine wm_istore (ls' := [(6, _), (5, _), (4, _), (3, _), (0, _), (1, _), (2, _)]) 16 rfl dX5_agreement_14 (by decide) rfl ?_
  refine wm_loc (ls2 := [(0, _), (1, _), (2, _), (3, _), (4, _), (5, _), (6, _)]) [4, 5, 6, 3, 2, 1, 0] rfl ?_
  by_cases c9 : r9 = -1
  · subst c9
    refine wm_iload 18 rfl dX5_agreement_16 rfl ?_
    refine wm_aload_n 19 rfl dX5_agreement_18 rfl rfl ?_
    refine wm_getI 22 rfl dX5_agreement_19 gf_X5_56_4 rfl rfl ?_
    refine wm_icmp_ge 121 25 rfl (by decide) dX5_agreement_22 (fun c22 => ?_) (fun c22 => ?_)
    · refine wm_iload_n 122 rfl dX5_agreement_121 rfl rfl ?_
      refine wm_iconst (v := (-1)) 123 rfl dX5_agreement_122 (by decide) ?_
      refine wm_icmp_ne 130 126 rfl (by decide) dX5_agreement_123 (fun c123 => ?_) (fun c123 => ?_)
      · exact absurd rfl c123
      · refine wm_fconst0 127 rfl dX5_agreement_126 ?_
        refine wm_goto 137 (by decide) dX5_agreement_127 ?_
        exact wm_fret dX5_agreement_137 (teM_f h24 hr9 rfl)
    · refine wm_iload_n 26 rfl dX5_agreement_25 rfl rfl ?_
      refine wm_iconst (v := (-1)) 27 rfl dX5_agreement_26 (by decide) ?_
      refine wm_icmp_eq 121 30 rfl (by decide) dX5_agreement_27 (fun c27 => ?_) (fun c27 => ?_)
      · refine wm_iload_n 122 rfl dX5_agreement_121 rfl rfl ?_
        refine wm_iconst (v := (-1)) 123 rfl dX5_agreement_122 (by decide) ?_
        refine wm_icmp_ne 130 126 rfl (by decide) dX5_agreement_123 (fun c123 => ?_) (fun c123 => ?_)
        · exact absurd rfl c123
        · refine wm_fconst0 127 rfl dX5_agreement_126 ?_
          refine wm_goto 137 (by decide) dX5_agreement_127 ?_
          exact wm_fret dX5_agreement_137 (teM_f h24 hr9 rfl)
      · exact absurd rfl c27
  · obtain ⟨i, x, hbx, rfl, hx, hi, rfl, f1, f3, hG, hl, hS0⟩ := teM_t h24 hr9 c9
    obtain ⟨a, rfl, -, ha, h6, -, -, ht, -⟩ := id hbx
    have hga := (hl a ha).2
    have hIτ := hS0.2.mI hI
    have lp : ∀ (q9 j : Nat), n - j = q9 → j ≤ n → True → Wm (fun _ _ => True) l (rmh 5) RX5 cX5_agreement 8 (some .float) D cT ad Lm (zA ad Lm.length sz) (zZ (fun D cT ad L9 sz => zQf D cT ad L9 sz (agM σ n p (nI a) (nI i))) D cT ad Lm sz) [] 16 [(0, .ref 0), (1, .int (nI a)), (2, .int (nI i)), (3, .int (nI x)), (4, .int (nI (cq (tfM σ n (gM σ n p 2) ((gM σ n p 2) a) i) j))), (5, .int (nI (cq (fun y => tfM σ n (gM σ n p 2) ((gM σ n p 2) a) i y ∧ σ (35 + y) i = σ (35 + x) i) j))), (6, .int (nI j))] [] τ 0 0 := by
      intro q9
      induction q9 using Nat.strongRecOn with
      | ind q9 ih =>
        intro j  hmj hjj hinv
        refine wm_iload 18 rfl dX5_agreement_16 rfl ?_
        refine wm_aload_n 19 rfl dX5_agreement_18 rfl rfl ?_
        refine wm_getI 22 rfl dX5_agreement_19 gf_X5_56_4 rfl rfl ?_
        refine wm_icmp_ge 121 25 rfl (by decide) dX5_agreement_22 (fun c22 => ?_) (fun c22 => ?_)
        · rw [hIτ.1] at c22
          have gj : j = n := by have := le_of_nI c22 (by omega) (by omega); omega
          refine wm_iload_n 122 rfl dX5_agreement_121 rfl rfl ?_
          refine wm_iconst (v := (-1)) 123 rfl dX5_agreement_122 (by decide) ?_
          refine wm_icmp_ne 130 126 rfl (by decide) dX5_agreement_123 (fun c123 => ?_) (fun c123 => ?_)
          · refine wm_iload 132 rfl dX5_agreement_130 rfl ?_
            refine wm_i2f 133 rfl dX5_agreement_132 ?_
            refine wm_iload 135 rfl dX5_agreement_133 rfl ?_
            refine wm_i2f 136 rfl dX5_agreement_135 ?_
            have hne : cq (tfM σ n (gM σ n p 2) ((gM σ n p 2) a) i) j ≠ 0 := by
              have hlt := cq_up (P := (tfM σ n (gM σ n p 2) ((gM σ n p 2) a) i)) (j := j) (x := x) (by omega) ht
              omega
            have hl1 := cq_le (tfM σ n (gM σ n p 2) ((gM σ n p 2) a) i) j
            have hl2 := cq_le (fun y => tfM σ n (gM σ n p 2) ((gM σ n p 2) a) i y ∧ σ (35 + y) i = σ (35 + x) i) j
            refine wm_fdiv 137 rfl dX5_agreement_136 (ff_ok _ (by omega) _ (by omega) hne) ?_
            exact wm_fret dX5_agreement_137 (by subst gj; exact Or.inr ⟨f1, Or.inr ⟨⟨i, rfl, hi⟩, Or.inr ⟨⟨x, f3⟩, a, i, x, hbx, ⟨rfl, ha⟩, hG, hS0, rfl⟩⟩⟩)
          · exact absurd c123 (nI_ne_m1 (by omega))
        · rw [hIτ.1] at c22
          have gj : j < n := lt_of_nnI c22 (by omega) (by omega)
          refine wm_iload_n 26 rfl dX5_agreement_25 rfl rfl ?_
          refine wm_iconst (v := (-1)) 27 rfl dX5_agreement_26 (by decide) ?_
          refine wm_icmp_eq 121 30 rfl (by decide) dX5_agreement_27 (fun c27 => ?_) (fun c27 => ?_)
          · exact absurd c27 (nI_ne_m1 (by omega))
          · refine wm_aload_n 31 rfl dX5_agreement_30 rfl rfl ?_
            refine wm_iload 33 rfl dX5_agreement_31 rfl ?_
            refine wm_aload_n 34 rfl dX5_agreement_33 rfl rfl ?_
            refine wm_getR 37 rfl dX5_agreement_34 gf_X5_41_4 rfl rfl ?_
            refine wm_iload_n 38 rfl dX5_agreement_37 rfl rfl ?_
            refine wm_iaload 39 rfl dX5_agreement_38 rfl (in24 ha h24) ?_
            rw [nI_clamp (by omega), (hl a ha).1]
            refine wm_callVi (ty := .boolean) 42 rfl dX5_agreement_39 (k_X5_isOf l hS0.2 h24 hl gj (h := gM σ n p 2 a) (by omega)) ca_X5_isOf cv_X5_isOf rfl aw_22_7 rfl rfl ⟨Nat.le_of_ble_eq_true rfl, Nat.le_of_ble_eq_true rfl⟩ (Nat.le_of_ble_eq_true rfl) ⟨Nat.zero_le _, Nat.zero_le _⟩ ?_
            rintro r9 σ9 ⟨rfl, rfl⟩
            refine wm_if_eq 62 45 rfl (by decide) dX5_agreement_42 (fun c42 => ?_) (fun c42 => ?_)
            · refine wm_iconst (v := 0) 63 rfl dX5_agreement_62 (by decide) ?_
              refine wm_istore (ls' := [(7, _), (0, _), (1, _), (2, _), (3, _), (4, _), (5, _), (6, _)]) 65 rfl dX5_agreement_63 (by decide) rfl ?_
              refine wm_iload 67 rfl dX5_agreement_65 rfl ?_
              refine wm_iload 69 rfl dX5_agreement_67 rfl ?_
              refine wm_if_eq 76 72 rfl (by decide) dX5_agreement_69 (fun c69 => ?_) (fun c69 => ?_)
              · refine wm_iconst (v := 0) 77 rfl dX5_agreement_76 (by decide) ?_
                refine wm_iadd 78 rfl dX5_agreement_77 ?_
                first
                  | rw [show nI (cq (tfM σ n (gM σ n p 2) ((gM σ n p 2) a) i) j) + 0 = nI (cq (tfM σ n (gM σ n p 2) ((gM σ n p 2) a) i) (j + 1)) by rw [cq_f (P := (tfM σ n (gM σ n p 2) ((gM σ n p 2) a) i)) (by first | exact fun q => zp_0.mp c42 q.1 | exact fun q => q.2 c55)]; exact Int32.add_zero _]
                  | rw [show nI (cq (tfM σ n (gM σ n p 2) ((gM σ n p 2) a) i) j) + 1 = nI (cq (tfM σ n (gM σ n p 2) ((gM σ n p 2) a) i) (j + 1)) by rw [cq_t (P := (tfM σ n (gM σ n p 2) ((gM σ n p 2) a) i)) (⟨zp_n.mp c42, c55⟩)]; exact nI_1 _]
                refine wm_istore (ls' := [(4, _), (7, _), (0, _), (1, _), (2, _), (3, _), (5, _), (6, _)]) 80 rfl dX5_agreement_78 (by decide) rfl ?_
                refine wm_iload 82 rfl dX5_agreement_80 rfl ?_
                refine wm_iload 84 rfl dX5_agreement_82 rfl ?_
                refine wm_if_eq 111 87 rfl (by decide) dX5_agreement_84 (fun c84 => ?_) (fun c84 => ?_)
                · refine wm_iconst (v := 0) 112 rfl dX5_agreement_111 (by decide) ?_
                  refine wm_iadd 113 rfl dX5_agreement_112 ?_
                  first
                    | rw [show nI (cq (fun y => tfM σ n (gM σ n p 2) ((gM σ n p 2) a) i y ∧ σ (35 + y) i = σ (35 + x) i) j) + 0 = nI (cq (fun y => tfM σ n (gM σ n p 2) ((gM σ n p 2) a) i y ∧ σ (35 + y) i = σ (35 + x) i) (j + 1)) by rw [cq_f (P := (fun y => tfM σ n (gM σ n p 2) ((gM σ n p 2) a) i y ∧ σ (35 + y) i = σ (35 + x) i)) (by first | exact fun q => zp_0.mp c42 q.1.1 | exact fun q => q.1.2 c55 | exact fun q => c104 q.2)]; exact Int32.add_zero _]
                    | rw [show nI (cq (fun y => tfM σ n (gM σ n p 2) ((gM σ n p 2) a) i y ∧ σ (35 + y) i = σ (35 + x) i) j) + 1 = nI (cq (fun y => tfM σ n (gM σ n p 2) ((gM σ n p 2) a) i y ∧ σ (35 + y) i = σ (35 + x) i) (j + 1)) by rw [cq_t (P := (fun y => tfM σ n (gM σ n p 2) ((gM σ n p 2) a) i y ∧ σ (35 + y) i = σ (35 + x) i)) (⟨⟨zp_n.mp c42, c55⟩, c104⟩)]; exact nI_1 _]
                  refine wm_istore (ls' := [(5, _), (4, _), (7, _), (0, _), (1, _), (2, _), (3, _), (6, _)]) 115 rfl dX5_agreement_113 (by decide) rfl ?_
                  refine wm_iinc (ls' := [(6, _), (5, _), (4, _), (7, _), (0, _), (1, _), (2, _), (3, _)]) 118 rfl dX5_agreement_115 rfl (nI_inc _) (by decide) rfl ?_
                  refine wm_goto 16 (by decide) dX5_agreement_118 ?_
                  refine wm_loc (ls2 := [(0, _), (1, _), (2, _), (3, _), (4, _), (5, _), (6, _)]) [4, 5, 6, 7, 2, 1, 0] rfl ?_
                  exact ih (n - (j + 1)) (by omega) (j + 1) rfl (by omega) trivial
                · exact absurd rfl c84
              · exact absurd rfl c69
            · refine wm_aload_n 46 rfl dX5_agreement_45 rfl rfl ?_
              refine wm_getR 49 rfl dX5_agreement_46 gf_X5_24_4 rfl rfl ?_
              refine wm_iload 51 rfl dX5_agreement_49 rfl ?_
              refine wm_aaload (r := 35 + j) 52 rfl dX5_agreement_51 rfl (vp_in_nI (by omega) (by omega)) (by rw [nI_clamp (by omega)]) ?_
              refine wm_iload_n 53 rfl dX5_agreement_52 rfl rfl ?_
              refine wm_iaload 54 rfl dX5_agreement_53 (Lm_row (by omega) (by omega)) (vp_in_nI hi (by omega)) ?_
              refine wm_iconst (v := (-1)) 55 rfl dX5_agreement_54 (by decide) ?_
              refine wm_icmp_eq 62 58 rfl (by decide) dX5_agreement_55 (fun c55 => ?_) (fun c55 => ?_)
              · rw [nI_clamp (by omega), hS0.2.row (a := 35 + j) (by omega) (by omega) (by omega)] at c55
                refine wm_iconst (v := 0) 63 rfl dX5_agreement_62 (by decide) ?_
                refine wm_istore (ls' := [(7, _), (0, _), (1, _), (2, _), (3, _), (4, _), (5, _), (6, _)]) 65 rfl dX5_agreement_63 (by decide) rfl ?_
                refine wm_iload 67 rfl dX5_agreement_65 rfl ?_
                refine wm_iload 69 rfl dX5_agreement_67 rfl ?_
                refine wm_if_eq 76 72 rfl (by decide) dX5_agreement_69 (fun c69 => ?_) (fun c69 => ?_)
                · refine wm_iconst (v := 0) 77 rfl dX5_agreement_76 (by decide) ?_
                  refine wm_iadd 78 rfl dX5_agreement_77 ?_
                  first
                    | rw [show nI (cq (tfM σ n (gM σ n p 2) ((gM σ n p 2) a) i) j) + 0 = nI (cq (tfM σ n (gM σ n p 2) ((gM σ n p 2) a) i) (j + 1)) by rw [cq_f (P := (tfM σ n (gM σ n p 2) ((gM σ n p 2) a) i)) (by first | exact fun q => zp_0.mp c42 q.1 | exact fun q => q.2 c55)]; exact Int32.add_zero _]
                    | rw [show nI (cq (tfM σ n (gM σ n p 2) ((gM σ n p 2) a) i) j) + 1 = nI (cq (tfM σ n (gM σ n p 2) ((gM σ n p 2) a) i) (j + 1)) by rw [cq_t (P := (tfM σ n (gM σ n p 2) ((gM σ n p 2) a) i)) (⟨zp_n.mp c42, c55⟩)]; exact nI_1 _]
                  refine wm_istore (ls' := [(4, _), (7, _), (0, _), (1, _), (2, _), (3, _), (5, _), (6, _)]) 80 rfl dX5_agreement_78 (by decide) rfl ?_
                  refine wm_iload 82 rfl dX5_agreement_80 rfl ?_
                  refine wm_iload 84 rfl dX5_agreement_82 rfl ?_
                  refine wm_if_eq 111 87 rfl (by decide) dX5_agreement_84 (fun c84 => ?_) (fun c84 => ?_)
                  · refine wm_iconst (v := 0) 112 rfl dX5_agreement_111 (by decide) ?_
                    refine wm_iadd 113 rfl dX5_agreement_112 ?_
                    first
                      | rw [show nI (cq (fun y => tfM σ n (gM σ n p 2) ((gM σ n p 2) a) i y ∧ σ (35 + y) i = σ (35 + x) i) j) + 0 = nI (cq (fun y => tfM σ n (gM σ n p 2) ((gM σ n p 2) a) i y ∧ σ (35 + y) i = σ (35 + x) i) (j + 1)) by rw [cq_f (P := (fun y => tfM σ n (gM σ n p 2) ((gM σ n p 2) a) i y ∧ σ (35 + y) i = σ (35 + x) i)) (by first | exact fun q => zp_0.mp c42 q.1.1 | exact fun q => q.1.2 c55 | exact fun q => c104 q.2)]; exact Int32.add_zero _]
                      | rw [show nI (cq (fun y => tfM σ n (gM σ n p 2) ((gM σ n p 2) a) i y ∧ σ (35 + y) i = σ (35 + x) i) j) + 1 = nI (cq (fun y => tfM σ n (gM σ n p 2) ((gM σ n p 2) a) i y ∧ σ (35 + y) i = σ (35 + x) i) (j + 1)) by rw [cq_t (P := (fun y => tfM σ n (gM σ n p 2) ((gM σ n p 2) a) i y ∧ σ (35 + y) i = σ (35 + x) i)) (⟨⟨zp_n.mp c42, c55⟩, c104⟩)]; exact nI_1 _]
                    refine wm_istore (ls' := [(5, _), (4, _), (7, _), (0, _), (1, _), (2, _), (3, _), (6, _)]) 115 rfl dX5_agreement_113 (by decide) rfl ?_
                    refine wm_iinc (ls' := [(6, _), (5, _), (4, _), (7, _), (0, _), (1, _), (2, _), (3, _)]) 118 rfl dX5_agreement_115 rfl (nI_inc _) (by decide) rfl ?_
                    refine wm_goto 16 (by decide) dX5_agreement_118 ?_
                    refine wm_loc (ls2 := [(0, _), (1, _), (2, _), (3, _), (4, _), (5, _), (6, _)]) [4, 5, 6, 7, 2, 1, 0] rfl ?_
                    exact ih (n - (j + 1)) (by omega) (j + 1) rfl (by omega) trivial
                  · exact absurd rfl c84
                · exact absurd rfl c69
              · rw [nI_clamp (by omega), hS0.2.row (a := 35 + j) (by omega) (by omega) (by omega)] at c55
                refine wm_iconst (v := 1) 59 rfl dX5_agreement_58 (by decide) ?_
                refine wm_goto 63 (by decide) dX5_agreement_59 ?_
                refine wm_istore (ls' := [(7, _), (0, _), (1, _), (2, _), (3, _), (4, _), (5, _), (6, _)]) 65 rfl dX5_agreement_63 (by decide) rfl ?_
                refine wm_iload 67 rfl dX5_agreement_65 rfl ?_
                refine wm_iload 69 rfl dX5_agreement_67 rfl ?_
                refine wm_if_eq 76 72 rfl (by decide) dX5_agreement_69 (fun c69 => ?_) (fun c69 => ?_)
                · exact absurd c69 (by decide)
                · refine wm_iconst (v := 1) 73 rfl dX5_agreement_72 (by decide) ?_
                  refine wm_goto 77 (by decide) dX5_agreement_73 ?_
                  refine wm_iadd 78 rfl dX5_agreement_77 ?_
                  first
                    | rw [show nI (cq (tfM σ n (gM σ n p 2) ((gM σ n p 2) a) i) j) + 0 = nI (cq (tfM σ n (gM σ n p 2) ((gM σ n p 2) a) i) (j + 1)) by rw [cq_f (P := (tfM σ n (gM σ n p 2) ((gM σ n p 2) a) i)) (by first | exact fun q => zp_0.mp c42 q.1 | exact fun q => q.2 c55)]; exact Int32.add_zero _]
                    | rw [show nI (cq (tfM σ n (gM σ n p 2) ((gM σ n p 2) a) i) j) + 1 = nI (cq (tfM σ n (gM σ n p 2) ((gM σ n p 2) a) i) (j + 1)) by rw [cq_t (P := (tfM σ n (gM σ n p 2) ((gM σ n p 2) a) i)) (⟨zp_n.mp c42, c55⟩)]; exact nI_1 _]
                  refine wm_istore (ls' := [(4, _), (7, _), (0, _), (1, _), (2, _), (3, _), (5, _), (6, _)]) 80 rfl dX5_agreement_78 (by decide) rfl ?_
                  refine wm_iload 82 rfl dX5_agreement_80 rfl ?_
                  refine wm_iload 84 rfl dX5_agreement_82 rfl ?_
                  refine wm_if_eq 111 87 rfl (by decide) dX5_agreement_84 (fun c84 => ?_) (fun c84 => ?_)
                  · exact absurd c84 (by decide)
                  · refine wm_aload_n 88 rfl dX5_agreement_87 rfl rfl ?_
                    refine wm_getR 91 rfl dX5_agreement_88 gf_X5_24_4 rfl rfl ?_
                    refine wm_iload 93 rfl dX5_agreement_91 rfl ?_
                    refine wm_aaload (r := 35 + j) 94 rfl dX5_agreement_93 rfl (vp_in_nI (by omega) (by omega)) (by rw [nI_clamp (by omega)]) ?_
                    refine wm_iload_n 95 rfl dX5_agreement_94 rfl rfl ?_
                    refine wm_iaload 96 rfl dX5_agreement_95 (Lm_row (by omega) (by omega)) (vp_in_nI hi (by omega)) ?_
                    refine wm_aload_n 97 rfl dX5_agreement_96 rfl rfl ?_
                    refine wm_getR 100 rfl dX5_agreement_97 gf_X5_24_4 rfl rfl ?_
                    refine wm_iload_n 101 rfl dX5_agreement_100 rfl rfl ?_
                    refine wm_aaload (r := 35 + x) 102 rfl dX5_agreement_101 rfl (vp_in_nI (by omega) (by omega)) (by rw [nI_clamp (by omega)]) ?_
                    refine wm_iload_n 103 rfl dX5_agreement_102 rfl rfl ?_
                    refine wm_iaload 104 rfl dX5_agreement_103 (Lm_row (by omega) (by omega)) (vp_in_nI hi (by omega)) ?_
                    refine wm_icmp_ne 111 107 rfl (by decide) dX5_agreement_104 (fun c104 => ?_) (fun c104 => ?_)
                    · rw [nI_clamp (by omega), hS0.2.row (a := 35 + j) (by omega) (by omega) (by omega), hS0.2.row (a := 35 + x) (by omega) (by omega) (by omega)] at c104
                      refine wm_iconst (v := 0) 112 rfl dX5_agreement_111 (by decide) ?_
                      refine wm_iadd 113 rfl dX5_agreement_112 ?_
                      first
                        | rw [show nI (cq (fun y => tfM σ n (gM σ n p 2) ((gM σ n p 2) a) i y ∧ σ (35 + y) i = σ (35 + x) i) j) + 0 = nI (cq (fun y => tfM σ n (gM σ n p 2) ((gM σ n p 2) a) i y ∧ σ (35 + y) i = σ (35 + x) i) (j + 1)) by rw [cq_f (P := (fun y => tfM σ n (gM σ n p 2) ((gM σ n p 2) a) i y ∧ σ (35 + y) i = σ (35 + x) i)) (by first | exact fun q => zp_0.mp c42 q.1.1 | exact fun q => q.1.2 c55 | exact fun q => c104 q.2)]; exact Int32.add_zero _]
                        | rw [show nI (cq (fun y => tfM σ n (gM σ n p 2) ((gM σ n p 2) a) i y ∧ σ (35 + y) i = σ (35 + x) i) j) + 1 = nI (cq (fun y => tfM σ n (gM σ n p 2) ((gM σ n p 2) a) i y ∧ σ (35 + y) i = σ (35 + x) i) (j + 1)) by rw [cq_t (P := (fun y => tfM σ n (gM σ n p 2) ((gM σ n p 2) a) i y ∧ σ (35 + y) i = σ (35 + x) i)) (⟨⟨zp_n.mp c42, c55⟩, c104⟩)]; exact nI_1 _]
                      refine wm_istore (ls' := [(5, _), (4, _), (7, _), (0, _), (1, _), (2, _), (3, _), (6, _)]) 115 rfl dX5_agreement_113 (by decide) rfl ?_
                      refine wm_iinc (ls' := [(6, _), (5, _), (4, _), (7, _), (0, _), (1, _), (2, _), (3, _)]) 118 rfl dX5_agreement_115 rfl (nI_inc _) (by decide) rfl ?_
                      refine wm_goto 16 (by decide) dX5_agreement_118 ?_
                      refine wm_loc (ls2 := [(0, _), (1, _), (2, _), (3, _), (4, _), (5, _), (6, _)]) [4, 5, 6, 7, 2, 1, 0] rfl ?_
                      exact ih (n - (j + 1)) (by omega) (j + 1) rfl (by omega) trivial
                    · rw [nI_clamp (by omega), hS0.2.row (a := 35 + j) (by omega) (by omega) (by omega), hS0.2.row (a := 35 + x) (by omega) (by omega) (by omega)] at c104
                      refine wm_iconst (v := 1) 108 rfl dX5_agreement_107 (by decide) ?_
                      refine wm_goto 112 (by decide) dX5_agreement_108 ?_
                      refine wm_iadd 113 rfl dX5_agreement_112 ?_
                      first
                        | rw [show nI (cq (fun y => tfM σ n (gM σ n p 2) ((gM σ n p 2) a) i y ∧ σ (35 + y) i = σ (35 + x) i) j) + 0 = nI (cq (fun y => tfM σ n (gM σ n p 2) ((gM σ n p 2) a) i y ∧ σ (35 + y) i = σ (35 + x) i) (j + 1)) by rw [cq_f (P := (fun y => tfM σ n (gM σ n p 2) ((gM σ n p 2) a) i y ∧ σ (35 + y) i = σ (35 + x) i)) (by first | exact fun q => zp_0.mp c42 q.1.1 | exact fun q => q.1.2 c55 | exact fun q => c104 q.2)]; exact Int32.add_zero _]
                        | rw [show nI (cq (fun y => tfM σ n (gM σ n p 2) ((gM σ n p 2) a) i y ∧ σ (35 + y) i = σ (35 + x) i) j) + 1 = nI (cq (fun y => tfM σ n (gM σ n p 2) ((gM σ n p 2) a) i y ∧ σ (35 + y) i = σ (35 + x) i) (j + 1)) by rw [cq_t (P := (fun y => tfM σ n (gM σ n p 2) ((gM σ n p 2) a) i y ∧ σ (35 + y) i = σ (35 + x) i)) (⟨⟨zp_n.mp c42, c55⟩, c104⟩)]; exact nI_1 _]
                      refine wm_istore (ls' := [(5, _), (4, _), (7, _), (0, _), (1, _), (2, _), (3, _), (6, _)]) 115 rfl dX5_agreement_113 (by decide) rfl ?_
                      refine wm_iinc (ls' := [(6, _), (5, _), (4, _), (7, _), (0, _), (1, _), (2, _), (3, _)]) 118 rfl dX5_agreement_115 rfl (nI_inc _) (by decide) rfl ?_
                      refine wm_goto 16 (by decide) dX5_agreement_118 ?_
                      refine wm_loc (ls2 := [(0, _), (1, _), (2, _), (3, _), (4, _), (5, _), (6, _)]) [4, 5, 6, 7, 2, 1, 0] rfl ?_
                      exact ih (n - (j + 1)) (by omega) (j + 1) rfl (by omega) trivial
    exact lp n 0 rfl (Nat.zero_le _) trivial
