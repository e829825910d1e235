theorem pf_X5_83_4 : zPF RX5 83 4 10 := ⟨RX5, TX5, 18, "AssetmergeModel", tyX5, rfl, zin_X5, by decide, aw_12_7, rfl, tyX5_ok, nmX5, rfl, by decide +kernel⟩
theorem ca_X5_countedPairs : zCal yX5_countedPairs cX5_countedPairs 3 (some .int) 0 := ⟨aw_12_15, aw_1_5, by decide +kernel, by decide +kernel, by decide +kernel⟩
theorem cv_X5_countedPairs : zCaV RX5 yX5_countedPairs := ⟨aw_12_13, aw_12_14⟩
theorem ca_X5_raises : zCal yX5_raises cX5_raises 2 (some .int) 1 := ⟨aw_13_17, aw_1_5, by decide +kernel, by decide +kernel, by decide +kernel⟩
theorem cv_X5_raises : zCaV RX5 yX5_raises := ⟨aw_13_15, aw_13_16⟩
theorem ca_X5_thing : zCal yX5_thing cX5_thing 2 (some .int) 1 := ⟨aw_18_22, aw_1_5, by decide +kernel, by decide +kernel, by decide +kernel⟩
theorem cv_X5_thing : zCaV RX5 yX5_thing := ⟨aw_18_20, aw_18_21⟩
theorem ca_X5_thingMany : zCal yX5_thingMany cX5_thingMany 3 (some .int) 0 := ⟨aw_21_15, aw_1_5, by decide +kernel, by decide +kernel, by decide +kernel⟩
theorem cv_X5_thingMany : zCaV RX5 yX5_thingMany := ⟨aw_21_13, aw_21_14⟩
/-! THE MODEL'S CALLS: pairs and things -/
theorem prI_no {σ : Sg} {p a b : Nat} {v : Int32} (h : prI σ p a b v) (hp : p ≤ 12) : v = -1 ↔ ¬ ∃ i, i < p ∧ mtc σ a b i := by
  rcases h with ⟨i, hi, e, h1, h2⟩ | ⟨e, h1⟩
  · constructor
    · intro q; exact absurd (e.symm.trans q) (nI_ne_m1 (by omega))
    · intro q; exact absurd ⟨i, hi, h1⟩ q
  · exact ⟨fun _ ⟨i, hi, q⟩ => h1 i hi q, fun _ => e⟩
theorem mQ_put {σ X : Sg} {n p a b : Nat} (h7 : X 7 = σ 7) (h8 : X 8 = σ 8) (hQ : mQ σ n p) (ha : a < n) (hb : b < n) (hab : a ≠ b) (v : Int32) : mQ (zu (zu (zu X 7 p (nI a)) 8 p (nI b)) 0 10 v) n (p + 1) := by
  have e7 : ∀ i, zu (zu (zu X 7 p (nI a)) 8 p (nI b)) 0 10 v 7 i = if i = p then nI a else σ 7 i := by
    intro i
    rw [← h7]
    rfl
  have e8 : ∀ i, zu (zu (zu X 7 p (nI a)) 8 p (nI b)) 0 10 v 8 i = if i = p then nI b else σ 8 i := by
    intro i
    rw [← h8]
    rfl
  intro i hi
  by_cases e : i = p
  · exact ⟨a, b, by rw [e7, if_pos e], by rw [e8, if_pos e], ha, hb, hab⟩
  · obtain ⟨x, y, h1, h2, h3⟩ := hQ i (by omega)
    exact ⟨x, y, by rw [e7, if_neg e]; exact h1, by rw [e8, if_neg e]; exact h2, h3⟩
theorem mQ_del {σ X : Sg} {n q i : Nat} (h7 : X 7 = σ 7) (h8 : X 8 = σ 8) (hQ : mQ σ n (q + 1)) (hi : i < q + 1) (v : Int32) : mQ (zu (zu (zu X 0 10 v) 7 i (σ 7 q)) 8 i (σ 8 q)) n q := by
  have e7 : ∀ j, zu (zu (zu X 0 10 v) 7 i (σ 7 q)) 8 i (σ 8 q) 7 j = if j = i then σ 7 q else σ 7 j := by
    intro j
    rw [← h7]
    rfl
  have e8 : ∀ j, zu (zu (zu X 0 10 v) 7 i (σ 7 q)) 8 i (σ 8 q) 8 j = if j = i then σ 8 q else σ 8 j := by
    intro j
    rw [← h8]
    rfl
  intro j hj
  by_cases e : j = i
  · obtain ⟨x, y, h1, h2, h3⟩ := hQ q (by omega)
    exact ⟨x, y, by rw [e7, if_pos e]; exact h1, by rw [e8, if_pos e]; exact h2, h3⟩
  · obtain ⟨x, y, h1, h2, h3⟩ := hQ j (by omega)
    exact ⟨x, y, by rw [e7, if_neg e]; exact h1, by rw [e8, if_neg e]; exact h2, h3⟩
theorem fM_S {σ τ υ : Sg} {n p : Nat} {c : Int32} (h : fM σ n p τ υ) (hc : τ 0 13 = c) : mS c σ υ := ⟨by rw [h.1 0 (by decide) (by decide)]; exact hc, h.2.1⟩
theorem mS_r {c : Int32} {σ υ : Sg} (h : stM σ υ) : mS c σ (zu υ 0 13 c) := ⟨by simp [zu], h.tr (stM_thr υ c)⟩
theorem cq_up {P : Nat → Prop} : ∀ {j x : Nat}, x < j → P x → cq P x < cq P j
  | 0, x, h, _ => absurd h (Nat.not_lt_zero x)
  | j + 1, x, h, hp => by
    by_cases e : x = j
    · subst e; rw [cq_t hp]; omega
    · have ih := cq_up (P := P) (j := j) (x := x) (by omega) hp
      by_cases q : P j
      · rw [cq_t q]; omega
      · rw [cq_f q]; omega
/-- chains of steps over the same records tell the same groups -/
theorem chn_uniq {n : Nat} {lv lv' : Nat → Prop} {ky ky' : Nat → Nat → Int32} {fb fb' : Nat → Nat → Prop} {k : Nat} {g g' : Nat → Nat → Nat} (h : chn n lv ky fb k g) (h' : chn n lv' ky' fb' k g')
    (h1 : ∀ r, r < n → (lv r ↔ lv' r)) (h2 : ∀ s r, s < k → r < n → ky s r = ky' s r) (h3 : ∀ a b, a < n → b < n → lv a → lv b → (fb a b ↔ fb' a b)) : ∀ s, s < k → ∀ r, r < n → g s r = g' s r
  | 0, hs, r, hr => stq_uniq (h 0 hs) (h' 0 hs) (fun _ _ => rfl) h1 (fun s r q hr => h2 s r (by omega) hr) h3 hr
  | s + 1, hs, r, hr => stq_uniq (h (s + 1) hs) (h' (s + 1) hs) (fun x hx => chn_uniq h h' h1 h2 h3 s (by omega) x hx) h1 (fun t r q hr => h2 t r (by omega) hr) h3 hr
def mbxM (σ : Sg) (n p : Nat) (r ix : Int32) (x : Nat) : Prop := ∃ a, r = nI a ∧ a < n ∧ σ 6 a = 0 ∧ x < n ∧ mbM σ n (gM σ n p 2) (gM σ n p 2 a) x ∧ ix = nI (cq (mbM σ n (gM σ n p 2) (gM σ n p 2 a)) x)
def tgM (σ : Sg) (n p : Nat) (r o : Int32) (k : Nat) : Prop := ∃ a b g, r = nI a ∧ o = nI b ∧ a < n ∧ b < n ∧ k < 3 ∧ chM σ n p (k + 1) g ∧ g k a = g k b
theorem k_X5_forbid (l : Launch) {σ : Sg} {n p : Nat} (hI : mI σ n) (hP : mP σ p) (hQ : mQ σ n p) (r o : Int32) : cMi l yX5_forbid cX5_forbid 3 .int 2 Lm [.ref 0, .int r, .int o] σ (fun v σ1 => mTh σ σ1 [(1, rcM σ n r), (1, rcM σ n o), (2, r ≠ o), (3, ¬ frM σ p r o), (3, p < 12)] (∃ a b, r = nI a ∧ o = nI b ∧ (a < n ∧ σ 6 a = 0) ∧ (b < n ∧ σ 6 b = 0) ∧ mS 0 (zu (zu (zu σ 7 p (nI a)) 8 p (nI b)) 0 10 (nI (p + 1))) σ1 ∧ v = nI (cq (cpM (zu (zu (zu σ 7 p (nI a)) 8 p (nI b)) 0 10 (nI (p + 1)))) (p + 1)))) := by
  have h24 := hI.2
  have h12 := hP.2
  refine zMet_of (by decide +kernel) (Nat.le_of_ble_eq_true rfl) (fun D cT ad sz => ?_)
  show Wm (fun _ _ => True) l (rmh 2) RX5 cX5_forbid 3 (some .int) D cT ad Lm (zA ad Lm.length sz) (zZ (fun D cT ad L9 sz => zQi D cT ad L9 sz (fun v σ1 => mTh σ σ1 [(1, rcM σ n r), (1, rcM σ n o), (2, r ≠ o), (3, ¬ frM σ p r o), (3, p < 12)] (∃ a b, r = nI a ∧ o = nI b ∧ (a < n ∧ σ 6 a = 0) ∧ (b < n ∧ σ 6 b = 0) ∧ mS 0 (zu (zu (zu σ 7 p (nI a)) 8 p (nI b)) 0 10 (nI (p + 1))) σ1 ∧ v = nI (cq (cpM (zu (zu (zu σ 7 p (nI a)) 8 p (nI b)) 0 10 (nI (p + 1)))) (p + 1))))) D cT ad Lm sz) [] 0 (lv_args 0 [.ref 0, .int r, .int o]) [] σ 0 0
  refine wm_aload_n 1 rfl dX5_forbid_0 rfl rfl ?_
  refine wm_aload_n 2 rfl dX5_forbid_1 rfl rfl ?_
  refine wm_iload_n 3 rfl dX5_forbid_2 rfl rfl ?_
  refine wm_callVi (ty := .boolean) 6 rfl dX5_forbid_3 (k_X5_isRecord l hI _) ca_X5_isRecord cv_X5_isRecord rfl aw_8_10 rfl rfl ⟨Nat.le_of_ble_eq_true rfl, Nat.le_of_ble_eq_true rfl⟩ (Nat.le_of_ble_eq_true rfl) ⟨Nat.zero_le _, Nat.zero_le _⟩ ?_
  rintro r9 σ9 ⟨rfl, rfl⟩
  refine wm_if_eq 17 9 rfl (by decide) dX5_forbid_6 (fun c6 => ?_) (fun c6 => ?_)
  · refine wm_iconst (v := 1) 18 rfl dX5_forbid_17 (by decide) ?_
    refine wm_goto 54 (by decide) dX5_forbid_18 ?_
    refine wm_putI 57 rfl dX5_forbid_54 pf_X5_53_4 rfl rfl ?_
    refine wm_aload_n 58 rfl dX5_forbid_57 rfl rfl ?_
    refine wm_getI 61 rfl dX5_forbid_58 gf_X5_53_4 rfl rfl ?_
    refine wm_if_le 66 64 rfl (by decide) dX5_forbid_61 (fun c61 => ?_) (fun c61 => ?_)
    · exact absurd (show (1 : Int32) ≤ 0 from c61) (by decide)
    · refine wm_iconst (v := 0) 65 rfl dX5_forbid_64 (by decide) ?_
      exact wm_iret dX5_forbid_65 (by first | rfl | exact zp_nar) (by first
  | exact Or.inl ⟨zp_0.mp c6, mS_thr _ _⟩
  | exact Or.inr ⟨zp_n.mp c6, Or.inl ⟨zp_0.mp c14, mS_thr _ _⟩⟩
  | exact Or.inr ⟨zp_n.mp c6, Or.inr ⟨zp_n.mp c14, Or.inl ⟨fun q => q c23, mS_thr _ _⟩⟩⟩
  | exact Or.inr ⟨f1, Or.inr ⟨f2, Or.inr ⟨c23, Or.inl ⟨n4, mS_thr _ _⟩⟩⟩⟩
  | exact Or.inr ⟨f1, Or.inr ⟨f2, Or.inr ⟨c23, Or.inr ⟨p4, Or.inl ⟨q46, mS_thr _ _⟩⟩⟩⟩⟩)
  · refine wm_aload_n 10 rfl dX5_forbid_9 rfl rfl ?_
    refine wm_iload_n 11 rfl dX5_forbid_10 rfl rfl ?_
    refine wm_callVi (ty := .boolean) 14 rfl dX5_forbid_11 (k_X5_isRecord l hI _) ca_X5_isRecord cv_X5_isRecord rfl aw_8_10 rfl rfl ⟨Nat.le_of_ble_eq_true rfl, Nat.le_of_ble_eq_true rfl⟩ (Nat.le_of_ble_eq_true rfl) ⟨Nat.zero_le _, Nat.zero_le _⟩ ?_
    rintro r9 σ9 ⟨rfl, rfl⟩
    refine wm_if_ne 21 17 rfl (by decide) dX5_forbid_14 (fun c14 => ?_) (fun c14 => ?_)
    · refine wm_iload_n 22 rfl dX5_forbid_21 rfl rfl ?_
      refine wm_iload_n 23 rfl dX5_forbid_22 rfl rfl ?_
      refine wm_icmp_ne 30 26 rfl (by decide) dX5_forbid_23 (fun c23 => ?_) (fun c23 => ?_)
      · obtain ⟨a, rfl, ha, ha6⟩ := zp_n.mp c6
        obtain ⟨b, rfl, hb, hb6⟩ := zp_n.mp c14
        have hab : a ≠ b := fun q => c23 (by rw [q])
        have f1 : rcM σ n (nI a) := ⟨a, rfl, ha, ha6⟩
        have f2 : rcM σ n (nI b) := ⟨b, rfl, hb, hb6⟩
        refine wm_aload_n 31 rfl dX5_forbid_30 rfl rfl ?_
        refine wm_iload_n 32 rfl dX5_forbid_31 rfl rfl ?_
        refine wm_iload_n 33 rfl dX5_forbid_32 rfl rfl ?_
        refine wm_callVi (ty := .int) 36 rfl dX5_forbid_33 (k_X5_pair l (stM.rf σ) hP (a := a) (b := b)) ca_X5_pair cv_X5_pair rfl aw_12_8 rfl rfl ⟨Nat.le_of_ble_eq_true rfl, Nat.le_of_ble_eq_true rfl⟩ (Nat.le_of_ble_eq_true rfl) ⟨Nat.zero_le _, Nat.zero_le _⟩ ?_
        rintro r9 σ9 ⟨rfl, hpr⟩
        refine wm_iconst (v := (-1)) 37 rfl dX5_forbid_36 (by decide) ?_
        refine wm_icmp_ne 49 40 rfl (by decide) dX5_forbid_37 (fun c37 => ?_) (fun c37 => ?_)
        · have n4 : ¬ ¬ frM σ p (nI a) (nI b) := fun q => c37 ((prI_no hpr hP.2).mpr (fun w => q ((frM_n (by omega) (by omega)).mpr w)))
          refine wm_iconst (v := 3) 50 rfl dX5_forbid_49 (by decide) ?_
          refine wm_goto 54 (by decide) dX5_forbid_50 ?_
          refine wm_putI 57 rfl dX5_forbid_54 pf_X5_53_4 rfl rfl ?_
          refine wm_aload_n 58 rfl dX5_forbid_57 rfl rfl ?_
          refine wm_getI 61 rfl dX5_forbid_58 gf_X5_53_4 rfl rfl ?_
          refine wm_if_le 66 64 rfl (by decide) dX5_forbid_61 (fun c61 => ?_) (fun c61 => ?_)
          · exact absurd (show (3 : Int32) ≤ 0 from c61) (by decide)
          · refine wm_iconst (v := 0) 65 rfl dX5_forbid_64 (by decide) ?_
            exact wm_iret dX5_forbid_65 (by first | rfl | exact zp_nar) (by first
  | exact Or.inl ⟨zp_0.mp c6, mS_thr _ _⟩
  | exact Or.inr ⟨zp_n.mp c6, Or.inl ⟨zp_0.mp c14, mS_thr _ _⟩⟩
  | exact Or.inr ⟨zp_n.mp c6, Or.inr ⟨zp_n.mp c14, Or.inl ⟨fun q => q c23, mS_thr _ _⟩⟩⟩
  | exact Or.inr ⟨f1, Or.inr ⟨f2, Or.inr ⟨c23, Or.inl ⟨n4, mS_thr _ _⟩⟩⟩⟩
  | exact Or.inr ⟨f1, Or.inr ⟨f2, Or.inr ⟨c23, Or.inr ⟨p4, Or.inl ⟨q46, mS_thr _ _⟩⟩⟩⟩⟩)
        · have p4 : ¬ frM σ p (nI a) (nI b) := fun q => (prI_no hpr hP.2).mp c37 ((frM_n (by omega) (by omega)).mp q)
          refine wm_aload_n 41 rfl dX5_forbid_40 rfl rfl ?_
          refine wm_getI 44 rfl dX5_forbid_41 gf_X5_83_4 rfl rfl ?_
          refine wm_bipush (v := 12) 46 rfl dX5_forbid_44 (by decide) ?_
          refine wm_icmp_ne 53 49 rfl (by decide) dX5_forbid_46 (fun c46 => ?_) (fun c46 => ?_)
          · rw [hP.1] at c46
            have q46 : p < 12 := by have := ne_of_nnI (b := 12) c46; omega
            refine wm_iconst (v := 0) 54 rfl dX5_forbid_53 (by decide) ?_
            refine wm_putI 57 rfl dX5_forbid_54 pf_X5_53_4 rfl rfl ?_
            refine wm_aload_n 58 rfl dX5_forbid_57 rfl rfl ?_
            refine wm_getI 61 rfl dX5_forbid_58 gf_X5_53_4 rfl rfl ?_
            refine wm_if_le 66 64 rfl (by decide) dX5_forbid_61 (fun c61 => ?_) (fun c61 => ?_)
            · refine wm_aload_n 67 rfl dX5_forbid_66 rfl rfl ?_
              refine wm_getR 70 rfl dX5_forbid_67 gf_X5_31_4 rfl rfl ?_
              refine wm_aload_n 71 rfl dX5_forbid_70 rfl rfl ?_
              refine wm_getI 74 rfl dX5_forbid_71 gf_X5_83_4 rfl rfl ?_
              refine wm_iload_n 75 rfl dX5_forbid_74 rfl rfl ?_
              rw [show zu σ 0 13 0 0 10 = nI p from hP.1]
              refine wm_iastore 76 rfl dX5_forbid_75 rfl (vp_in_nI q46 (by omega)) ?_
              rw [nI_clamp (by omega)]
              refine wm_aload_n 77 rfl dX5_forbid_76 rfl rfl ?_
              refine wm_getR 80 rfl dX5_forbid_77 gf_X5_34_4 rfl rfl ?_
              refine wm_aload_n 81 rfl dX5_forbid_80 rfl rfl ?_
              refine wm_getI 84 rfl dX5_forbid_81 gf_X5_83_4 rfl rfl ?_
              refine wm_iload_n 85 rfl dX5_forbid_84 rfl rfl ?_
              rw [show zu (zu σ 0 13 0) 7 p (nI a) 0 10 = nI p from hP.1]
              refine wm_iastore 86 rfl dX5_forbid_85 rfl (vp_in_nI q46 (by omega)) ?_
              rw [nI_clamp (by omega)]
              refine wm_aload_n 87 rfl dX5_forbid_86 rfl rfl ?_
              refine wm_dup 88 rfl rfl dX5_forbid_87 ?_
              refine wm_getI 91 rfl dX5_forbid_88 gf_X5_83_4 rfl rfl ?_
              refine wm_iconst (v := 1) 92 rfl dX5_forbid_91 (by decide) ?_
              refine wm_iadd 93 rfl dX5_forbid_92 ?_
              rw [show zu (zu (zu σ 0 13 0) 7 p (nI a)) 8 p (nI b) 0 10 = nI p from hP.1, nI_1]
              refine wm_putI 96 rfl dX5_forbid_93 pf_X5_83_4 rfl rfl ?_
              refine wm_aload_n 97 rfl dX5_forbid_96 rfl rfl ?_
              refine wm_callVi (ty := .int) 100 rfl dX5_forbid_97 (k_X5_countedPairs l (σ := zu (zu (zu (zu σ 0 13 0) 7 p (nI a)) 8 p (nI b)) 0 10 (nI (p + 1))) (n := n) (p := p + 1) h24 ⟨rfl, by omega⟩ (mQ_put (σ := σ) rfl rfl hQ ha hb hab _)) ca_X5_countedPairs cv_X5_countedPairs rfl aw_12_12 rfl rfl ⟨Nat.le_of_ble_eq_true rfl, Nat.le_of_ble_eq_true rfl⟩ (Nat.le_of_ble_eq_true rfl) ⟨Nat.zero_le _, Nat.zero_le _⟩ ?_
              rintro r9 σ9 ⟨rfl, rfl⟩
              exact wm_iret dX5_forbid_100 (by first | rfl | exact zp_nar) (Or.inr ⟨f1, Or.inr ⟨f2, Or.inr ⟨c23, Or.inr ⟨p4, Or.inr ⟨q46, ⟨a, b, rfl, rfl, ⟨ha, ha6⟩, ⟨hb, hb6⟩, (mS_zz (mS_zz (mS_zz (mS_thr 0 σ) _ (fun e => by omega)) _ (fun e => by omega)) _ (fun _ => by decide)), rfl⟩⟩⟩⟩⟩⟩)
            · exact absurd (show (0 : Int32) ≤ 0 by decide) (show ¬ (0 : Int32) ≤ 0 from c61)
          · rw [hP.1] at c46
            have q46 : ¬ p < 12 := by have := eq_of_nI (b := 12) c46 (by omega) (by omega); omega
            refine wm_iconst (v := 3) 50 rfl dX5_forbid_49 (by decide) ?_
            refine wm_goto 54 (by decide) dX5_forbid_50 ?_
            refine wm_putI 57 rfl dX5_forbid_54 pf_X5_53_4 rfl rfl ?_
            refine wm_aload_n 58 rfl dX5_forbid_57 rfl rfl ?_
            refine wm_getI 61 rfl dX5_forbid_58 gf_X5_53_4 rfl rfl ?_
            refine wm_if_le 66 64 rfl (by decide) dX5_forbid_61 (fun c61 => ?_) (fun c61 => ?_)
            · exact absurd (show (3 : Int32) ≤ 0 from c61) (by decide)
            · refine wm_iconst (v := 0) 65 rfl dX5_forbid_64 (by decide) ?_
              exact wm_iret dX5_forbid_65 (by first | rfl | exact zp_nar) (by first
  | exact Or.inl ⟨zp_0.mp c6, mS_thr _ _⟩
  | exact Or.inr ⟨zp_n.mp c6, Or.inl ⟨zp_0.mp c14, mS_thr _ _⟩⟩
  | exact Or.inr ⟨zp_n.mp c6, Or.inr ⟨zp_n.mp c14, Or.inl ⟨fun q => q c23, mS_thr _ _⟩⟩⟩
  | exact Or.inr ⟨f1, Or.inr ⟨f2, Or.inr ⟨c23, Or.inl ⟨n4, mS_thr _ _⟩⟩⟩⟩
  | exact Or.inr ⟨f1, Or.inr ⟨f2, Or.inr ⟨c23, Or.inr ⟨p4, Or.inl ⟨q46, mS_thr _ _⟩⟩⟩⟩⟩)
      · refine wm_iconst (v := 2) 27 rfl dX5_forbid_26 (by decide) ?_
        refine wm_goto 54 (by decide) dX5_forbid_27 ?_
        refine wm_putI 57 rfl dX5_forbid_54 pf_X5_53_4 rfl rfl ?_
        refine wm_aload_n 58 rfl dX5_forbid_57 rfl rfl ?_
        refine wm_getI 61 rfl dX5_forbid_58 gf_X5_53_4 rfl rfl ?_
        refine wm_if_le 66 64 rfl (by decide) dX5_forbid_61 (fun c61 => ?_) (fun c61 => ?_)
        · exact absurd (show (2 : Int32) ≤ 0 from c61) (by decide)
        · refine wm_iconst (v := 0) 65 rfl dX5_forbid_64 (by decide) ?_
          exact wm_iret dX5_forbid_65 (by first | rfl | exact zp_nar) (by first
  | exact Or.inl ⟨zp_0.mp c6, mS_thr _ _⟩
  | exact Or.inr ⟨zp_n.mp c6, Or.inl ⟨zp_0.mp c14, mS_thr _ _⟩⟩
  | exact Or.inr ⟨zp_n.mp c6, Or.inr ⟨zp_n.mp c14, Or.inl ⟨fun q => q c23, mS_thr _ _⟩⟩⟩
  | exact Or.inr ⟨f1, Or.inr ⟨f2, Or.inr ⟨c23, Or.inl ⟨n4, mS_thr _ _⟩⟩⟩⟩
  | exact Or.inr ⟨f1, Or.inr ⟨f2, Or.inr ⟨c23, Or.inr ⟨p4, Or.inl ⟨q46, mS_thr _ _⟩⟩⟩⟩⟩)
    · refine wm_iconst (v := 1) 18 rfl dX5_forbid_17 (by decide) ?_
      refine wm_goto 54 (by decide) dX5_forbid_18 ?_
      refine wm_putI 57 rfl dX5_forbid_54 pf_X5_53_4 rfl rfl ?_
      refine wm_aload_n 58 rfl dX5_forbid_57 rfl rfl ?_
      refine wm_getI 61 rfl dX5_forbid_58 gf_X5_53_4 rfl rfl ?_
      refine wm_if_le 66 64 rfl (by decide) dX5_forbid_61 (fun c61 => ?_) (fun c61 => ?_)
      · exact absurd (show (1 : Int32) ≤ 0 from c61) (by decide)
      · refine wm_iconst (v := 0) 65 rfl dX5_forbid_64 (by decide) ?_
        exact wm_iret dX5_forbid_65 (by first | rfl | exact zp_nar) (by first
  | exact Or.inl ⟨zp_0.mp c6, mS_thr _ _⟩
  | exact Or.inr ⟨zp_n.mp c6, Or.inl ⟨zp_0.mp c14, mS_thr _ _⟩⟩
  | exact Or.inr ⟨zp_n.mp c6, Or.inr ⟨zp_n.mp c14, Or.inl ⟨fun q => q c23, mS_thr _ _⟩⟩⟩
  | exact Or.inr ⟨f1, Or.inr ⟨f2, Or.inr ⟨c23, Or.inl ⟨n4, mS_thr _ _⟩⟩⟩⟩
  | exact Or.inr ⟨f1, Or.inr ⟨f2, Or.inr ⟨c23, Or.inr ⟨p4, Or.inl ⟨q46, mS_thr _ _⟩⟩⟩⟩⟩)
theorem k_X5_allow (l : Launch) {σ : Sg} {n p : Nat} (hI : mI σ n) (hP : mP σ p) (hQ : mQ σ n p) (r o : Int32) : cMi l yX5_allow cX5_allow 4 .int 2 Lm [.ref 0, .int r, .int o] σ (fun v σ1 => mTh σ σ1 [(1, rcM σ n r), (1, rcM σ n o), (2, frM σ p r o)] (∃ a b i q, r = nI a ∧ o = nI b ∧ (a < n ∧ σ 6 a = 0) ∧ (b < n ∧ σ 6 b = 0) ∧ p = q + 1 ∧ i < p ∧ mtc σ a b i ∧ (∀ j, j < i → ¬ mtc σ a b j) ∧ mS 0 (zu (zu (zu σ 0 10 (nI q)) 7 i (σ 7 q)) 8 i (σ 8 q)) σ1 ∧ v = nI (cq (cpM (zu (zu (zu σ 0 10 (nI q)) 7 i (σ 7 q)) 8 i (σ 8 q))) q))) := by
  have h24 := hI.2
  have h12 := hP.2
  refine zMet_of (by decide +kernel) (Nat.le_of_ble_eq_true rfl) (fun D cT ad sz => ?_)
  show Wm (fun _ _ => True) l (rmh 2) RX5 cX5_allow 4 (some .int) D cT ad Lm (zA ad Lm.length sz) (zZ (fun D cT ad L9 sz => zQi D cT ad L9 sz (fun v σ1 => mTh σ σ1 [(1, rcM σ n r), (1, rcM σ n o), (2, frM σ p r o)] (∃ a b i q, r = nI a ∧ o = nI b ∧ (a < n ∧ σ 6 a = 0) ∧ (b < n ∧ σ 6 b = 0) ∧ p = q + 1 ∧ i < p ∧ mtc σ a b i ∧ (∀ j, j < i → ¬ mtc σ a b j) ∧ mS 0 (zu (zu (zu σ 0 10 (nI q)) 7 i (σ 7 q)) 8 i (σ 8 q)) σ1 ∧ v = nI (cq (cpM (zu (zu (zu σ 0 10 (nI q)) 7 i (σ 7 q)) 8 i (σ 8 q))) q)))) D cT ad Lm sz) [] 0 (lv_args 0 [.ref 0, .int r, .int o]) [] σ 0 0
  refine wm_aload_n 1 rfl dX5_allow_0 rfl rfl ?_
  refine wm_iload_n 2 rfl dX5_allow_1 rfl rfl ?_
  refine wm_callVi (ty := .boolean) 5 rfl dX5_allow_2 (k_X5_isRecord l hI _) ca_X5_isRecord cv_X5_isRecord rfl aw_8_10 rfl rfl ⟨Nat.le_of_ble_eq_true rfl, Nat.le_of_ble_eq_true rfl⟩ (Nat.le_of_ble_eq_true rfl) ⟨Nat.zero_le _, Nat.zero_le _⟩ ?_
  rintro r9 σ9 ⟨rfl, rfl⟩
  refine wm_if_eq 16 8 rfl (by decide) dX5_allow_5 (fun c5 => ?_) (fun c5 => ?_)
  · refine wm_aload_n 17 rfl dX5_allow_16 rfl rfl ?_
    refine wm_iconst (v := 1) 18 rfl dX5_allow_17 (by decide) ?_
    refine wm_callVi (ty := .int) 21 rfl dX5_allow_18 (k_X5_raises l 1) ca_X5_raises cv_X5_raises rfl aw_13_14 rfl rfl ⟨Nat.le_of_ble_eq_true rfl, Nat.le_of_ble_eq_true rfl⟩ (Nat.le_of_ble_eq_true rfl) ⟨Nat.zero_le _, Nat.zero_le _⟩ ?_
    rintro r9 σ9 ⟨rfl, rfl⟩
    exact wm_iret dX5_allow_21 (by first | rfl | exact zp_nar) (by first | exact Or.inl ⟨zp_0.mp c5, mS_thr _ _⟩ | exact Or.inr ⟨zp_n.mp c5, Or.inl ⟨zp_0.mp c13, mS_thr _ _⟩⟩)
  · refine wm_aload_n 9 rfl dX5_allow_8 rfl rfl ?_
    refine wm_iload_n 10 rfl dX5_allow_9 rfl rfl ?_
    refine wm_callVi (ty := .boolean) 13 rfl dX5_allow_10 (k_X5_isRecord l hI _) ca_X5_isRecord cv_X5_isRecord rfl aw_8_10 rfl rfl ⟨Nat.le_of_ble_eq_true rfl, Nat.le_of_ble_eq_true rfl⟩ (Nat.le_of_ble_eq_true rfl) ⟨Nat.zero_le _, Nat.zero_le _⟩ ?_
    rintro r9 σ9 ⟨rfl, rfl⟩
    refine wm_if_ne 22 16 rfl (by decide) dX5_allow_13 (fun c13 => ?_) (fun c13 => ?_)
    · obtain ⟨a, rfl, ha, ha6⟩ := zp_n.mp c5
      obtain ⟨b, rfl, hb, hb6⟩ := zp_n.mp c13
      have f1 : rcM σ n (nI a) := ⟨a, rfl, ha, ha6⟩
      have f2 : rcM σ n (nI b) := ⟨b, rfl, hb, hb6⟩
      refine wm_aload_n 23 rfl dX5_allow_22 rfl rfl ?_
      refine wm_iload_n 24 rfl dX5_allow_23 rfl rfl ?_
      refine wm_iload_n 25 rfl dX5_allow_24 rfl rfl ?_
      refine wm_callVi (ty := .int) 28 rfl dX5_allow_25 (k_X5_pair l (stM.rf σ) hP (a := a) (b := b)) ca_X5_pair cv_X5_pair rfl aw_12_8 rfl rfl ⟨Nat.le_of_ble_eq_true rfl, Nat.le_of_ble_eq_true rfl⟩ (Nat.le_of_ble_eq_true rfl) ⟨Nat.zero_le _, Nat.zero_le _⟩ ?_
      rintro r9 σ9 ⟨rfl, hpr⟩
      refine wm_istore_n (ls' := [(3, _), (0, _), (1, _), (2, _)]) 29 rfl dX5_allow_28 rfl (by decide) rfl ?_
      refine wm_aload_n 30 rfl dX5_allow_29 rfl rfl ?_
      refine wm_iload_n 31 rfl dX5_allow_30 rfl rfl ?_
      refine wm_iconst (v := (-1)) 32 rfl dX5_allow_31 (by decide) ?_
      refine wm_icmp_ne 39 35 rfl (by decide) dX5_allow_32 (fun c32 => ?_) (fun c32 => ?_)
      · refine wm_iconst (v := 0) 40 rfl dX5_allow_39 (by decide) ?_
        refine wm_putI 43 rfl dX5_allow_40 pf_X5_53_4 rfl rfl ?_
        refine wm_aload_n 44 rfl dX5_allow_43 rfl rfl ?_
        refine wm_getI 47 rfl dX5_allow_44 gf_X5_53_4 rfl rfl ?_
        refine wm_if_le 52 50 rfl (by decide) dX5_allow_47 (fun c47 => ?_) (fun c47 => ?_)
        · rcases hpr with ⟨i, hi, rfl, hm1, hm2⟩ | ⟨e9, -⟩
          rotate_left
          · exact absurd e9 c32
          obtain ⟨q, rfl⟩ : ∃ q, p = q + 1 := ⟨p - 1, by omega⟩
          have f3 : frM σ (q + 1) (nI a) (nI b) := (frM_n (by omega) (by omega)).mpr ⟨i, hi, hm1⟩
          refine wm_aload_n 53 rfl dX5_allow_52 rfl rfl ?_
          refine wm_dup 54 rfl rfl dX5_allow_53 ?_
          refine wm_getI 57 rfl dX5_allow_54 gf_X5_83_4 rfl rfl ?_
          refine wm_iconst (v := 1) 58 rfl dX5_allow_57 (by decide) ?_
          refine wm_isub 59 rfl dX5_allow_58 ?_
          rw [show zu σ 0 13 0 0 10 = nI (q + 1) from hP.1, nI_prd]
          refine wm_putI 62 rfl dX5_allow_59 pf_X5_83_4 rfl rfl ?_
          refine wm_aload_n 63 rfl dX5_allow_62 rfl rfl ?_
          refine wm_getR 66 rfl dX5_allow_63 gf_X5_31_4 rfl rfl ?_
          refine wm_iload_n 67 rfl dX5_allow_66 rfl rfl ?_
          refine wm_aload_n 68 rfl dX5_allow_67 rfl rfl ?_
          refine wm_getR 71 rfl dX5_allow_68 gf_X5_31_4 rfl rfl ?_
          refine wm_aload_n 72 rfl dX5_allow_71 rfl rfl ?_
          refine wm_getI 75 rfl dX5_allow_72 gf_X5_83_4 rfl rfl ?_
          rw [show zu (zu σ 0 13 0) 0 10 (nI q) 0 10 = nI q from rfl]
          refine wm_iaload 76 rfl dX5_allow_75 rfl (vp_in_nI (by omega) (by omega)) ?_
          rw [nI_clamp (by omega), show zu (zu σ 0 13 0) 0 10 (nI q) 7 q = σ 7 q from rfl]
          refine wm_iastore 77 rfl dX5_allow_76 rfl (vp_in_nI (by omega) (by omega)) ?_
          rw [nI_clamp (by omega)]
          refine wm_aload_n 78 rfl dX5_allow_77 rfl rfl ?_
          refine wm_getR 81 rfl dX5_allow_78 gf_X5_34_4 rfl rfl ?_
          refine wm_iload_n 82 rfl dX5_allow_81 rfl rfl ?_
          refine wm_aload_n 83 rfl dX5_allow_82 rfl rfl ?_
          refine wm_getR 86 rfl dX5_allow_83 gf_X5_34_4 rfl rfl ?_
          refine wm_aload_n 87 rfl dX5_allow_86 rfl rfl ?_
          refine wm_getI 90 rfl dX5_allow_87 gf_X5_83_4 rfl rfl ?_
          rw [show zu (zu (zu σ 0 13 0) 0 10 (nI q)) 7 i (σ 7 q) 0 10 = nI q from rfl]
          refine wm_iaload 91 rfl dX5_allow_90 rfl (vp_in_nI (by omega) (by omega)) ?_
          rw [nI_clamp (by omega), show zu (zu (zu σ 0 13 0) 0 10 (nI q)) 7 i (σ 7 q) 8 q = σ 8 q from rfl]
          refine wm_iastore 92 rfl dX5_allow_91 rfl (vp_in_nI (by omega) (by omega)) ?_
          rw [nI_clamp (by omega)]
          refine wm_aload_n 93 rfl dX5_allow_92 rfl rfl ?_
          refine wm_callVi (ty := .int) 96 rfl dX5_allow_93 (k_X5_countedPairs l (σ := zu (zu (zu (zu σ 0 13 0) 0 10 (nI q)) 7 i (σ 7 q)) 8 i (σ 8 q)) (n := n) (p := q) h24 ⟨rfl, by omega⟩ (mQ_del (σ := σ) (X := zu σ 0 13 0) rfl rfl hQ hi _)) ca_X5_countedPairs cv_X5_countedPairs rfl aw_12_12 rfl rfl ⟨Nat.le_of_ble_eq_true rfl, Nat.le_of_ble_eq_true rfl⟩ (Nat.le_of_ble_eq_true rfl) ⟨Nat.zero_le _, Nat.zero_le _⟩ ?_
          rintro r9 σ9 ⟨rfl, rfl⟩
          exact wm_iret dX5_allow_96 (by first | rfl | exact zp_nar) (Or.inr ⟨f1, Or.inr ⟨f2, Or.inr ⟨f3, ⟨a, b, i, q, rfl, rfl, ⟨ha, ha6⟩, ⟨hb, hb6⟩, rfl, hi, hm1, hm2, (mS_zz (mS_zz (mS_zz (mS_thr 0 σ) _ (fun _ => by decide)) _ (fun e => by omega)) _ (fun e => by omega)), rfl⟩⟩⟩⟩)
        · exact absurd (show (0 : Int32) ≤ 0 by decide) (show ¬ (0 : Int32) ≤ 0 from c47)
      · refine wm_iconst (v := 2) 36 rfl dX5_allow_35 (by decide) ?_
        refine wm_goto 40 (by decide) dX5_allow_36 ?_
        refine wm_putI 43 rfl dX5_allow_40 pf_X5_53_4 rfl rfl ?_
        refine wm_aload_n 44 rfl dX5_allow_43 rfl rfl ?_
        refine wm_getI 47 rfl dX5_allow_44 gf_X5_53_4 rfl rfl ?_
        refine wm_if_le 52 50 rfl (by decide) dX5_allow_47 (fun c47 => ?_) (fun c47 => ?_)
        · exact absurd (show (2 : Int32) ≤ 0 from c47) (by decide)
        · refine wm_iconst (v := 0) 51 rfl dX5_allow_50 (by decide) ?_
          exact wm_iret dX5_allow_51 (by first | rfl | exact zp_nar) (Or.inr ⟨f1, Or.inr ⟨f2, Or.inl ⟨fun q => (prI_no hpr hP.2).mp c32 ((frM_n (by omega) (by omega)).mp q), mS_thr _ _⟩⟩⟩)
    · refine wm_aload_n 17 rfl dX5_allow_16 rfl rfl ?_
      refine wm_iconst (v := 1) 18 rfl dX5_allow_17 (by decide) ?_
      refine wm_callVi (ty := .int) 21 rfl dX5_allow_18 (k_X5_raises l 1) ca_X5_raises cv_X5_raises rfl aw_13_14 rfl rfl ⟨Nat.le_of_ble_eq_true rfl, Nat.le_of_ble_eq_true rfl⟩ (Nat.le_of_ble_eq_true rfl) ⟨Nat.zero_le _, Nat.zero_le _⟩ ?_
      rintro r9 σ9 ⟨rfl, rfl⟩
      exact wm_iret dX5_allow_21 (by first | rfl | exact zp_nar) (by first | exact Or.inl ⟨zp_0.mp c5, mS_thr _ _⟩ | exact Or.inr ⟨zp_n.mp c5, Or.inl ⟨zp_0.mp c13, mS_thr _ _⟩⟩)
theorem k_X5_thing (l : Launch) {σ : Sg} {n p : Nat} (hI : mI σ n) (hP : mP σ p) (hQ : mQ σ n p) (r : Int32) : cMi l yX5_thing cX5_thing 2 .int 4 Lm [.ref 0, .int r] σ (fun v σ1 => mTh σ σ1 [(1, rcM σ n r)] (∃ a, r = nI a ∧ a < n ∧ σ 6 a = 0 ∧ mS 0 σ σ1 ∧ fG σ n p ∧ v = nI (gM σ n p 2 a))) := by
  have h24 := hI.2
  have h12 := hP.2
  refine zMet_of (by decide +kernel) (Nat.le_of_ble_eq_true rfl) (fun D cT ad sz => ?_)
  show Wm (fun _ _ => True) l (rmh 4) RX5 cX5_thing 2 (some .int) D cT ad Lm (zA ad Lm.length sz) (zZ (fun D cT ad L9 sz => zQi D cT ad L9 sz (fun v σ1 => mTh σ σ1 [(1, rcM σ n r)] (∃ a, r = nI a ∧ a < n ∧ σ 6 a = 0 ∧ mS 0 σ σ1 ∧ fG σ n p ∧ v = nI (gM σ n p 2 a)))) D cT ad Lm sz) [] 0 (lv_args 0 [.ref 0, .int r]) [] σ 0 0
  refine wm_aload_n 1 rfl dX5_thing_0 rfl rfl ?_
  refine wm_iload_n 2 rfl dX5_thing_1 rfl rfl ?_
  refine wm_callVi (ty := .boolean) 5 rfl dX5_thing_2 (k_X5_lacks l hI _) ca_X5_lacks cv_X5_lacks rfl aw_9_17 rfl rfl ⟨Nat.le_of_ble_eq_true rfl, Nat.le_of_ble_eq_true rfl⟩ (Nat.le_of_ble_eq_true rfl) ⟨Nat.zero_le _, Nat.zero_le _⟩ ?_
  rintro r9 σ9 ⟨rfl, rfl⟩
  refine wm_if_eq 10 8 rfl (by decide) dX5_thing_5 (fun c5 => ?_) (fun c5 => ?_)
  · rw [c5]
    have p1 := Classical.not_not.mp (zp_0.mp c5)
    have q1 := p1
    obtain ⟨a, rfl, ha, h6⟩ := q1
    refine wm_aload_n 11 rfl dX5_thing_10 rfl rfl ?_
    refine wm_iconst (v := 2) 12 rfl dX5_thing_11 (by decide) ?_
    refine wm_callVv 15 rfl dX5_thing_12 (k_finds2 l (stM_thr σ 0) hI hP hQ) ca_X5_finds cv_X5_finds rfl aw_18_23 rfl rfl ⟨Nat.le_of_ble_eq_true rfl, Nat.le_of_ble_eq_true rfl⟩ (Nat.le_of_ble_eq_true rfl) ⟨Nat.zero_le _, Nat.zero_le _⟩ ?_
    rintro υ hF
    have hsυ := hF.2.1
    have hgυ := hF.2.2.2
    have hIυ := hsυ.mI hI
    have hS0 := fM_S hF (show zu σ 0 13 0 0 13 = 0 from rfl)
    refine wm_aload_n 16 rfl dX5_thing_15 rfl rfl ?_
    refine wm_getR 19 rfl dX5_thing_16 gf_X5_41_4 rfl rfl ?_
    refine wm_iload_n 20 rfl dX5_thing_19 rfl rfl ?_
    refine wm_iaload 21 rfl dX5_thing_20 rfl (in24 ha h24) ?_
    exact wm_iret dX5_thing_21 (by first | rfl | exact zp_nar) (Or.inr ⟨p1, ⟨a, rfl, ha, h6, hS0, hF.2.2.1, by rw [nI_clamp (by omega), (hgυ a ha).1]⟩⟩)
  · refine wm_iconst (v := 0) 9 rfl dX5_thing_8 (by decide) ?_
    exact wm_iret dX5_thing_9 (by first | rfl | exact zp_nar) (Or.inl ⟨zp_n.mp c5, mS_z (zp_n.mp c5)⟩)
theorem k_X5_thingByRounds (l : Launch) {σ : Sg} {n p : Nat} (hI : mI σ n) (hP : mP σ p) (hQ : mQ σ n p) (r : Int32) : cMi l yX5_thingByRounds cX5_thingByRounds 2 .int 5 Lm [.ref 0, .int r] σ (fun v σ1 => mTh σ σ1 [(1, rcM σ n r)] (∃ a, r = nI a ∧ a < n ∧ σ 6 a = 0 ∧ mS 0 σ σ1 ∧ fG σ n p ∧ v = nI (gM σ n p 2 a))) := by
  refine zMet_of (by decide +kernel) (Nat.le_of_ble_eq_true rfl) (fun D cT ad sz => ?_)
  show Wm (fun _ _ => True) l (rmh 5) RX5 cX5_thingByRounds 2 (some .int) D cT ad Lm (zA ad Lm.length sz) (zZ (fun D cT ad L9 sz => zQi D cT ad L9 sz (fun v σ1 => mTh σ σ1 [(1, rcM σ n r)] (∃ a, r = nI a ∧ a < n ∧ σ 6 a = 0 ∧ mS 0 σ σ1 ∧ fG σ n p ∧ v = nI (gM σ n p 2 a)))) D cT ad Lm sz) [] 0 (lv_args 0 [.ref 0, .int r]) [] σ 0 0
  refine wm_aload_n 1 rfl dX5_thingByRounds_0 rfl rfl ?_
  refine wm_iload_n 2 rfl dX5_thingByRounds_1 rfl rfl ?_
  refine wm_callVi (ty := .int) 5 rfl dX5_thingByRounds_2 (k_X5_thing l hI hP hQ r) ca_X5_thing cv_X5_thing rfl aw_20_15 rfl rfl ⟨Nat.le_of_ble_eq_true rfl, Nat.le_of_ble_eq_true rfl⟩ (Nat.le_of_ble_eq_true rfl) ⟨Nat.zero_le _, Nat.zero_le _⟩ ?_
  rintro r9 σ9 hr9
  exact wm_iret dX5_thingByRounds_5 (by first | rfl | exact zp_nar) hr9
theorem k_X5_things (l : Launch) {σ : Sg} {n p : Nat} (hI : mI σ n) (hP : mP σ p) (hQ : mQ σ n p) : cMi l yX5_things cX5_things 1 .int 5 Lm [.ref 0] σ (fun v σ1 => mS 0 σ σ1 ∧ fG σ n p ∧ v = nI (cq (fun h => mbM σ n (gM σ n p 2) h h) n)) := by
  refine zMet_of (by decide +kernel) (Nat.le_of_ble_eq_true rfl) (fun D cT ad sz => ?_)
  show Wm (fun _ _ => True) l (rmh 5) RX5 cX5_things 1 (some .int) D cT ad Lm (zA ad Lm.length sz) (zZ (fun D cT ad L9 sz => zQi D cT ad L9 sz (fun v σ1 => mS 0 σ σ1 ∧ fG σ n p ∧ v = nI (cq (fun h => mbM σ n (gM σ n p 2) h h) n))) D cT ad Lm sz) [] 0 (lv_args 0 [.ref 0]) [] σ 0 0
  refine wm_aload_n 1 rfl dX5_things_0 rfl rfl ?_
  refine wm_iconst (v := 0) 2 rfl dX5_things_1 (by decide) ?_
  refine wm_putI 5 rfl dX5_things_2 pf_X5_53_4 rfl rfl ?_
  refine wm_aload_n 6 rfl dX5_things_5 rfl rfl ?_
  refine wm_callVi (ty := .int) 9 rfl dX5_things_6 (k_X5_thingMany l (stM_thr σ 0) hI hP hQ) ca_X5_thingMany cv_X5_thingMany rfl aw_21_12 rfl rfl ⟨Nat.le_of_ble_eq_true rfl, Nat.le_of_ble_eq_true rfl⟩ (Nat.le_of_ble_eq_true rfl) ⟨Nat.zero_le _, Nat.zero_le _⟩ ?_
  rintro r9 σ9 ⟨hF, rfl⟩
  exact wm_iret dX5_things_9 (by first | rfl | exact zp_nar) ⟨fM_S hF (show zu σ 0 13 0 0 13 = 0 from rfl), hF.2.2.1, rfl⟩
def szM (σ : Sg) (n p : Nat) (r v : Int32) (σ1 : Sg) : Prop := mTh σ σ1 [(1, rcM σ n r)] (∃ a, r = nI a ∧ a < n ∧ σ 6 a = 0 ∧ mS 0 σ σ1 ∧ fG σ n p ∧ v = nI (cq (mbM σ n (gM σ n p 2) (gM σ n p 2 a)) n))
theorem k_X5_size (l : Launch) {σ : Sg} {n p : Nat} (hI : mI σ n) (hP : mP σ p) (hQ : mQ σ n p) (r : Int32) : cMi l yX5_size cX5_size 4 .int 4 Lm [.ref 0, .int r] σ (szM σ n p r) := by
  have h24 := hI.2
  have h12 := hP.2
  refine zMet_of (by decide +kernel) (Nat.le_of_ble_eq_true rfl) (fun D cT ad sz => ?_)
  show Wm (fun _ _ => True) l (rmh 4) RX5 cX5_size 4 (some .int) D cT ad Lm (zA ad Lm.length sz) (zZ (fun D cT ad L9 sz => zQi D cT ad L9 sz (szM σ n p r)) D cT ad Lm sz) [] 0 (lv_args 0 [.ref 0, .int r]) [] σ 0 0
  refine wm_aload_n 1 rfl dX5_size_0 rfl rfl ?_
  refine wm_iload_n 2 rfl dX5_size_1 rfl rfl ?_
  refine wm_callVi (ty := .boolean) 5 rfl dX5_size_2 (k_X5_lacks l hI _) ca_X5_lacks cv_X5_lacks rfl aw_9_17 rfl rfl ⟨Nat.le_of_ble_eq_true rfl, Nat.le_of_ble_eq_true rfl⟩ (Nat.le_of_ble_eq_true rfl) ⟨Nat.zero_le _, Nat.zero_le _⟩ ?_
  rintro r9 σ9 ⟨rfl, rfl⟩
  refine wm_if_eq 10 8 rfl (by decide) dX5_size_5 (fun c5 => ?_) (fun c5 => ?_)
  · rw [c5]
    have p1 := Classical.not_not.mp (zp_0.mp c5)
    have q1 := p1
    obtain ⟨a, rfl, ha, h6⟩ := q1
    refine wm_aload_n 11 rfl dX5_size_10 rfl rfl ?_
    refine wm_iconst (v := 2) 12 rfl dX5_size_11 (by decide) ?_
    refine wm_callVv 15 rfl dX5_size_12 (k_finds2 l (stM_thr σ 0) hI hP hQ) ca_X5_finds cv_X5_finds rfl aw_18_23 rfl rfl ⟨Nat.le_of_ble_eq_true rfl, Nat.le_of_ble_eq_true rfl⟩ (Nat.le_of_ble_eq_true rfl) ⟨Nat.zero_le _, Nat.zero_le _⟩ ?_
    rintro υ hF
    have hsυ := hF.2.1
    have hgυ := hF.2.2.2
    have hIυ := hsυ.mI hI
    have hS0 := fM_S hF (show zu σ 0 13 0 0 13 = 0 from rfl)
    refine wm_iconst (v := 0) 16 rfl dX5_size_15 (by decide) ?_
    refine wm_istore_n (ls' := [(2, _), (0, _), (1, _)]) 17 rfl dX5_size_16 rfl (by decide) rfl ?_
    refine wm_iconst (v := 0) 18 rfl dX5_size_17 (by decide) ?_
    refine wm_istore_n (ls' := [(3, _), (2, _), (0, _), (1, _)]) 19 rfl dX5_size_18 rfl (by decide) rfl ?_
    refine wm_loc (ls2 := [(0, _), (1, _), (2, _), (3, _)]) [2, 3, 1, 0] rfl ?_
    have hga := (hgυ a ha).2
    have lp : ∀ (q9 j : Nat), n - j = q9 → j ≤ n → True → Wm (fun _ _ => True) l (rmh 4) RX5 cX5_size 4 (some .int) D cT ad Lm (zA ad Lm.length sz) (zZ (fun D cT ad L9 sz => zQi D cT ad L9 sz (szM σ n p (nI a))) D cT ad Lm sz) [] 19 [(0, .ref 0), (1, .int (nI a)), (2, .int (nI (cq (mbM σ n (gM σ n p 2) (gM σ n p 2 a)) j))), (3, .int (nI j))] [] υ 0 0 := by
      intro q9
      induction q9 using Nat.strongRecOn with
      | ind q9 ih =>
        intro j  hmj hjj hinv
        refine wm_iload_n 20 rfl dX5_size_19 rfl rfl ?_
        refine wm_aload_n 21 rfl dX5_size_20 rfl rfl ?_
        refine wm_getI 24 rfl dX5_size_21 gf_X5_56_4 rfl rfl ?_
        refine wm_icmp_ge 55 27 rfl (by decide) dX5_size_24 (fun c24 => ?_) (fun c24 => ?_)
        · rw [hIυ.1] at c24
          have gj : j = n := by have := le_of_nI c24 (by omega) (by omega); omega
          refine wm_iload_n 56 rfl dX5_size_55 rfl rfl ?_
          exact wm_iret dX5_size_56 (by first | rfl | exact zp_nar) (Or.inr ⟨p1, ⟨a, rfl, ha, h6, hS0, hF.2.2.1, by rw [gj]⟩⟩)
        · rw [hIυ.1] at c24
          have gj : j < n := lt_of_nnI c24 (by omega) (by omega)
          refine wm_iload_n 28 rfl dX5_size_27 rfl rfl ?_
          refine wm_aload_n 29 rfl dX5_size_28 rfl rfl ?_
          refine wm_iload_n 30 rfl dX5_size_29 rfl rfl ?_
          refine wm_aload_n 31 rfl dX5_size_30 rfl rfl ?_
          refine wm_getR 34 rfl dX5_size_31 gf_X5_41_4 rfl rfl ?_
          refine wm_iload_n 35 rfl dX5_size_34 rfl rfl ?_
          refine wm_iaload 36 rfl dX5_size_35 rfl (in24 ha h24) ?_
          rw [nI_clamp (by omega), (hgυ a ha).1]
          refine wm_callVi (ty := .boolean) 39 rfl dX5_size_36 (k_X5_isOf l hsυ h24 hgυ gj (h := gM σ n p 2 a) (by omega)) ca_X5_isOf cv_X5_isOf rfl aw_22_7 rfl rfl ⟨Nat.le_of_ble_eq_true rfl, Nat.le_of_ble_eq_true rfl⟩ (Nat.le_of_ble_eq_true rfl) ⟨Nat.zero_le _, Nat.zero_le _⟩ ?_
          rintro r9 σ9 ⟨rfl, rfl⟩
          refine wm_if_eq 46 42 rfl (by decide) dX5_size_39 (fun c39 => ?_) (fun c39 => ?_)
          · refine wm_iconst (v := 0) 47 rfl dX5_size_46 (by decide) ?_
            refine wm_iadd 48 rfl dX5_size_47 ?_
            first
              | rw [show nI (cq (mbM σ n (gM σ n p 2) (gM σ n p 2 a)) j) + 0 = nI (cq (mbM σ n (gM σ n p 2) (gM σ n p 2 a)) (j + 1)) by rw [cq_f (P := (mbM σ n (gM σ n p 2) (gM σ n p 2 a))) (zp_0.mp c39)]; exact Int32.add_zero _]
              | rw [show nI (cq (mbM σ n (gM σ n p 2) (gM σ n p 2 a)) j) + 1 = nI (cq (mbM σ n (gM σ n p 2) (gM σ n p 2 a)) (j + 1)) by rw [cq_t (P := (mbM σ n (gM σ n p 2) (gM σ n p 2 a))) (zp_n.mp c39)]; exact nI_1 _]
            refine wm_istore_n (ls' := [(2, _), (0, _), (1, _), (3, _)]) 49 rfl dX5_size_48 rfl (by decide) rfl ?_
            refine wm_iinc (ls' := [(3, _), (2, _), (0, _), (1, _)]) 52 rfl dX5_size_49 rfl (nI_inc _) (by decide) rfl ?_
            refine wm_goto 19 (by decide) dX5_size_52 ?_
            refine wm_loc (ls2 := [(0, _), (1, _), (2, _), (3, _)]) [2, 3, 1, 0] rfl ?_
            exact ih (n - (j + 1)) (by omega) (j + 1) rfl (by omega) trivial
          · refine wm_iconst (v := 1) 43 rfl dX5_size_42 (by decide) ?_
            refine wm_goto 47 (by decide) dX5_size_43 ?_
            refine wm_iadd 48 rfl dX5_size_47 ?_
            first
              | rw [show nI (cq (mbM σ n (gM σ n p 2) (gM σ n p 2 a)) j) + 0 = nI (cq (mbM σ n (gM σ n p 2) (gM σ n p 2 a)) (j + 1)) by rw [cq_f (P := (mbM σ n (gM σ n p 2) (gM σ n p 2 a))) (zp_0.mp c39)]; exact Int32.add_zero _]
              | rw [show nI (cq (mbM σ n (gM σ n p 2) (gM σ n p 2 a)) j) + 1 = nI (cq (mbM σ n (gM σ n p 2) (gM σ n p 2 a)) (j + 1)) by rw [cq_t (P := (mbM σ n (gM σ n p 2) (gM σ n p 2 a))) (zp_n.mp c39)]; exact nI_1 _]
            refine wm_istore_n (ls' := [(2, _), (0, _), (1, _), (3, _)]) 49 rfl dX5_size_48 rfl (by decide) rfl ?_
            refine wm_iinc (ls' := [(3, _), (2, _), (0, _), (1, _)]) 52 rfl dX5_size_49 rfl (nI_inc _) (by decide) rfl ?_
            refine wm_goto 19 (by decide) dX5_size_52 ?_
            refine wm_loc (ls2 := [(0, _), (1, _), (2, _), (3, _)]) [2, 3, 1, 0] rfl ?_
            exact ih (n - (j + 1)) (by omega) (j + 1) rfl (by omega) trivial
    exact lp n 0 rfl (Nat.zero_le _) trivial
  · refine wm_iconst (v := 0) 9 rfl dX5_size_8 (by decide) ?_
    exact wm_iret dX5_size_9 (by first | rfl | exact zp_nar) (Or.inl ⟨zp_n.mp c5, mS_z (zp_n.mp c5)⟩)
theorem i32_m1 (x : Int32) : x + Int32.ofInt (-1) = x - 1 := by rw [Int32.sub_eq_add_neg]; rfl
def meM (σ : Sg) (n p : Nat) (r ix v : Int32) (σ1 : Sg) : Prop := mTh σ σ1 [(1, rcM σ n r), (2, ∃ x, mbxM σ n p r ix x)] (∃ x, mbxM σ n p r ix x ∧ mS 0 σ σ1 ∧ fG σ n p ∧ v = nI x)
theorem k_X5_member (l : Launch) {σ : Sg} {n p : Nat} (hI : mI σ n) (hP : mP σ p) (hQ : mQ σ n p) (r ix : Int32) : cMi l yX5_member cX5_member 5 .int 4 Lm [.ref 0, .int r, .int ix] σ (meM σ n p r ix) := by
  have h24 := hI.2
  have h12 := hP.2
  refine zMet_of (by decide +kernel) (Nat.le_of_ble_eq_true rfl) (fun D cT ad sz => ?_)
  show Wm (fun _ _ => True) l (rmh 4) RX5 cX5_member 5 (some .int) D cT ad Lm (zA ad Lm.length sz) (zZ (fun D cT ad L9 sz => zQi D cT ad L9 sz (meM σ n p r ix)) D cT ad Lm sz) [] 0 (lv_args 0 [.ref 0, .int r, .int ix]) [] σ 0 0
  refine wm_aload_n 1 rfl dX5_member_0 rfl rfl ?_
  refine wm_iload_n 2 rfl dX5_member_1 rfl rfl ?_
  refine wm_callVi (ty := .boolean) 5 rfl dX5_member_2 (k_X5_lacks l hI _) ca_X5_lacks cv_X5_lacks rfl aw_9_17 rfl rfl ⟨Nat.le_of_ble_eq_true rfl, Nat.le_of_ble_eq_true rfl⟩ (Nat.le_of_ble_eq_true rfl) ⟨Nat.zero_le _, Nat.zero_le _⟩ ?_
  rintro r9 σ9 ⟨rfl, rfl⟩
  refine wm_if_eq 10 8 rfl (by decide) dX5_member_5 (fun c5 => ?_) (fun c5 => ?_)
  · rw [c5]
    have p1 := Classical.not_not.mp (zp_0.mp c5)
    have q1 := p1
    obtain ⟨a, rfl, ha, h6⟩ := q1
    refine wm_aload_n 11 rfl dX5_member_10 rfl rfl ?_
    refine wm_iconst (v := 2) 12 rfl dX5_member_11 (by decide) ?_
    refine wm_callVv 15 rfl dX5_member_12 (k_finds2 l (stM_thr σ 0) hI hP hQ) ca_X5_finds cv_X5_finds rfl aw_18_23 rfl rfl ⟨Nat.le_of_ble_eq_true rfl, Nat.le_of_ble_eq_true rfl⟩ (Nat.le_of_ble_eq_true rfl) ⟨Nat.zero_le _, Nat.zero_le _⟩ ?_
    rintro υ hF
    have hsυ := hF.2.1
    have hgυ := hF.2.2.2
    have hIυ := hsυ.mI hI
    have hS0 := fM_S hF (show zu σ 0 13 0 0 13 = 0 from rfl)
    refine wm_iload_n 16 rfl dX5_member_15 rfl rfl ?_
    refine wm_istore_n (ls' := [(3, _), (0, _), (1, _), (2, _)]) 17 rfl dX5_member_16 rfl (by decide) rfl ?_
    refine wm_iconst (v := 0) 18 rfl dX5_member_17 (by decide) ?_
    refine wm_istore (ls' := [(4, _), (3, _), (0, _), (1, _), (2, _)]) 20 rfl dX5_member_18 (by decide) rfl ?_
    refine wm_loc (ls2 := [(0, _), (1, _), (2, _), (3, _), (4, _)]) [2, 3, 4, 1, 0] rfl ?_
    have hga := (hgυ a ha).2
    have hno : ∀ x, mbxM σ n p (nI a) ix x → x < n ∧ mbM σ n (gM σ n p 2) (gM σ n p 2 a) x ∧ ix = nI (cq (mbM σ n (gM σ n p 2) (gM σ n p 2 a)) x) := by
      rintro x ⟨a2, e1, h2, -, h3, h4, h5⟩
      have e2 := eq_of_nI e1 (by omega) (by omega)
      subst e2
      exact ⟨h3, h4, h5⟩
    have lp : ∀ (q9 j : Nat) (lf : Int32), n - j = q9 → j ≤ n → (ix < 0 ∧ j = 0 ∧ lf = ix) ∨ (∃ q, q < 2 ^ 31 ∧ ix = nI q ∧ cq (mbM σ n (gM σ n p 2) (gM σ n p 2 a)) j ≤ q ∧ lf = nI (q - cq (mbM σ n (gM σ n p 2) (gM σ n p 2 a)) j)) → Wm (fun _ _ => True) l (rmh 4) RX5 cX5_member 5 (some .int) D cT ad Lm (zA ad Lm.length sz) (zZ (fun D cT ad L9 sz => zQi D cT ad L9 sz (meM σ n p (nI a) ix)) D cT ad Lm sz) [] 20 [(0, .ref 0), (1, .int (nI a)), (2, .int ix), (3, .int lf), (4, .int (nI j))] [] υ 0 0 := by
      intro q9
      induction q9 using Nat.strongRecOn with
      | ind q9 ih =>
        intro j lf hmj hjj hinv
        refine wm_iload 22 rfl dX5_member_20 rfl ?_
        refine wm_aload_n 23 rfl dX5_member_22 rfl rfl ?_
        refine wm_getI 26 rfl dX5_member_23 gf_X5_56_4 rfl rfl ?_
        refine wm_icmp_ge 64 29 rfl (by decide) dX5_member_26 (fun c26 => ?_) (fun c26 => ?_)
        · rw [hIυ.1] at c26
          have gj : j = n := by have := le_of_nI c26 (by omega) (by omega); omega
          refine wm_aload_n 65 rfl dX5_member_64 rfl rfl ?_
          refine wm_iconst (v := 2) 66 rfl dX5_member_65 (by decide) ?_
          refine wm_callVi (ty := .int) 69 rfl dX5_member_66 (k_X5_raises l 2) ca_X5_raises cv_X5_raises rfl aw_13_14 rfl rfl ⟨Nat.le_of_ble_eq_true rfl, Nat.le_of_ble_eq_true rfl⟩ (Nat.le_of_ble_eq_true rfl) ⟨Nat.zero_le _, Nat.zero_le _⟩ ?_
          rintro r9 σ9 ⟨rfl, rfl⟩
          exact wm_iret dX5_member_69 (by first | rfl | exact zp_nar) (by
  refine Or.inr ⟨p1, Or.inl ⟨?_, mS_r hsυ⟩⟩
  rintro ⟨x, hx⟩
  obtain ⟨h1, h2, h3⟩ := hno x hx
  have h5 := cq_le (mbM σ n (gM σ n p 2) (gM σ n p 2 a)) x
  first
    | (have h6 : (nI 0).toInt ≤ (nI (cq (mbM σ n (gM σ n p 2) (gM σ n p 2 a)) x)).toInt := Int32.le_iff_toInt_le.mp ((nI_leI (by omega) (by omega)).mpr (Nat.zero_le _))
       have h7 := Int32.lt_iff_toInt_lt.mp c30
       have h8 : (nI 0).toInt = 0 := by decide
       rw [h3] at h7
       have h9 : (0 : Int32).toInt = 0 := by decide
       omega)
    | (subst gj
       rcases hinv with ⟨h6, h7, -⟩ | ⟨q, hq, h6, h7, -⟩
       · omega
       · have h8 := cq_up h1 h2
         have h9 := eq_of_nI (h6.symm.trans h3) hq (by omega)
         omega))
        · rw [hIυ.1] at c26
          have gj : j < n := lt_of_nnI c26 (by omega) (by omega)
          refine wm_iload_n 30 rfl dX5_member_29 rfl rfl ?_
          refine wm_if_lt 64 33 rfl (by decide) dX5_member_30 (fun c30 => ?_) (fun c30 => ?_)
          · refine wm_aload_n 65 rfl dX5_member_64 rfl rfl ?_
            refine wm_iconst (v := 2) 66 rfl dX5_member_65 (by decide) ?_
            refine wm_callVi (ty := .int) 69 rfl dX5_member_66 (k_X5_raises l 2) ca_X5_raises cv_X5_raises rfl aw_13_14 rfl rfl ⟨Nat.le_of_ble_eq_true rfl, Nat.le_of_ble_eq_true rfl⟩ (Nat.le_of_ble_eq_true rfl) ⟨Nat.zero_le _, Nat.zero_le _⟩ ?_
            rintro r9 σ9 ⟨rfl, rfl⟩
            exact wm_iret dX5_member_69 (by first | rfl | exact zp_nar) (by
  refine Or.inr ⟨p1, Or.inl ⟨?_, mS_r hsυ⟩⟩
  rintro ⟨x, hx⟩
  obtain ⟨h1, h2, h3⟩ := hno x hx
  have h5 := cq_le (mbM σ n (gM σ n p 2) (gM σ n p 2 a)) x
  first
    | (have h6 : (nI 0).toInt ≤ (nI (cq (mbM σ n (gM σ n p 2) (gM σ n p 2 a)) x)).toInt := Int32.le_iff_toInt_le.mp ((nI_leI (by omega) (by omega)).mpr (Nat.zero_le _))
       have h7 := Int32.lt_iff_toInt_lt.mp c30
       have h8 : (nI 0).toInt = 0 := by decide
       rw [h3] at h7
       have h9 : (0 : Int32).toInt = 0 := by decide
       omega)
    | (subst gj
       rcases hinv with ⟨h6, h7, -⟩ | ⟨q, hq, h6, h7, -⟩
       · omega
       · have h8 := cq_up h1 h2
         have h9 := eq_of_nI (h6.symm.trans h3) hq (by omega)
         omega))
          · obtain ⟨q, hq, rfl, hcq, rfl⟩ : ∃ q, q < 2 ^ 31 ∧ ix = nI q ∧ cq (mbM σ n (gM σ n p 2) (gM σ n p 2 a)) j ≤ q ∧ lf = nI (q - cq (mbM σ n (gM σ n p 2) (gM σ n p 2 a)) j) := by rcases hinv with ⟨h, -⟩ | h; exact absurd h c30; exact h
            refine wm_aload_n 34 rfl dX5_member_33 rfl rfl ?_
            refine wm_iload 36 rfl dX5_member_34 rfl ?_
            refine wm_aload_n 37 rfl dX5_member_36 rfl rfl ?_
            refine wm_getR 40 rfl dX5_member_37 gf_X5_41_4 rfl rfl ?_
            refine wm_iload_n 41 rfl dX5_member_40 rfl rfl ?_
            refine wm_iaload 42 rfl dX5_member_41 rfl (in24 ha h24) ?_
            rw [nI_clamp (by omega), (hgυ a ha).1]
            refine wm_callVi (ty := .boolean) 45 rfl dX5_member_42 (k_X5_isOf l hsυ h24 hgυ gj (h := gM σ n p 2 a) (by omega)) ca_X5_isOf cv_X5_isOf rfl aw_22_7 rfl rfl ⟨Nat.le_of_ble_eq_true rfl, Nat.le_of_ble_eq_true rfl⟩ (Nat.le_of_ble_eq_true rfl) ⟨Nat.zero_le _, Nat.zero_le _⟩ ?_
            rintro r9 σ9 ⟨rfl, rfl⟩
            refine wm_if_eq 58 48 rfl (by decide) dX5_member_45 (fun c45 => ?_) (fun c45 => ?_)
            · refine wm_iinc (ls' := [(4, _), (0, _), (1, _), (2, _), (3, _)]) 61 rfl dX5_member_58 rfl (nI_inc _) (by decide) rfl ?_
              refine wm_goto 20 (by decide) dX5_member_61 ?_
              refine wm_loc (ls2 := [(0, _), (1, _), (2, _), (3, _), (4, _)]) [1, 2, 3, 4, 0] rfl ?_
              first
                | exact ih (n - (j + 1)) (by omega) (j + 1) _ rfl (by omega) (Or.inr ⟨q, hq, rfl, by rw [cq_f (P := (mbM σ n (gM σ n p 2) (gM σ n p 2 a))) (zp_0.mp c45)]; exact hcq, by rw [cq_f (P := (mbM σ n (gM σ n p 2) (gM σ n p 2 a))) (zp_0.mp c45)]⟩)
                | exact ih (n - (j + 1)) (by omega) (j + 1) _ rfl (by omega) (Or.inr ⟨q, hq, rfl, by rw [cq_t (P := (mbM σ n (gM σ n p 2) (gM σ n p 2 a))) (zp_n.mp c45)]; omega, rfl⟩)
            · refine wm_iload_n 49 rfl dX5_member_48 rfl rfl ?_
              refine wm_if_ne 55 52 rfl (by decide) dX5_member_49 (fun c49 => ?_) (fun c49 => ?_)
              · have q49 : q ≠ cq (mbM σ n (gM σ n p 2) (gM σ n p 2 a)) j := by intro e; exact c49 (by rw [e, Nat.sub_self]; rfl)
                refine wm_iinc (ls' := [(3, _), (0, _), (1, _), (2, _), (4, _)]) 58 rfl dX5_member_55 rfl (show nI (q - cq (mbM σ n (gM σ n p 2) (gM σ n p 2 a)) j) + Int32.ofInt (-1) = nI (q - cq (mbM σ n (gM σ n p 2) (gM σ n p 2 a)) (j + 1)) by rw [cq_t (P := (mbM σ n (gM σ n p 2) (gM σ n p 2 a))) (zp_n.mp c45), show q - cq (mbM σ n (gM σ n p 2) (gM σ n p 2 a)) j = (q - (cq (mbM σ n (gM σ n p 2) (gM σ n p 2 a)) j + 1)) + 1 by omega, i32_m1]; exact nI_prd _) (by decide) rfl ?_
                refine wm_iinc (ls' := [(4, _), (3, _), (0, _), (1, _), (2, _)]) 61 rfl dX5_member_58 rfl (nI_inc _) (by decide) rfl ?_
                refine wm_goto 20 (by decide) dX5_member_61 ?_
                refine wm_loc (ls2 := [(0, _), (1, _), (2, _), (3, _), (4, _)]) [2, 3, 4, 1, 0] rfl ?_
                first
                  | exact ih (n - (j + 1)) (by omega) (j + 1) _ rfl (by omega) (Or.inr ⟨q, hq, rfl, by rw [cq_f (P := (mbM σ n (gM σ n p 2) (gM σ n p 2 a))) (zp_0.mp c45)]; exact hcq, by rw [cq_f (P := (mbM σ n (gM σ n p 2) (gM σ n p 2 a))) (zp_0.mp c45)]⟩)
                  | exact ih (n - (j + 1)) (by omega) (j + 1) _ rfl (by omega) (Or.inr ⟨q, hq, rfl, by rw [cq_t (P := (mbM σ n (gM σ n p 2) (gM σ n p 2 a))) (zp_n.mp c45)]; omega, rfl⟩)
              · have q49 : q = cq (mbM σ n (gM σ n p 2) (gM σ n p 2 a)) j := by have := eq_of_nI (b := 0) c49 (by omega) (by omega); omega
                refine wm_iload 54 rfl dX5_member_52 rfl ?_
                exact wm_iret dX5_member_54 (by first | rfl | exact zp_nar) (Or.inr ⟨p1, Or.inr ⟨⟨j, a, rfl, ha, h6, gj, zp_n.mp c45, by rw [q49]⟩, ⟨j, ⟨a, rfl, ha, h6, gj, zp_n.mp c45, by rw [q49]⟩, hS0, hF.2.2.1, rfl⟩⟩⟩)
    exact lp n 0 ix rfl (Nat.zero_le _) (by by_cases h : ix < 0; exact Or.inl ⟨h, rfl, rfl⟩; obtain ⟨q, hq, rfl⟩ := nI_of h; exact Or.inr ⟨q, hq, rfl, Nat.zero_le _, rfl⟩)
  · refine wm_iconst (v := 0) 9 rfl dX5_member_8 (by decide) ?_
    exact wm_iret dX5_member_9 (by first | rfl | exact zp_nar) (Or.inl ⟨zp_n.mp c5, mS_z (zp_n.mp c5)⟩)
