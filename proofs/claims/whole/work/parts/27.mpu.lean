theorem gf_X5_67_4 : zGF RX5 67 4 1 := ⟨RX5, TX5, 18, "AssetmergeModel", rfl, zin_X5, by decide, aw_5_0, Or.inl rfl⟩
theorem pf_X5_67_4 : zPF RX5 67 4 1 := ⟨RX5, TX5, 18, "AssetmergeModel", tyX5, rfl, zin_X5, by decide, aw_5_0, rfl, tyX5_ok, nmX5, rfl, by decide +kernel⟩
theorem ca_X5_isKey : zCal yX5_isKey cX5_isKey 1 (some .boolean) 1 := ⟨aw_7_8, aw_1_5, by decide +kernel, by decide +kernel, by decide +kernel⟩
theorem pf_X5_56_4 : zPF RX5 56 4 7 := ⟨RX5, TX5, 18, "AssetmergeModel", tyX5, rfl, zin_X5, by decide, aw_7_4, rfl, tyX5_ok, nmX5, rfl, by decide +kernel⟩
theorem gf_X5_24_4 : zGF RX5 24 4 5 := ⟨RX5, TX5, 18, "AssetmergeModel", rfl, zin_X5, by decide, aw_3_11, Or.inl rfl⟩
theorem ca_X5_lacks : zCal yX5_lacks cX5_lacks 2 (some .boolean) 1 := ⟨aw_9_20, aw_1_5, by decide +kernel, by decide +kernel, by decide +kernel⟩
theorem cv_X5_lacks : zCaV RX5 yX5_lacks := ⟨aw_9_18, aw_9_19⟩
theorem ca_X5_left : zCal yX5_left cX5_left 3 (some .int) 0 := ⟨aw_11_2, aw_1_5, by decide +kernel, by decide +kernel, by decide +kernel⟩
theorem cv_X5_left : zCaV RX5 yX5_left := ⟨aw_11_0, aw_11_1⟩
/-! THE MODEL'S CALLS: the same conditions in the same order; what was thrown is a number -/
def mS (c : Int32) (σ τ : Sg) : Prop := τ 0 13 = c ∧ stM σ τ
def mTh (σ τ : Sg) : List (Int32 × Prop) → Prop → Prop
  | [], F => F
  | (c, P) :: r, F => (¬ P ∧ mS c σ τ) ∨ (P ∧ mTh σ τ r F)
theorem mS_thr (c : Int32) (σ : Sg) : mS c σ (zu σ 0 13 c) := ⟨by simp [zu], stM_thr σ c⟩
theorem mS_z {σ : Sg} {P : Prop} (h : P) : mS 1 σ (zu σ 0 13 (zp P)) := ⟨by simp [zu, zp_t h], stM_thr σ _⟩
theorem stM_zz {σ τ : Sg} (h : stM σ τ) (a b : Nat) (x : Int32) : stM (zu σ a b x) (zu τ a b x) := by
  intro c d h1 h2 h3
  unfold zu
  rw [h c d h1 h2 h3]
theorem mS_zz {c : Int32} {σ τ : Sg} (h : mS c σ τ) {a b : Nat} (x : Int32) (hab : a = 0 → b ≠ 13) : mS c (zu σ a b x) (zu τ a b x) := by
  refine ⟨?_, stM_zz h.2 a b x⟩
  rw [← h.1]
  unfold zu
  by_cases e : 0 = a
  · have := hab e.symm
    simp [e, Ne.symm this]
  · simp [e]
theorem nI_prd (m : Nat) : nI (m + 1) - 1 = nI m := by rw [show (1 : Int32) = nI 1 from rfl, pk_subN (by omega)]; rfl
theorem rg_3 {k : Int32} : rg k 0 2 ↔ nR 3 k := rg_n (n := 3) (by omega)
def ffM (σ : Sg) (n : Nat) : Nat → Sg
  | 0 => σ
  | j + 1 => zu (ffM σ n j) (35 + n) j (-1)
theorem mS_ff {c : Int32} {σ τ : Sg} (h : mS c σ τ) (n : Nat) : ∀ j, mS c (ffM σ n j) (ffM τ n j)
  | 0 => h
  | j + 1 => mS_zz (mS_ff h n j) _ (fun e => by omega)
def arM (σ : Sg) (n : Nat) (s k0 k1 k2 : Int32) : Sg := ffM (zu (zu (zu (zu (zu (zu σ 0 7 (nI (n + 1))) 2 n s) 3 n (σ 0 12)) (11 + n) 0 k0) (11 + n) 1 k1) (11 + n) 2 k2) n 3
def frM (σ : Sg) (p : Nat) (r o : Int32) : Prop := ∃ a b i, r = nI a ∧ o = nI b ∧ a < 24 ∧ b < 24 ∧ i < p ∧ mtc σ a b i
theorem frM_n {σ : Sg} {p a b : Nat} (ha : a < 24) (hb : b < 24) : frM σ p (nI a) (nI b) ↔ ∃ i, i < p ∧ mtc σ a b i := by
  constructor
  · rintro ⟨a2, b2, i, e1, e2, h1, h2, hi, h⟩
    rw [eq_of_nI e1 (by omega) (by omega), eq_of_nI e2 (by omega) (by omega)]
    exact ⟨i, hi, h⟩
  · rintro ⟨i, hi, h⟩
    exact ⟨a, b, i, rfl, rfl, ha, hb, hi, h⟩
abbrev fG (σ : Sg) (n p : Nat) : Prop := grs n (lvM σ n) (kyM σ) (fbM σ p) (gM σ n p)
theorem k_X5_isKey (l : Launch) {σ : Sg} (v : Int32) : cMi l yX5_isKey cX5_isKey 1 .boolean 1 Lm [.int v] σ (pP σ (zp (rg v (-1) 99))) := by
  refine zMet_of (by decide +kernel) (Nat.le_of_ble_eq_true rfl) (fun D cT ad sz => ?_)
  show Wm (fun _ _ => True) l (rmh 1) RX5 cX5_isKey 1 (some .boolean) D cT ad Lm (zA ad Lm.length sz) (zZ (fun D cT ad L9 sz => zQi D cT ad L9 sz (pP σ (zp (rg v (-1) 99)))) D cT ad Lm sz) [] 0 (lv_args 0 [.int v]) [] σ 0 0
  refine wm_iload_n 1 rfl dX5_isKey_0 rfl rfl ?_
  refine wm_iconst (v := (-1)) 2 rfl dX5_isKey_1 (by decide) ?_
  refine wm_bipush (v := 99) 4 rfl dX5_isKey_2 (by decide) ?_
  refine wm_callSi (ty := .boolean) 7 rfl dX5_isKey_4 (k_X5_in l v (-1) 99) ca_X5_in aw_5_3 aw_5_2 ⟨Nat.le_of_ble_eq_true rfl, Nat.le_of_ble_eq_true rfl⟩ (Nat.le_of_ble_eq_true rfl) ⟨Nat.zero_le _, Nat.zero_le _⟩ ?_
  rintro r9 σ9 ⟨rfl, rfl⟩
  exact wm_iret dX5_isKey_7 (by first | rfl | exact zp_nar) ⟨rfl, rfl⟩
theorem k_X5_addSource (l : Launch) {σ : Sg} {m : Nat} (hs : σ 0 1 = nI m) (hm : m ≤ 4) (t : Int32) : cMi l yX5_addSource cX5_addSource 2 .int 1 Lm [.ref 0, .int t] σ (fun v σ1 => mTh σ σ1 [(1, rg t 1 9), (2, m < 4)] (mS 0 (zu (zu σ 1 m t) 0 1 (nI (m + 1))) σ1 ∧ v = nI m)) := by
  refine zMet_of (by decide +kernel) (Nat.le_of_ble_eq_true rfl) (fun D cT ad sz => ?_)
  show Wm (fun _ _ => True) l (rmh 1) RX5 cX5_addSource 2 (some .int) D cT ad Lm (zA ad Lm.length sz) (zZ (fun D cT ad L9 sz => zQi D cT ad L9 sz (fun v σ1 => mTh σ σ1 [(1, rg t 1 9), (2, m < 4)] (mS 0 (zu (zu σ 1 m t) 0 1 (nI (m + 1))) σ1 ∧ v = nI m))) D cT ad Lm sz) [] 0 (lv_args 0 [.ref 0, .int t]) [] σ 0 0
  refine wm_aload_n 1 rfl dX5_addSource_0 rfl rfl ?_
  refine wm_iload_n 2 rfl dX5_addSource_1 rfl rfl ?_
  refine wm_iconst (v := 1) 3 rfl dX5_addSource_2 (by decide) ?_
  refine wm_bipush (v := 9) 5 rfl dX5_addSource_3 (by decide) ?_
  refine wm_callSi (ty := .boolean) 8 rfl dX5_addSource_5 (k_X5_in l t 1 9) ca_X5_in aw_5_3 aw_5_2 ⟨Nat.le_of_ble_eq_true rfl, Nat.le_of_ble_eq_true rfl⟩ (Nat.le_of_ble_eq_true rfl) ⟨Nat.zero_le _, Nat.zero_le _⟩ ?_
  rintro r9 σ9 ⟨rfl, rfl⟩
  refine wm_if_ne 15 11 rfl (by decide) dX5_addSource_8 (fun c8 => ?_) (fun c8 => ?_)
  · refine wm_aload_n 16 rfl dX5_addSource_15 rfl rfl ?_
    refine wm_getI 19 rfl dX5_addSource_16 gf_X5_67_4 rfl rfl ?_
    refine wm_iconst (v := 4) 20 rfl dX5_addSource_19 (by decide) ?_
    refine wm_icmp_ne 27 23 rfl (by decide) dX5_addSource_20 (fun c20 => ?_) (fun c20 => ?_)
    · rw [hs] at c20
      refine wm_iconst (v := 0) 28 rfl dX5_addSource_27 (by decide) ?_
      refine wm_putI 31 rfl dX5_addSource_28 pf_X5_53_4 rfl rfl ?_
      refine wm_aload_n 32 rfl dX5_addSource_31 rfl rfl ?_
      refine wm_getI 35 rfl dX5_addSource_32 gf_X5_53_4 rfl rfl ?_
      refine wm_if_le 40 38 rfl (by decide) dX5_addSource_35 (fun c35 => ?_) (fun c35 => ?_)
      · refine wm_aload_n 41 rfl dX5_addSource_40 rfl rfl ?_
        refine wm_getR 44 rfl dX5_addSource_41 gf_X5_9_4 rfl rfl ?_
        refine wm_aload_n 45 rfl dX5_addSource_44 rfl rfl ?_
        refine wm_getI 48 rfl dX5_addSource_45 gf_X5_67_4 rfl rfl ?_
        refine wm_iload_n 49 rfl dX5_addSource_48 rfl rfl ?_
        have q20 : m < 4 := by have := ne_of_nnI (b := 4) c20; omega
        rw [show zu σ 0 13 0 0 1 = nI m from hs]
        refine wm_iastore 50 rfl dX5_addSource_49 rfl (vp_in_nI (by omega) (by omega)) ?_
        rw [nI_clamp (by omega)]
        refine wm_aload_n 51 rfl dX5_addSource_50 rfl rfl ?_
        refine wm_dup 52 rfl rfl dX5_addSource_51 ?_
        refine wm_getI 55 rfl dX5_addSource_52 gf_X5_67_4 rfl rfl ?_
        refine wm_iconst (v := 1) 56 rfl dX5_addSource_55 (by decide) ?_
        refine wm_iadd 57 rfl dX5_addSource_56 ?_
        rw [show zu (zu σ 0 13 0) 1 m t 0 1 = nI m from hs, nI_1]
        refine wm_putI 60 rfl dX5_addSource_57 pf_X5_67_4 rfl rfl ?_
        refine wm_aload_n 61 rfl dX5_addSource_60 rfl rfl ?_
        refine wm_getI 64 rfl dX5_addSource_61 gf_X5_67_4 rfl rfl ?_
        refine wm_iconst (v := 1) 65 rfl dX5_addSource_64 (by decide) ?_
        refine wm_isub 66 rfl dX5_addSource_65 ?_
        exact wm_iret dX5_addSource_66 (by first | rfl | exact zp_nar) (Or.inr ⟨zp_n.mp c8, Or.inr ⟨q20, ⟨(mS_zz (mS_zz (mS_thr 0 σ) _ (fun e => by omega)) _ (fun _ => by decide)), nI_prd m⟩⟩⟩)
      · exact absurd (show (0 : Int32) ≤ 0 by decide) (show ¬ (0 : Int32) ≤ 0 from c35)
    · rw [hs] at c20
      refine wm_iconst (v := 2) 24 rfl dX5_addSource_23 (by decide) ?_
      refine wm_goto 28 (by decide) dX5_addSource_24 ?_
      refine wm_putI 31 rfl dX5_addSource_28 pf_X5_53_4 rfl rfl ?_
      refine wm_aload_n 32 rfl dX5_addSource_31 rfl rfl ?_
      refine wm_getI 35 rfl dX5_addSource_32 gf_X5_53_4 rfl rfl ?_
      refine wm_if_le 40 38 rfl (by decide) dX5_addSource_35 (fun c35 => ?_) (fun c35 => ?_)
      · exact absurd (show (2 : Int32) ≤ 0 from c35) (by decide)
      · refine wm_iconst (v := 0) 39 rfl dX5_addSource_38 (by decide) ?_
        exact wm_iret dX5_addSource_39 (by first | rfl | exact zp_nar) (by first | exact Or.inl ⟨zp_0.mp c8, mS_thr _ _⟩ | exact Or.inr ⟨zp_n.mp c8, Or.inl ⟨fun q => by have := eq_of_nI (b := 4) c20 (by omega) (by omega); omega, mS_thr _ _⟩⟩)
  · refine wm_iconst (v := 1) 12 rfl dX5_addSource_11 (by decide) ?_
    refine wm_goto 28 (by decide) dX5_addSource_12 ?_
    refine wm_putI 31 rfl dX5_addSource_28 pf_X5_53_4 rfl rfl ?_
    refine wm_aload_n 32 rfl dX5_addSource_31 rfl rfl ?_
    refine wm_getI 35 rfl dX5_addSource_32 gf_X5_53_4 rfl rfl ?_
    refine wm_if_le 40 38 rfl (by decide) dX5_addSource_35 (fun c35 => ?_) (fun c35 => ?_)
    · exact absurd (show (1 : Int32) ≤ 0 from c35) (by decide)
    · refine wm_iconst (v := 0) 39 rfl dX5_addSource_38 (by decide) ?_
      exact wm_iret dX5_addSource_39 (by first | rfl | exact zp_nar) (by first | exact Or.inl ⟨zp_0.mp c8, mS_thr _ _⟩ | exact Or.inr ⟨zp_n.mp c8, Or.inl ⟨fun q => by have := eq_of_nI (b := 4) c20 (by omega) (by omega); omega, mS_thr _ _⟩⟩)
theorem k_X5_setTrust (l : Launch) {σ : Sg} {m : Nat} (hs : σ 0 1 = nI m) (hm : m ≤ 4) (r t : Int32) : cMi l yX5_setTrust cX5_setTrust 4 .int 1 Lm [.ref 0, .int r, .int t] σ (fun v σ1 => mTh σ σ1 [(1, nR m r), (2, rg t 1 9)] (∃ i, r = nI i ∧ i < m ∧ mS 0 (zu σ 1 i t) σ1 ∧ v = σ 1 i)) := by
  refine zMet_of (by decide +kernel) (Nat.le_of_ble_eq_true rfl) (fun D cT ad sz => ?_)
  show Wm (fun _ _ => True) l (rmh 1) RX5 cX5_setTrust 4 (some .int) D cT ad Lm (zA ad Lm.length sz) (zZ (fun D cT ad L9 sz => zQi D cT ad L9 sz (fun v σ1 => mTh σ σ1 [(1, nR m r), (2, rg t 1 9)] (∃ i, r = nI i ∧ i < m ∧ mS 0 (zu σ 1 i t) σ1 ∧ v = σ 1 i))) D cT ad Lm sz) [] 0 (lv_args 0 [.ref 0, .int r, .int t]) [] σ 0 0
  refine wm_aload_n 1 rfl dX5_setTrust_0 rfl rfl ?_
  refine wm_iload_n 2 rfl dX5_setTrust_1 rfl rfl ?_
  refine wm_iconst (v := 0) 3 rfl dX5_setTrust_2 (by decide) ?_
  refine wm_aload_n 4 rfl dX5_setTrust_3 rfl rfl ?_
  refine wm_getI 7 rfl dX5_setTrust_4 gf_X5_67_4 rfl rfl ?_
  refine wm_iconst (v := 1) 8 rfl dX5_setTrust_7 (by decide) ?_
  refine wm_isub 9 rfl dX5_setTrust_8 ?_
  rw [hs]
  refine wm_callSi (ty := .boolean) 12 rfl dX5_setTrust_9 (k_X5_in l r 0 (nI m - 1)) ca_X5_in aw_5_3 aw_5_2 ⟨Nat.le_of_ble_eq_true rfl, Nat.le_of_ble_eq_true rfl⟩ (Nat.le_of_ble_eq_true rfl) ⟨Nat.zero_le _, Nat.zero_le _⟩ ?_
  rintro r9 σ9 ⟨rfl, rfl⟩
  refine wm_if_ne 19 15 rfl (by decide) dX5_setTrust_12 (fun c12 => ?_) (fun c12 => ?_)
  · refine wm_iload_n 20 rfl dX5_setTrust_19 rfl rfl ?_
    refine wm_iconst (v := 1) 21 rfl dX5_setTrust_20 (by decide) ?_
    refine wm_bipush (v := 9) 23 rfl dX5_setTrust_21 (by decide) ?_
    refine wm_callSi (ty := .boolean) 26 rfl dX5_setTrust_23 (k_X5_in l t 1 9) ca_X5_in aw_5_3 aw_5_2 ⟨Nat.le_of_ble_eq_true rfl, Nat.le_of_ble_eq_true rfl⟩ (Nat.le_of_ble_eq_true rfl) ⟨Nat.zero_le _, Nat.zero_le _⟩ ?_
    rintro r9 σ9 ⟨rfl, rfl⟩
    refine wm_if_ne 33 29 rfl (by decide) dX5_setTrust_26 (fun c26 => ?_) (fun c26 => ?_)
    · refine wm_iconst (v := 0) 34 rfl dX5_setTrust_33 (by decide) ?_
      refine wm_putI 37 rfl dX5_setTrust_34 pf_X5_53_4 rfl rfl ?_
      refine wm_aload_n 38 rfl dX5_setTrust_37 rfl rfl ?_
      refine wm_getI 41 rfl dX5_setTrust_38 gf_X5_53_4 rfl rfl ?_
      refine wm_if_le 46 44 rfl (by decide) dX5_setTrust_41 (fun c41 => ?_) (fun c41 => ?_)
      · have p1 := (rg_n (by omega)).mp (zp_n.mp c12)
        have q1 := p1
        obtain ⟨i, rfl, hi⟩ := q1
        refine wm_aload_n 47 rfl dX5_setTrust_46 rfl rfl ?_
        refine wm_getR 50 rfl dX5_setTrust_47 gf_X5_9_4 rfl rfl ?_
        refine wm_iload_n 51 rfl dX5_setTrust_50 rfl rfl ?_
        refine wm_iaload 52 rfl dX5_setTrust_51 rfl (vp_in_nI (by omega) (by omega)) ?_
        refine wm_istore_n (ls' := [(3, _), (0, _), (1, _), (2, _)]) 53 rfl dX5_setTrust_52 rfl (by decide) rfl ?_
        refine wm_aload_n 54 rfl dX5_setTrust_53 rfl rfl ?_
        refine wm_getR 57 rfl dX5_setTrust_54 gf_X5_9_4 rfl rfl ?_
        refine wm_iload_n 58 rfl dX5_setTrust_57 rfl rfl ?_
        refine wm_iload_n 59 rfl dX5_setTrust_58 rfl rfl ?_
        refine wm_iastore 60 rfl dX5_setTrust_59 rfl (vp_in_nI (by omega) (by omega)) ?_
        rw [nI_clamp (by omega)]
        refine wm_iload_n 61 rfl dX5_setTrust_60 rfl rfl ?_
        exact wm_iret dX5_setTrust_61 (by first | rfl | exact zp_nar) (Or.inr ⟨p1, Or.inr ⟨zp_n.mp c26, ⟨i, rfl, hi, (mS_zz (mS_thr 0 σ) _ (fun e => by omega)), rfl⟩⟩⟩)
      · exact absurd (show (0 : Int32) ≤ 0 by decide) (show ¬ (0 : Int32) ≤ 0 from c41)
    · refine wm_iconst (v := 2) 30 rfl dX5_setTrust_29 (by decide) ?_
      refine wm_goto 34 (by decide) dX5_setTrust_30 ?_
      refine wm_putI 37 rfl dX5_setTrust_34 pf_X5_53_4 rfl rfl ?_
      refine wm_aload_n 38 rfl dX5_setTrust_37 rfl rfl ?_
      refine wm_getI 41 rfl dX5_setTrust_38 gf_X5_53_4 rfl rfl ?_
      refine wm_if_le 46 44 rfl (by decide) dX5_setTrust_41 (fun c41 => ?_) (fun c41 => ?_)
      · exact absurd (show (2 : Int32) ≤ 0 from c41) (by decide)
      · refine wm_iconst (v := 0) 45 rfl dX5_setTrust_44 (by decide) ?_
        exact wm_iret dX5_setTrust_45 (by first | rfl | exact zp_nar) (by first | exact Or.inl ⟨fun q => zp_0.mp c12 ((rg_n (by omega)).mpr q), mS_thr _ _⟩ | exact Or.inr ⟨(rg_n (by omega)).mp (zp_n.mp c12), Or.inl ⟨zp_0.mp c26, mS_thr _ _⟩⟩)
  · refine wm_iconst (v := 1) 16 rfl dX5_setTrust_15 (by decide) ?_
    refine wm_goto 34 (by decide) dX5_setTrust_16 ?_
    refine wm_putI 37 rfl dX5_setTrust_34 pf_X5_53_4 rfl rfl ?_
    refine wm_aload_n 38 rfl dX5_setTrust_37 rfl rfl ?_
    refine wm_getI 41 rfl dX5_setTrust_38 gf_X5_53_4 rfl rfl ?_
    refine wm_if_le 46 44 rfl (by decide) dX5_setTrust_41 (fun c41 => ?_) (fun c41 => ?_)
    · exact absurd (show (1 : Int32) ≤ 0 from c41) (by decide)
    · refine wm_iconst (v := 0) 45 rfl dX5_setTrust_44 (by decide) ?_
      exact wm_iret dX5_setTrust_45 (by first | rfl | exact zp_nar) (by first | exact Or.inl ⟨fun q => zp_0.mp c12 ((rg_n (by omega)).mpr q), mS_thr _ _⟩ | exact Or.inr ⟨(rg_n (by omega)).mp (zp_n.mp c12), Or.inl ⟨zp_0.mp c26, mS_thr _ _⟩⟩)
theorem k_X5_addRecord (l : Launch) {σ : Sg} {n : Nat} (hI : mI σ n) {m : Nat} (hs : σ 0 1 = nI m) (hm : m ≤ 4) (s k0 k1 k2 : Int32) : cMi l yX5_addRecord cX5_addRecord 7 .int 2 Lm [.ref 0, .int s, .int k0, .int k1, .int k2] σ (fun v σ1 => mTh σ σ1 [(1, nR m s), (2, rg k0 (-1) 99), (2, rg k1 (-1) 99), (2, rg k2 (-1) 99), (3, n < 24)] (mS 0 (arM σ n s k0 k1 k2) σ1 ∧ v = nI n)) := by
  have h24 := hI.2
  refine zMet_of (by decide +kernel) (Nat.le_of_ble_eq_true rfl) (fun D cT ad sz => ?_)
  show Wm (fun _ _ => True) l (rmh 2) RX5 cX5_addRecord 7 (some .int) D cT ad Lm (zA ad Lm.length sz) (zZ (fun D cT ad L9 sz => zQi D cT ad L9 sz (fun v σ1 => mTh σ σ1 [(1, nR m s), (2, rg k0 (-1) 99), (2, rg k1 (-1) 99), (2, rg k2 (-1) 99), (3, n < 24)] (mS 0 (arM σ n s k0 k1 k2) σ1 ∧ v = nI n))) D cT ad Lm sz) [] 0 (lv_args 0 [.ref 0, .int s, .int k0, .int k1, .int k2]) [] σ 0 0
  refine wm_aload_n 1 rfl dX5_addRecord_0 rfl rfl ?_
  refine wm_iload_n 2 rfl dX5_addRecord_1 rfl rfl ?_
  refine wm_iconst (v := 0) 3 rfl dX5_addRecord_2 (by decide) ?_
  refine wm_aload_n 4 rfl dX5_addRecord_3 rfl rfl ?_
  refine wm_getI 7 rfl dX5_addRecord_4 gf_X5_67_4 rfl rfl ?_
  refine wm_iconst (v := 1) 8 rfl dX5_addRecord_7 (by decide) ?_
  refine wm_isub 9 rfl dX5_addRecord_8 ?_
  rw [hs]
  refine wm_callSi (ty := .boolean) 12 rfl dX5_addRecord_9 (k_X5_in l s 0 (nI m - 1)) ca_X5_in aw_5_3 aw_5_2 ⟨Nat.le_of_ble_eq_true rfl, Nat.le_of_ble_eq_true rfl⟩ (Nat.le_of_ble_eq_true rfl) ⟨Nat.zero_le _, Nat.zero_le _⟩ ?_
  rintro r9 σ9 ⟨rfl, rfl⟩
  refine wm_if_ne 19 15 rfl (by decide) dX5_addRecord_12 (fun c12 => ?_) (fun c12 => ?_)
  · refine wm_iload_n 20 rfl dX5_addRecord_19 rfl rfl ?_
    refine wm_callSi (ty := .boolean) 23 rfl dX5_addRecord_20 (k_X5_isKey l k0) ca_X5_isKey aw_7_7 aw_7_6 ⟨Nat.le_of_ble_eq_true rfl, Nat.le_of_ble_eq_true rfl⟩ (Nat.le_of_ble_eq_true rfl) ⟨Nat.zero_le _, Nat.zero_le _⟩ ?_
    rintro r9 σ9 ⟨rfl, rfl⟩
    refine wm_if_eq 41 26 rfl (by decide) dX5_addRecord_23 (fun c23 => ?_) (fun c23 => ?_)
    · refine wm_iconst (v := 2) 42 rfl dX5_addRecord_41 (by decide) ?_
      refine wm_goto 59 (by decide) dX5_addRecord_42 ?_
      refine wm_putI 62 rfl dX5_addRecord_59 pf_X5_53_4 rfl rfl ?_
      refine wm_aload_n 63 rfl dX5_addRecord_62 rfl rfl ?_
      refine wm_getI 66 rfl dX5_addRecord_63 gf_X5_53_4 rfl rfl ?_
      refine wm_if_le 71 69 rfl (by decide) dX5_addRecord_66 (fun c66 => ?_) (fun c66 => ?_)
      · exact absurd (show (2 : Int32) ≤ 0 from c66) (by decide)
      · refine wm_iconst (v := 0) 70 rfl dX5_addRecord_69 (by decide) ?_
        exact wm_iret dX5_addRecord_70 (by first | rfl | exact zp_nar) (by first | exact Or.inl ⟨fun q => zp_0.mp c12 ((rg_n (by omega)).mpr q), mS_thr _ _⟩ | exact Or.inr ⟨(rg_n (by omega)).mp (zp_n.mp c12), Or.inl ⟨zp_0.mp c23, mS_thr _ _⟩⟩ | exact Or.inr ⟨(rg_n (by omega)).mp (zp_n.mp c12), Or.inr ⟨zp_n.mp c23, Or.inl ⟨zp_0.mp c30, mS_thr _ _⟩⟩⟩ | exact Or.inr ⟨(rg_n (by omega)).mp (zp_n.mp c12), Or.inr ⟨zp_n.mp c23, Or.inr ⟨zp_n.mp c30, Or.inl ⟨zp_0.mp c38, mS_thr _ _⟩⟩⟩⟩ | exact Or.inr ⟨(rg_n (by omega)).mp (zp_n.mp c12), Or.inr ⟨zp_n.mp c23, Or.inr ⟨zp_n.mp c30, Or.inr ⟨zp_n.mp c38, Or.inl ⟨fun q => by have := eq_of_nI (b := 24) c51 (by omega) (by omega); omega, mS_thr _ _⟩⟩⟩⟩⟩)
    · refine wm_iload_n 27 rfl dX5_addRecord_26 rfl rfl ?_
      refine wm_callSi (ty := .boolean) 30 rfl dX5_addRecord_27 (k_X5_isKey l k1) ca_X5_isKey aw_7_7 aw_7_6 ⟨Nat.le_of_ble_eq_true rfl, Nat.le_of_ble_eq_true rfl⟩ (Nat.le_of_ble_eq_true rfl) ⟨Nat.zero_le _, Nat.zero_le _⟩ ?_
      rintro r9 σ9 ⟨rfl, rfl⟩
      refine wm_if_eq 41 33 rfl (by decide) dX5_addRecord_30 (fun c30 => ?_) (fun c30 => ?_)
      · refine wm_iconst (v := 2) 42 rfl dX5_addRecord_41 (by decide) ?_
        refine wm_goto 59 (by decide) dX5_addRecord_42 ?_
        refine wm_putI 62 rfl dX5_addRecord_59 pf_X5_53_4 rfl rfl ?_
        refine wm_aload_n 63 rfl dX5_addRecord_62 rfl rfl ?_
        refine wm_getI 66 rfl dX5_addRecord_63 gf_X5_53_4 rfl rfl ?_
        refine wm_if_le 71 69 rfl (by decide) dX5_addRecord_66 (fun c66 => ?_) (fun c66 => ?_)
        · exact absurd (show (2 : Int32) ≤ 0 from c66) (by decide)
        · refine wm_iconst (v := 0) 70 rfl dX5_addRecord_69 (by decide) ?_
          exact wm_iret dX5_addRecord_70 (by first | rfl | exact zp_nar) (by first | exact Or.inl ⟨fun q => zp_0.mp c12 ((rg_n (by omega)).mpr q), mS_thr _ _⟩ | exact Or.inr ⟨(rg_n (by omega)).mp (zp_n.mp c12), Or.inl ⟨zp_0.mp c23, mS_thr _ _⟩⟩ | exact Or.inr ⟨(rg_n (by omega)).mp (zp_n.mp c12), Or.inr ⟨zp_n.mp c23, Or.inl ⟨zp_0.mp c30, mS_thr _ _⟩⟩⟩ | exact Or.inr ⟨(rg_n (by omega)).mp (zp_n.mp c12), Or.inr ⟨zp_n.mp c23, Or.inr ⟨zp_n.mp c30, Or.inl ⟨zp_0.mp c38, mS_thr _ _⟩⟩⟩⟩ | exact Or.inr ⟨(rg_n (by omega)).mp (zp_n.mp c12), Or.inr ⟨zp_n.mp c23, Or.inr ⟨zp_n.mp c30, Or.inr ⟨zp_n.mp c38, Or.inl ⟨fun q => by have := eq_of_nI (b := 24) c51 (by omega) (by omega); omega, mS_thr _ _⟩⟩⟩⟩⟩)
      · refine wm_iload 35 rfl dX5_addRecord_33 rfl ?_
        refine wm_callSi (ty := .boolean) 38 rfl dX5_addRecord_35 (k_X5_isKey l k2) ca_X5_isKey aw_7_7 aw_7_6 ⟨Nat.le_of_ble_eq_true rfl, Nat.le_of_ble_eq_true rfl⟩ (Nat.le_of_ble_eq_true rfl) ⟨Nat.zero_le _, Nat.zero_le _⟩ ?_
        rintro r9 σ9 ⟨rfl, rfl⟩
        refine wm_if_ne 45 41 rfl (by decide) dX5_addRecord_38 (fun c38 => ?_) (fun c38 => ?_)
        · refine wm_aload_n 46 rfl dX5_addRecord_45 rfl rfl ?_
          refine wm_getI 49 rfl dX5_addRecord_46 gf_X5_56_4 rfl rfl ?_
          refine wm_bipush (v := 24) 51 rfl dX5_addRecord_49 (by decide) ?_
          refine wm_icmp_ne 58 54 rfl (by decide) dX5_addRecord_51 (fun c51 => ?_) (fun c51 => ?_)
          · rw [hI.1] at c51
            refine wm_iconst (v := 0) 59 rfl dX5_addRecord_58 (by decide) ?_
            refine wm_putI 62 rfl dX5_addRecord_59 pf_X5_53_4 rfl rfl ?_
            refine wm_aload_n 63 rfl dX5_addRecord_62 rfl rfl ?_
            refine wm_getI 66 rfl dX5_addRecord_63 gf_X5_53_4 rfl rfl ?_
            refine wm_if_le 71 69 rfl (by decide) dX5_addRecord_66 (fun c66 => ?_) (fun c66 => ?_)
            · refine wm_aload_n 72 rfl dX5_addRecord_71 rfl rfl ?_
              refine wm_getI 75 rfl dX5_addRecord_72 gf_X5_56_4 rfl rfl ?_
              have q51 : n < 24 := by have := ne_of_nnI (b := 24) c51; omega
              rw [show zu σ 0 13 0 0 7 = nI n from hI.1]
              refine wm_istore (ls' := [(5, _), (0, _), (1, _), (2, _), (3, _), (4, _)]) 77 rfl dX5_addRecord_75 (by decide) rfl ?_
              refine wm_aload_n 78 rfl dX5_addRecord_77 rfl rfl ?_
              refine wm_dup 79 rfl rfl dX5_addRecord_78 ?_
              refine wm_getI 82 rfl dX5_addRecord_79 gf_X5_56_4 rfl rfl ?_
              refine wm_iconst (v := 1) 83 rfl dX5_addRecord_82 (by decide) ?_
              refine wm_iadd 84 rfl dX5_addRecord_83 ?_
              rw [show zu σ 0 13 0 0 7 = nI n from hI.1, nI_1]
              refine wm_putI 87 rfl dX5_addRecord_84 pf_X5_56_4 rfl rfl ?_
              refine wm_aload_n 88 rfl dX5_addRecord_87 rfl rfl ?_
              refine wm_getR 91 rfl dX5_addRecord_88 gf_X5_13_4 rfl rfl ?_
              refine wm_iload 93 rfl dX5_addRecord_91 rfl ?_
              refine wm_iload_n 94 rfl dX5_addRecord_93 rfl rfl ?_
              refine wm_iastore 95 rfl dX5_addRecord_94 rfl (in24 q51 (by omega)) ?_
              refine wm_aload_n 96 rfl dX5_addRecord_95 rfl rfl ?_
              refine wm_getR 99 rfl dX5_addRecord_96 gf_X5_16_4 rfl rfl ?_
              refine wm_iload 101 rfl dX5_addRecord_99 rfl ?_
              refine wm_aload_n 102 rfl dX5_addRecord_101 rfl rfl ?_
              refine wm_getI 105 rfl dX5_addRecord_102 gf_X5_73_4 rfl rfl ?_
              refine wm_iastore 106 rfl dX5_addRecord_105 rfl (in24 q51 (by omega)) ?_
              rw [nI_clamp (by omega)]
              refine wm_aload_n 107 rfl dX5_addRecord_106 rfl rfl ?_
              refine wm_getR 110 rfl dX5_addRecord_107 gf_X5_21_4 rfl rfl ?_
              refine wm_iload 112 rfl dX5_addRecord_110 rfl ?_
              refine wm_aaload (r := 11 + n) 113 rfl dX5_addRecord_112 rfl (vp_in_nI (by omega) (by omega)) (by rw [nI_clamp (by omega)]) ?_
              refine wm_iconst (v := 0) 114 rfl dX5_addRecord_113 (by decide) ?_
              refine wm_iload_n 115 rfl dX5_addRecord_114 rfl rfl ?_
              refine wm_iastore 116 rfl dX5_addRecord_115 (Lm_row (by omega) (by omega)) vp03 ?_
              refine wm_aload_n 117 rfl dX5_addRecord_116 rfl rfl ?_
              refine wm_getR 120 rfl dX5_addRecord_117 gf_X5_21_4 rfl rfl ?_
              refine wm_iload 122 rfl dX5_addRecord_120 rfl ?_
              refine wm_aaload (r := 11 + n) 123 rfl dX5_addRecord_122 rfl (vp_in_nI (by omega) (by omega)) (by rw [nI_clamp (by omega)]) ?_
              refine wm_iconst (v := 1) 124 rfl dX5_addRecord_123 (by decide) ?_
              refine wm_iload_n 125 rfl dX5_addRecord_124 rfl rfl ?_
              refine wm_iastore 126 rfl dX5_addRecord_125 (Lm_row (by omega) (by omega)) vp13 ?_
              refine wm_aload_n 127 rfl dX5_addRecord_126 rfl rfl ?_
              refine wm_getR 130 rfl dX5_addRecord_127 gf_X5_21_4 rfl rfl ?_
              refine wm_iload 132 rfl dX5_addRecord_130 rfl ?_
              refine wm_aaload (r := 11 + n) 133 rfl dX5_addRecord_132 rfl (vp_in_nI (by omega) (by omega)) (by rw [nI_clamp (by omega)]) ?_
              refine wm_iconst (v := 2) 134 rfl dX5_addRecord_133 (by decide) ?_
              refine wm_iload 136 rfl dX5_addRecord_134 rfl ?_
              refine wm_iastore 137 rfl dX5_addRecord_136 (Lm_row (by omega) (by omega)) vp23 ?_
              refine wm_iconst (v := 0) 138 rfl dX5_addRecord_137 (by decide) ?_
              refine wm_istore (ls' := [(6, _), (5, _), (0, _), (1, _), (2, _), (3, _), (4, _)]) 140 rfl dX5_addRecord_138 (by decide) rfl ?_
              refine wm_loc (ls2 := [(0, _), (1, _), (2, _), (3, _), (4, _), (5, _), (6, _)]) [2, 3, 4, 5, 6, 1, 0] rfl ?_
              have lp : ∀ (q9 j : Nat), 3 - j = q9 → j ≤ 3 → True → Wm (fun _ _ => True) l (rmh 2) RX5 cX5_addRecord 7 (some .int) D cT ad Lm (zA ad Lm.length sz) (zZ (fun D cT ad L9 sz => zQi D cT ad L9 sz (fun v σ1 => mTh σ σ1 [(1, nR m s), (2, rg k0 (-1) 99), (2, rg k1 (-1) 99), (2, rg k2 (-1) 99), (3, n < 24)] (mS 0 (arM σ n s k0 k1 k2) σ1 ∧ v = nI n))) D cT ad Lm sz) [] 140 [(0, .ref 0), (1, .int s), (2, .int k0), (3, .int k1), (4, .int k2), (5, .int (nI n)), (6, .int (nI j))] [] (ffM (zu (zu (zu (zu (zu (zu (zu σ 0 13 0) 0 7 (nI (n + 1))) 2 n s) 3 n (σ 0 12)) (11 + n) 0 k0) (11 + n) 1 k1) (11 + n) 2 k2) n j) 0 0 := by
                intro q9
                induction q9 using Nat.strongRecOn with
                | ind q9 ih =>
                  intro j  hmj hjj hinv
                  refine wm_iload 142 rfl dX5_addRecord_140 rfl ?_
                  refine wm_iconst (v := 3) 143 rfl dX5_addRecord_142 (by decide) ?_
                  refine wm_icmp_ge 163 146 rfl (by decide) dX5_addRecord_143 (fun c143 => ?_) (fun c143 => ?_)
                  · have gj : j = 3 := by have := le_of_nI (a := 3) c143 (by omega) (by omega); omega
                    refine wm_iload 165 rfl dX5_addRecord_163 rfl ?_
                    exact wm_iret dX5_addRecord_165 (by first | rfl | exact zp_nar) (by subst gj; exact Or.inr ⟨(rg_n (by omega)).mp (zp_n.mp c12), Or.inr ⟨zp_n.mp c23, Or.inr ⟨zp_n.mp c30, Or.inr ⟨zp_n.mp c38, Or.inr ⟨q51, ⟨mS_ff (mS_zz (mS_zz (mS_zz (mS_zz (mS_zz (mS_zz (mS_thr 0 σ) _ (fun _ => by decide)) _ (fun e => by omega)) _ (fun e => by omega)) _ (fun e => by omega)) _ (fun e => by omega)) _ (fun e => by omega)) n 3, rfl⟩⟩⟩⟩⟩⟩)
                  · have gj : j < 3 := lt_of_nnI (a := 3) c143 (by omega) (by omega)
                    refine wm_aload_n 147 rfl dX5_addRecord_146 rfl rfl ?_
                    refine wm_getR 150 rfl dX5_addRecord_147 gf_X5_24_4 rfl rfl ?_
                    refine wm_iload 152 rfl dX5_addRecord_150 rfl ?_
                    refine wm_aaload (r := 35 + n) 153 rfl dX5_addRecord_152 rfl (vp_in_nI (by omega) (by omega)) (by rw [nI_clamp (by omega)]) ?_
                    refine wm_iload 155 rfl dX5_addRecord_153 rfl ?_
                    refine wm_iconst (v := (-1)) 156 rfl dX5_addRecord_155 (by decide) ?_
                    refine wm_iastore 157 rfl dX5_addRecord_156 (Lm_row (by omega) (by omega)) (vp_in_nI (by omega) (by omega)) ?_
                    rw [nI_clamp (by omega)]
                    refine wm_iinc (ls' := [(6, _), (0, _), (1, _), (2, _), (3, _), (4, _), (5, _)]) 160 rfl dX5_addRecord_157 rfl (nI_inc _) (by decide) rfl ?_
                    refine wm_goto 140 (by decide) dX5_addRecord_160 ?_
                    refine wm_loc (ls2 := [(0, _), (1, _), (2, _), (3, _), (4, _), (5, _), (6, _)]) [1, 2, 3, 4, 5, 6, 0] rfl ?_
                    exact ih (3 - (j + 1)) (by omega) (j + 1) rfl (by omega) trivial
              exact lp 3 0 rfl (Nat.zero_le _) trivial
            · exact absurd (show (0 : Int32) ≤ 0 by decide) (show ¬ (0 : Int32) ≤ 0 from c66)
          · rw [hI.1] at c51
            refine wm_iconst (v := 3) 55 rfl dX5_addRecord_54 (by decide) ?_
            refine wm_goto 59 (by decide) dX5_addRecord_55 ?_
            refine wm_putI 62 rfl dX5_addRecord_59 pf_X5_53_4 rfl rfl ?_
            refine wm_aload_n 63 rfl dX5_addRecord_62 rfl rfl ?_
            refine wm_getI 66 rfl dX5_addRecord_63 gf_X5_53_4 rfl rfl ?_
            refine wm_if_le 71 69 rfl (by decide) dX5_addRecord_66 (fun c66 => ?_) (fun c66 => ?_)
            · exact absurd (show (3 : Int32) ≤ 0 from c66) (by decide)
            · refine wm_iconst (v := 0) 70 rfl dX5_addRecord_69 (by decide) ?_
              exact wm_iret dX5_addRecord_70 (by first | rfl | exact zp_nar) (by first | exact Or.inl ⟨fun q => zp_0.mp c12 ((rg_n (by omega)).mpr q), mS_thr _ _⟩ | exact Or.inr ⟨(rg_n (by omega)).mp (zp_n.mp c12), Or.inl ⟨zp_0.mp c23, mS_thr _ _⟩⟩ | exact Or.inr ⟨(rg_n (by omega)).mp (zp_n.mp c12), Or.inr ⟨zp_n.mp c23, Or.inl ⟨zp_0.mp c30, mS_thr _ _⟩⟩⟩ | exact Or.inr ⟨(rg_n (by omega)).mp (zp_n.mp c12), Or.inr ⟨zp_n.mp c23, Or.inr ⟨zp_n.mp c30, Or.inl ⟨zp_0.mp c38, mS_thr _ _⟩⟩⟩⟩ | exact Or.inr ⟨(rg_n (by omega)).mp (zp_n.mp c12), Or.inr ⟨zp_n.mp c23, Or.inr ⟨zp_n.mp c30, Or.inr ⟨zp_n.mp c38, Or.inl ⟨fun q => by have := eq_of_nI (b := 24) c51 (by omega) (by omega); omega, mS_thr _ _⟩⟩⟩⟩⟩)
        · refine wm_iconst (v := 2) 42 rfl dX5_addRecord_41 (by decide) ?_
          refine wm_goto 59 (by decide) dX5_addRecord_42 ?_
          refine wm_putI 62 rfl dX5_addRecord_59 pf_X5_53_4 rfl rfl ?_
          refine wm_aload_n 63 rfl dX5_addRecord_62 rfl rfl ?_
          refine wm_getI 66 rfl dX5_addRecord_63 gf_X5_53_4 rfl rfl ?_
          refine wm_if_le 71 69 rfl (by decide) dX5_addRecord_66 (fun c66 => ?_) (fun c66 => ?_)
          · exact absurd (show (2 : Int32) ≤ 0 from c66) (by decide)
          · refine wm_iconst (v := 0) 70 rfl dX5_addRecord_69 (by decide) ?_
            exact wm_iret dX5_addRecord_70 (by first | rfl | exact zp_nar) (by first | exact Or.inl ⟨fun q => zp_0.mp c12 ((rg_n (by omega)).mpr q), mS_thr _ _⟩ | exact Or.inr ⟨(rg_n (by omega)).mp (zp_n.mp c12), Or.inl ⟨zp_0.mp c23, mS_thr _ _⟩⟩ | exact Or.inr ⟨(rg_n (by omega)).mp (zp_n.mp c12), Or.inr ⟨zp_n.mp c23, Or.inl ⟨zp_0.mp c30, mS_thr _ _⟩⟩⟩ | exact Or.inr ⟨(rg_n (by omega)).mp (zp_n.mp c12), Or.inr ⟨zp_n.mp c23, Or.inr ⟨zp_n.mp c30, Or.inl ⟨zp_0.mp c38, mS_thr _ _⟩⟩⟩⟩ | exact Or.inr ⟨(rg_n (by omega)).mp (zp_n.mp c12), Or.inr ⟨zp_n.mp c23, Or.inr ⟨zp_n.mp c30, Or.inr ⟨zp_n.mp c38, Or.inl ⟨fun q => by have := eq_of_nI (b := 24) c51 (by omega) (by omega); omega, mS_thr _ _⟩⟩⟩⟩⟩)
  · refine wm_iconst (v := 1) 16 rfl dX5_addRecord_15 (by decide) ?_
    refine wm_goto 59 (by decide) dX5_addRecord_16 ?_
    refine wm_putI 62 rfl dX5_addRecord_59 pf_X5_53_4 rfl rfl ?_
    refine wm_aload_n 63 rfl dX5_addRecord_62 rfl rfl ?_
    refine wm_getI 66 rfl dX5_addRecord_63 gf_X5_53_4 rfl rfl ?_
    refine wm_if_le 71 69 rfl (by decide) dX5_addRecord_66 (fun c66 => ?_) (fun c66 => ?_)
    · exact absurd (show (1 : Int32) ≤ 0 from c66) (by decide)
    · refine wm_iconst (v := 0) 70 rfl dX5_addRecord_69 (by decide) ?_
      exact wm_iret dX5_addRecord_70 (by first | rfl | exact zp_nar) (by first | exact Or.inl ⟨fun q => zp_0.mp c12 ((rg_n (by omega)).mpr q), mS_thr _ _⟩ | exact Or.inr ⟨(rg_n (by omega)).mp (zp_n.mp c12), Or.inl ⟨zp_0.mp c23, mS_thr _ _⟩⟩ | exact Or.inr ⟨(rg_n (by omega)).mp (zp_n.mp c12), Or.inr ⟨zp_n.mp c23, Or.inl ⟨zp_0.mp c30, mS_thr _ _⟩⟩⟩ | exact Or.inr ⟨(rg_n (by omega)).mp (zp_n.mp c12), Or.inr ⟨zp_n.mp c23, Or.inr ⟨zp_n.mp c30, Or.inl ⟨zp_0.mp c38, mS_thr _ _⟩⟩⟩⟩ | exact Or.inr ⟨(rg_n (by omega)).mp (zp_n.mp c12), Or.inr ⟨zp_n.mp c23, Or.inr ⟨zp_n.mp c30, Or.inr ⟨zp_n.mp c38, Or.inl ⟨fun q => by have := eq_of_nI (b := 24) c51 (by omega) (by omega); omega, mS_thr _ _⟩⟩⟩⟩⟩)
theorem k_X5_setKey (l : Launch) {σ : Sg} {n : Nat} (hI : mI σ n) (r k v : Int32) : cMi l yX5_setKey cX5_setKey 5 .int 2 Lm [.ref 0, .int r, .int k, .int v] σ (fun o σ1 => mTh σ σ1 [(1, rcM σ n r), (1, nR 3 k), (2, rg v (-1) 99)] (∃ a i, r = nI a ∧ k = nI i ∧ a < n ∧ σ 6 a = 0 ∧ i < 3 ∧ mS 0 (zu σ (11 + a) i v) σ1 ∧ o = σ (11 + a) i)) := by
  have h24 := hI.2
  refine zMet_of (by decide +kernel) (Nat.le_of_ble_eq_true rfl) (fun D cT ad sz => ?_)
  show Wm (fun _ _ => True) l (rmh 2) RX5 cX5_setKey 5 (some .int) D cT ad Lm (zA ad Lm.length sz) (zZ (fun D cT ad L9 sz => zQi D cT ad L9 sz (fun o σ1 => mTh σ σ1 [(1, rcM σ n r), (1, nR 3 k), (2, rg v (-1) 99)] (∃ a i, r = nI a ∧ k = nI i ∧ a < n ∧ σ 6 a = 0 ∧ i < 3 ∧ mS 0 (zu σ (11 + a) i v) σ1 ∧ o = σ (11 + a) i))) D cT ad Lm sz) [] 0 (lv_args 0 [.ref 0, .int r, .int k, .int v]) [] σ 0 0
  refine wm_aload_n 1 rfl dX5_setKey_0 rfl rfl ?_
  refine wm_aload_n 2 rfl dX5_setKey_1 rfl rfl ?_
  refine wm_iload_n 3 rfl dX5_setKey_2 rfl rfl ?_
  refine wm_callVi (ty := .boolean) 6 rfl dX5_setKey_3 (k_X5_isRecord l hI _) ca_X5_isRecord cv_X5_isRecord rfl aw_8_10 rfl rfl ⟨Nat.le_of_ble_eq_true rfl, Nat.le_of_ble_eq_true rfl⟩ (Nat.le_of_ble_eq_true rfl) ⟨Nat.zero_le _, Nat.zero_le _⟩ ?_
  rintro r9 σ9 ⟨rfl, rfl⟩
  refine wm_if_eq 18 9 rfl (by decide) dX5_setKey_6 (fun c6 => ?_) (fun c6 => ?_)
  · refine wm_iconst (v := 1) 19 rfl dX5_setKey_18 (by decide) ?_
    refine wm_goto 34 (by decide) dX5_setKey_19 ?_
    refine wm_putI 37 rfl dX5_setKey_34 pf_X5_53_4 rfl rfl ?_
    refine wm_aload_n 38 rfl dX5_setKey_37 rfl rfl ?_
    refine wm_getI 41 rfl dX5_setKey_38 gf_X5_53_4 rfl rfl ?_
    refine wm_if_le 46 44 rfl (by decide) dX5_setKey_41 (fun c41 => ?_) (fun c41 => ?_)
    · exact absurd (show (1 : Int32) ≤ 0 from c41) (by decide)
    · refine wm_iconst (v := 0) 45 rfl dX5_setKey_44 (by decide) ?_
      exact wm_iret dX5_setKey_45 (by first | rfl | exact zp_nar) (by first | exact Or.inl ⟨zp_0.mp c6, mS_thr _ _⟩ | exact Or.inr ⟨zp_n.mp c6, Or.inl ⟨fun q => zp_0.mp c15 (rg_3.mpr q), mS_thr _ _⟩⟩ | exact Or.inr ⟨zp_n.mp c6, Or.inr ⟨rg_3.mp (zp_n.mp c15), Or.inl ⟨zp_0.mp c26, mS_thr _ _⟩⟩⟩)
  · refine wm_iload_n 10 rfl dX5_setKey_9 rfl rfl ?_
    refine wm_iconst (v := 0) 11 rfl dX5_setKey_10 (by decide) ?_
    refine wm_iconst (v := 2) 12 rfl dX5_setKey_11 (by decide) ?_
    refine wm_callSi (ty := .boolean) 15 rfl dX5_setKey_12 (k_X5_in l k 0 2) ca_X5_in aw_5_3 aw_5_2 ⟨Nat.le_of_ble_eq_true rfl, Nat.le_of_ble_eq_true rfl⟩ (Nat.le_of_ble_eq_true rfl) ⟨Nat.zero_le _, Nat.zero_le _⟩ ?_
    rintro r9 σ9 ⟨rfl, rfl⟩
    refine wm_if_ne 22 18 rfl (by decide) dX5_setKey_15 (fun c15 => ?_) (fun c15 => ?_)
    · refine wm_iload_n 23 rfl dX5_setKey_22 rfl rfl ?_
      refine wm_callSi (ty := .boolean) 26 rfl dX5_setKey_23 (k_X5_isKey l v) ca_X5_isKey aw_7_7 aw_7_6 ⟨Nat.le_of_ble_eq_true rfl, Nat.le_of_ble_eq_true rfl⟩ (Nat.le_of_ble_eq_true rfl) ⟨Nat.zero_le _, Nat.zero_le _⟩ ?_
      rintro r9 σ9 ⟨rfl, rfl⟩
      refine wm_if_ne 33 29 rfl (by decide) dX5_setKey_26 (fun c26 => ?_) (fun c26 => ?_)
      · refine wm_iconst (v := 0) 34 rfl dX5_setKey_33 (by decide) ?_
        refine wm_putI 37 rfl dX5_setKey_34 pf_X5_53_4 rfl rfl ?_
        refine wm_aload_n 38 rfl dX5_setKey_37 rfl rfl ?_
        refine wm_getI 41 rfl dX5_setKey_38 gf_X5_53_4 rfl rfl ?_
        refine wm_if_le 46 44 rfl (by decide) dX5_setKey_41 (fun c41 => ?_) (fun c41 => ?_)
        · have p1 := zp_n.mp c6
          have p2 := rg_3.mp (zp_n.mp c15)
          have q1 := p1
          have q2 := p2
          obtain ⟨a, rfl, ha, h6⟩ := q1
          obtain ⟨i, rfl, hi⟩ := q2
          refine wm_aload_n 47 rfl dX5_setKey_46 rfl rfl ?_
          refine wm_getR 50 rfl dX5_setKey_47 gf_X5_21_4 rfl rfl ?_
          refine wm_iload_n 51 rfl dX5_setKey_50 rfl rfl ?_
          refine wm_aaload (r := 11 + a) 52 rfl dX5_setKey_51 rfl (vp_in_nI (by omega) (by omega)) (by rw [nI_clamp (by omega)]) ?_
          refine wm_iload_n 53 rfl dX5_setKey_52 rfl rfl ?_
          refine wm_iaload 54 rfl dX5_setKey_53 (Lm_row (by omega) (by omega)) (vp_in_nI hi (by omega)) ?_
          refine wm_istore (ls' := [(4, _), (0, _), (1, _), (2, _), (3, _)]) 56 rfl dX5_setKey_54 (by decide) rfl ?_
          refine wm_aload_n 57 rfl dX5_setKey_56 rfl rfl ?_
          refine wm_getR 60 rfl dX5_setKey_57 gf_X5_21_4 rfl rfl ?_
          refine wm_iload_n 61 rfl dX5_setKey_60 rfl rfl ?_
          refine wm_aaload (r := 11 + a) 62 rfl dX5_setKey_61 rfl (vp_in_nI (by omega) (by omega)) (by rw [nI_clamp (by omega)]) ?_
          refine wm_iload_n 63 rfl dX5_setKey_62 rfl rfl ?_
          refine wm_iload_n 64 rfl dX5_setKey_63 rfl rfl ?_
          refine wm_iastore 65 rfl dX5_setKey_64 (Lm_row (by omega) (by omega)) (vp_in_nI hi (by omega)) ?_
          rw [nI_clamp (by omega)]
          refine wm_iload 67 rfl dX5_setKey_65 rfl ?_
          exact wm_iret dX5_setKey_67 (by first | rfl | exact zp_nar) (Or.inr ⟨p1, Or.inr ⟨p2, Or.inr ⟨zp_n.mp c26, ⟨a, i, rfl, rfl, ha, h6, hi, (mS_zz (mS_thr 0 σ) _ (fun e => by omega)), by rw [zu_ne _ _ _ (by omega)]⟩⟩⟩⟩)
        · exact absurd (show (0 : Int32) ≤ 0 by decide) (show ¬ (0 : Int32) ≤ 0 from c41)
      · refine wm_iconst (v := 2) 30 rfl dX5_setKey_29 (by decide) ?_
        refine wm_goto 34 (by decide) dX5_setKey_30 ?_
        refine wm_putI 37 rfl dX5_setKey_34 pf_X5_53_4 rfl rfl ?_
        refine wm_aload_n 38 rfl dX5_setKey_37 rfl rfl ?_
        refine wm_getI 41 rfl dX5_setKey_38 gf_X5_53_4 rfl rfl ?_
        refine wm_if_le 46 44 rfl (by decide) dX5_setKey_41 (fun c41 => ?_) (fun c41 => ?_)
        · exact absurd (show (2 : Int32) ≤ 0 from c41) (by decide)
        · refine wm_iconst (v := 0) 45 rfl dX5_setKey_44 (by decide) ?_
          exact wm_iret dX5_setKey_45 (by first | rfl | exact zp_nar) (by first | exact Or.inl ⟨zp_0.mp c6, mS_thr _ _⟩ | exact Or.inr ⟨zp_n.mp c6, Or.inl ⟨fun q => zp_0.mp c15 (rg_3.mpr q), mS_thr _ _⟩⟩ | exact Or.inr ⟨zp_n.mp c6, Or.inr ⟨rg_3.mp (zp_n.mp c15), Or.inl ⟨zp_0.mp c26, mS_thr _ _⟩⟩⟩)
    · refine wm_iconst (v := 1) 19 rfl dX5_setKey_18 (by decide) ?_
      refine wm_goto 34 (by decide) dX5_setKey_19 ?_
      refine wm_putI 37 rfl dX5_setKey_34 pf_X5_53_4 rfl rfl ?_
      refine wm_aload_n 38 rfl dX5_setKey_37 rfl rfl ?_
      refine wm_getI 41 rfl dX5_setKey_38 gf_X5_53_4 rfl rfl ?_
      refine wm_if_le 46 44 rfl (by decide) dX5_setKey_41 (fun c41 => ?_) (fun c41 => ?_)
      · exact absurd (show (1 : Int32) ≤ 0 from c41) (by decide)
      · refine wm_iconst (v := 0) 45 rfl dX5_setKey_44 (by decide) ?_
        exact wm_iret dX5_setKey_45 (by first | rfl | exact zp_nar) (by first | exact Or.inl ⟨zp_0.mp c6, mS_thr _ _⟩ | exact Or.inr ⟨zp_n.mp c6, Or.inl ⟨fun q => zp_0.mp c15 (rg_3.mpr q), mS_thr _ _⟩⟩ | exact Or.inr ⟨zp_n.mp c6, Or.inr ⟨rg_3.mp (zp_n.mp c15), Or.inl ⟨zp_0.mp c26, mS_thr _ _⟩⟩⟩)
theorem k_X5_setFact (l : Launch) {σ : Sg} {n : Nat} (hI : mI σ n) (r k v : Int32) : cMi l yX5_setFact cX5_setFact 5 .int 2 Lm [.ref 0, .int r, .int k, .int v] σ (fun o σ1 => mTh σ σ1 [(1, rcM σ n r), (1, nR 3 k), (2, rg v (-1) 999)] (∃ a i, r = nI a ∧ k = nI i ∧ a < n ∧ σ 6 a = 0 ∧ i < 3 ∧ mS 0 (zu σ (35 + a) i v) σ1 ∧ o = σ (35 + a) i)) := by
  have h24 := hI.2
  refine zMet_of (by decide +kernel) (Nat.le_of_ble_eq_true rfl) (fun D cT ad sz => ?_)
  show Wm (fun _ _ => True) l (rmh 2) RX5 cX5_setFact 5 (some .int) D cT ad Lm (zA ad Lm.length sz) (zZ (fun D cT ad L9 sz => zQi D cT ad L9 sz (fun o σ1 => mTh σ σ1 [(1, rcM σ n r), (1, nR 3 k), (2, rg v (-1) 999)] (∃ a i, r = nI a ∧ k = nI i ∧ a < n ∧ σ 6 a = 0 ∧ i < 3 ∧ mS 0 (zu σ (35 + a) i v) σ1 ∧ o = σ (35 + a) i))) D cT ad Lm sz) [] 0 (lv_args 0 [.ref 0, .int r, .int k, .int v]) [] σ 0 0
  refine wm_aload_n 1 rfl dX5_setFact_0 rfl rfl ?_
  refine wm_aload_n 2 rfl dX5_setFact_1 rfl rfl ?_
  refine wm_iload_n 3 rfl dX5_setFact_2 rfl rfl ?_
  refine wm_callVi (ty := .boolean) 6 rfl dX5_setFact_3 (k_X5_isRecord l hI _) ca_X5_isRecord cv_X5_isRecord rfl aw_8_10 rfl rfl ⟨Nat.le_of_ble_eq_true rfl, Nat.le_of_ble_eq_true rfl⟩ (Nat.le_of_ble_eq_true rfl) ⟨Nat.zero_le _, Nat.zero_le _⟩ ?_
  rintro r9 σ9 ⟨rfl, rfl⟩
  refine wm_if_eq 18 9 rfl (by decide) dX5_setFact_6 (fun c6 => ?_) (fun c6 => ?_)
  · refine wm_iconst (v := 1) 19 rfl dX5_setFact_18 (by decide) ?_
    refine wm_goto 38 (by decide) dX5_setFact_19 ?_
    refine wm_putI 41 rfl dX5_setFact_38 pf_X5_53_4 rfl rfl ?_
    refine wm_aload_n 42 rfl dX5_setFact_41 rfl rfl ?_
    refine wm_getI 45 rfl dX5_setFact_42 gf_X5_53_4 rfl rfl ?_
    refine wm_if_le 50 48 rfl (by decide) dX5_setFact_45 (fun c45 => ?_) (fun c45 => ?_)
    · exact absurd (show (1 : Int32) ≤ 0 from c45) (by decide)
    · refine wm_iconst (v := 0) 49 rfl dX5_setFact_48 (by decide) ?_
      exact wm_iret dX5_setFact_49 (by first | rfl | exact zp_nar) (by first | exact Or.inl ⟨zp_0.mp c6, mS_thr _ _⟩ | exact Or.inr ⟨zp_n.mp c6, Or.inl ⟨fun q => zp_0.mp c15 (rg_3.mpr q), mS_thr _ _⟩⟩ | exact Or.inr ⟨zp_n.mp c6, Or.inr ⟨rg_3.mp (zp_n.mp c15), Or.inl ⟨zp_0.mp c30, mS_thr _ _⟩⟩⟩)
  · refine wm_iload_n 10 rfl dX5_setFact_9 rfl rfl ?_
    refine wm_iconst (v := 0) 11 rfl dX5_setFact_10 (by decide) ?_
    refine wm_iconst (v := 2) 12 rfl dX5_setFact_11 (by decide) ?_
    refine wm_callSi (ty := .boolean) 15 rfl dX5_setFact_12 (k_X5_in l k 0 2) ca_X5_in aw_5_3 aw_5_2 ⟨Nat.le_of_ble_eq_true rfl, Nat.le_of_ble_eq_true rfl⟩ (Nat.le_of_ble_eq_true rfl) ⟨Nat.zero_le _, Nat.zero_le _⟩ ?_
    rintro r9 σ9 ⟨rfl, rfl⟩
    refine wm_if_ne 22 18 rfl (by decide) dX5_setFact_15 (fun c15 => ?_) (fun c15 => ?_)
    · refine wm_iload_n 23 rfl dX5_setFact_22 rfl rfl ?_
      refine wm_iconst (v := (-1)) 24 rfl dX5_setFact_23 (by decide) ?_
      refine wm_sipush (v := 999) 27 rfl dX5_setFact_24 (by decide) ?_
      refine wm_callSi (ty := .boolean) 30 rfl dX5_setFact_27 (k_X5_in l v (-1) 999) ca_X5_in aw_5_3 aw_5_2 ⟨Nat.le_of_ble_eq_true rfl, Nat.le_of_ble_eq_true rfl⟩ (Nat.le_of_ble_eq_true rfl) ⟨Nat.zero_le _, Nat.zero_le _⟩ ?_
      rintro r9 σ9 ⟨rfl, rfl⟩
      refine wm_if_ne 37 33 rfl (by decide) dX5_setFact_30 (fun c30 => ?_) (fun c30 => ?_)
      · refine wm_iconst (v := 0) 38 rfl dX5_setFact_37 (by decide) ?_
        refine wm_putI 41 rfl dX5_setFact_38 pf_X5_53_4 rfl rfl ?_
        refine wm_aload_n 42 rfl dX5_setFact_41 rfl rfl ?_
        refine wm_getI 45 rfl dX5_setFact_42 gf_X5_53_4 rfl rfl ?_
        refine wm_if_le 50 48 rfl (by decide) dX5_setFact_45 (fun c45 => ?_) (fun c45 => ?_)
        · have p1 := zp_n.mp c6
          have p2 := rg_3.mp (zp_n.mp c15)
          have q1 := p1
          have q2 := p2
          obtain ⟨a, rfl, ha, h6⟩ := q1
          obtain ⟨i, rfl, hi⟩ := q2
          refine wm_aload_n 51 rfl dX5_setFact_50 rfl rfl ?_
          refine wm_getR 54 rfl dX5_setFact_51 gf_X5_24_4 rfl rfl ?_
          refine wm_iload_n 55 rfl dX5_setFact_54 rfl rfl ?_
          refine wm_aaload (r := 35 + a) 56 rfl dX5_setFact_55 rfl (vp_in_nI (by omega) (by omega)) (by rw [nI_clamp (by omega)]) ?_
          refine wm_iload_n 57 rfl dX5_setFact_56 rfl rfl ?_
          refine wm_iaload 58 rfl dX5_setFact_57 (Lm_row (by omega) (by omega)) (vp_in_nI hi (by omega)) ?_
          refine wm_istore (ls' := [(4, _), (0, _), (1, _), (2, _), (3, _)]) 60 rfl dX5_setFact_58 (by decide) rfl ?_
          refine wm_aload_n 61 rfl dX5_setFact_60 rfl rfl ?_
          refine wm_getR 64 rfl dX5_setFact_61 gf_X5_24_4 rfl rfl ?_
          refine wm_iload_n 65 rfl dX5_setFact_64 rfl rfl ?_
          refine wm_aaload (r := 35 + a) 66 rfl dX5_setFact_65 rfl (vp_in_nI (by omega) (by omega)) (by rw [nI_clamp (by omega)]) ?_
          refine wm_iload_n 67 rfl dX5_setFact_66 rfl rfl ?_
          refine wm_iload_n 68 rfl dX5_setFact_67 rfl rfl ?_
          refine wm_iastore 69 rfl dX5_setFact_68 (Lm_row (by omega) (by omega)) (vp_in_nI hi (by omega)) ?_
          rw [nI_clamp (by omega)]
          refine wm_iload 71 rfl dX5_setFact_69 rfl ?_
          exact wm_iret dX5_setFact_71 (by first | rfl | exact zp_nar) (Or.inr ⟨p1, Or.inr ⟨p2, Or.inr ⟨zp_n.mp c30, ⟨a, i, rfl, rfl, ha, h6, hi, (mS_zz (mS_thr 0 σ) _ (fun e => by omega)), by rw [zu_ne _ _ _ (by omega)]⟩⟩⟩⟩)
        · exact absurd (show (0 : Int32) ≤ 0 by decide) (show ¬ (0 : Int32) ≤ 0 from c45)
      · refine wm_iconst (v := 2) 34 rfl dX5_setFact_33 (by decide) ?_
        refine wm_goto 38 (by decide) dX5_setFact_34 ?_
        refine wm_putI 41 rfl dX5_setFact_38 pf_X5_53_4 rfl rfl ?_
        refine wm_aload_n 42 rfl dX5_setFact_41 rfl rfl ?_
        refine wm_getI 45 rfl dX5_setFact_42 gf_X5_53_4 rfl rfl ?_
        refine wm_if_le 50 48 rfl (by decide) dX5_setFact_45 (fun c45 => ?_) (fun c45 => ?_)
        · exact absurd (show (2 : Int32) ≤ 0 from c45) (by decide)
        · refine wm_iconst (v := 0) 49 rfl dX5_setFact_48 (by decide) ?_
          exact wm_iret dX5_setFact_49 (by first | rfl | exact zp_nar) (by first | exact Or.inl ⟨zp_0.mp c6, mS_thr _ _⟩ | exact Or.inr ⟨zp_n.mp c6, Or.inl ⟨fun q => zp_0.mp c15 (rg_3.mpr q), mS_thr _ _⟩⟩ | exact Or.inr ⟨zp_n.mp c6, Or.inr ⟨rg_3.mp (zp_n.mp c15), Or.inl ⟨zp_0.mp c30, mS_thr _ _⟩⟩⟩)
    · refine wm_iconst (v := 1) 19 rfl dX5_setFact_18 (by decide) ?_
      refine wm_goto 38 (by decide) dX5_setFact_19 ?_
      refine wm_putI 41 rfl dX5_setFact_38 pf_X5_53_4 rfl rfl ?_
      refine wm_aload_n 42 rfl dX5_setFact_41 rfl rfl ?_
      refine wm_getI 45 rfl dX5_setFact_42 gf_X5_53_4 rfl rfl ?_
      refine wm_if_le 50 48 rfl (by decide) dX5_setFact_45 (fun c45 => ?_) (fun c45 => ?_)
      · exact absurd (show (1 : Int32) ≤ 0 from c45) (by decide)
      · refine wm_iconst (v := 0) 49 rfl dX5_setFact_48 (by decide) ?_
        exact wm_iret dX5_setFact_49 (by first | rfl | exact zp_nar) (by first | exact Or.inl ⟨zp_0.mp c6, mS_thr _ _⟩ | exact Or.inr ⟨zp_n.mp c6, Or.inl ⟨fun q => zp_0.mp c15 (rg_3.mpr q), mS_thr _ _⟩⟩ | exact Or.inr ⟨zp_n.mp c6, Or.inr ⟨rg_3.mp (zp_n.mp c15), Or.inl ⟨zp_0.mp c30, mS_thr _ _⟩⟩⟩)
theorem k_X5_see (l : Launch) {σ : Sg} {n : Nat} (hI : mI σ n) (r : Int32) : cMi l yX5_see cX5_see 3 .int 3 Lm [.ref 0, .int r] σ (fun o σ1 => mTh σ σ1 [(1, rcM σ n r)] (∃ a, r = nI a ∧ a < n ∧ σ 6 a = 0 ∧ mS 0 (zu σ 3 a (σ 0 12)) σ1 ∧ o = σ 3 a)) := by
  have h24 := hI.2
  refine zMet_of (by decide +kernel) (Nat.le_of_ble_eq_true rfl) (fun D cT ad sz => ?_)
  show Wm (fun _ _ => True) l (rmh 3) RX5 cX5_see 3 (some .int) D cT ad Lm (zA ad Lm.length sz) (zZ (fun D cT ad L9 sz => zQi D cT ad L9 sz (fun o σ1 => mTh σ σ1 [(1, rcM σ n r)] (∃ a, r = nI a ∧ a < n ∧ σ 6 a = 0 ∧ mS 0 (zu σ 3 a (σ 0 12)) σ1 ∧ o = σ 3 a))) D cT ad Lm sz) [] 0 (lv_args 0 [.ref 0, .int r]) [] σ 0 0
  refine wm_aload_n 1 rfl dX5_see_0 rfl rfl ?_
  refine wm_iload_n 2 rfl dX5_see_1 rfl rfl ?_
  refine wm_callVi (ty := .boolean) 5 rfl dX5_see_2 (k_X5_lacks l hI _) ca_X5_lacks cv_X5_lacks rfl aw_9_17 rfl rfl ⟨Nat.le_of_ble_eq_true rfl, Nat.le_of_ble_eq_true rfl⟩ (Nat.le_of_ble_eq_true rfl) ⟨Nat.zero_le _, Nat.zero_le _⟩ ?_
  rintro r9 σ9 ⟨rfl, rfl⟩
  refine wm_if_eq 10 8 rfl (by decide) dX5_see_5 (fun c5 => ?_) (fun c5 => ?_)
  · rw [c5]
    have p1 := Classical.not_not.mp (zp_0.mp c5)
    have q1 := p1
    obtain ⟨a, rfl, ha, h6⟩ := q1
    refine wm_aload_n 11 rfl dX5_see_10 rfl rfl ?_
    refine wm_getR 14 rfl dX5_see_11 gf_X5_16_4 rfl rfl ?_
    refine wm_iload_n 15 rfl dX5_see_14 rfl rfl ?_
    refine wm_iaload 16 rfl dX5_see_15 rfl (in24 ha h24) ?_
    refine wm_istore_n (ls' := [(2, _), (0, _), (1, _)]) 17 rfl dX5_see_16 rfl (by decide) rfl ?_
    refine wm_aload_n 18 rfl dX5_see_17 rfl rfl ?_
    refine wm_getR 21 rfl dX5_see_18 gf_X5_16_4 rfl rfl ?_
    refine wm_iload_n 22 rfl dX5_see_21 rfl rfl ?_
    refine wm_aload_n 23 rfl dX5_see_22 rfl rfl ?_
    refine wm_getI 26 rfl dX5_see_23 gf_X5_73_4 rfl rfl ?_
    refine wm_iastore 27 rfl dX5_see_26 rfl (in24 ha h24) ?_
    rw [nI_clamp (by omega)]
    refine wm_iload_n 28 rfl dX5_see_27 rfl rfl ?_
    exact wm_iret dX5_see_28 (by first | rfl | exact zp_nar) (Or.inr ⟨p1, ⟨a, rfl, ha, h6, (mS_zz (mS_thr 0 σ) _ (fun e => by omega)), rfl⟩⟩)
  · refine wm_iconst (v := 0) 9 rfl dX5_see_8 (by decide) ?_
    exact wm_iret dX5_see_9 (by first | rfl | exact zp_nar) (Or.inl ⟨zp_n.mp c5, mS_z (zp_n.mp c5)⟩)
theorem k_X5_drop (l : Launch) {σ : Sg} {n : Nat} (hI : mI σ n) (r : Int32) : cMi l yX5_drop cX5_drop 2 .int 3 Lm [.ref 0, .int r] σ (fun o σ1 => mTh σ σ1 [(1, rcM σ n r)] (∃ a, r = nI a ∧ a < n ∧ σ 6 a = 0 ∧ mS 0 (zu σ 6 a 1) σ1 ∧ o = nI (cq (fun r => zu σ 6 a 1 6 r = 0) n))) := by
  have h24 := hI.2
  refine zMet_of (by decide +kernel) (Nat.le_of_ble_eq_true rfl) (fun D cT ad sz => ?_)
  show Wm (fun _ _ => True) l (rmh 3) RX5 cX5_drop 2 (some .int) D cT ad Lm (zA ad Lm.length sz) (zZ (fun D cT ad L9 sz => zQi D cT ad L9 sz (fun o σ1 => mTh σ σ1 [(1, rcM σ n r)] (∃ a, r = nI a ∧ a < n ∧ σ 6 a = 0 ∧ mS 0 (zu σ 6 a 1) σ1 ∧ o = nI (cq (fun r => zu σ 6 a 1 6 r = 0) n)))) D cT ad Lm sz) [] 0 (lv_args 0 [.ref 0, .int r]) [] σ 0 0
  refine wm_aload_n 1 rfl dX5_drop_0 rfl rfl ?_
  refine wm_iload_n 2 rfl dX5_drop_1 rfl rfl ?_
  refine wm_callVi (ty := .boolean) 5 rfl dX5_drop_2 (k_X5_lacks l hI _) ca_X5_lacks cv_X5_lacks rfl aw_9_17 rfl rfl ⟨Nat.le_of_ble_eq_true rfl, Nat.le_of_ble_eq_true rfl⟩ (Nat.le_of_ble_eq_true rfl) ⟨Nat.zero_le _, Nat.zero_le _⟩ ?_
  rintro r9 σ9 ⟨rfl, rfl⟩
  refine wm_if_eq 10 8 rfl (by decide) dX5_drop_5 (fun c5 => ?_) (fun c5 => ?_)
  · rw [c5]
    have p1 := Classical.not_not.mp (zp_0.mp c5)
    have q1 := p1
    obtain ⟨a, rfl, ha, h6⟩ := q1
    refine wm_aload_n 11 rfl dX5_drop_10 rfl rfl ?_
    refine wm_getR 14 rfl dX5_drop_11 gf_X5_27_4 rfl rfl ?_
    refine wm_iload_n 15 rfl dX5_drop_14 rfl rfl ?_
    refine wm_iconst (v := 1) 16 rfl dX5_drop_15 (by decide) ?_
    refine wm_bastore 17 rfl dX5_drop_16 rfl (in24 ha h24) ?_
    rw [nI_clamp (by omega), show vp_nar .boolean 1 = 1 by decide]
    refine wm_aload_n 18 rfl dX5_drop_17 rfl rfl ?_
    refine wm_callVi (ty := .int) 21 rfl dX5_drop_18 (k_X5_left l (σ := zu (zu σ 0 13 0) 6 a 1) (n := n) ⟨hI.1, hI.2⟩) ca_X5_left cv_X5_left rfl aw_10_23 rfl rfl ⟨Nat.le_of_ble_eq_true rfl, Nat.le_of_ble_eq_true rfl⟩ (Nat.le_of_ble_eq_true rfl) ⟨Nat.zero_le _, Nat.zero_le _⟩ ?_
    rintro r9 σ9 ⟨rfl, rfl⟩
    exact wm_iret dX5_drop_21 (by first | rfl | exact zp_nar) (Or.inr ⟨p1, ⟨a, rfl, ha, h6, (mS_zz (mS_thr 0 σ) _ (fun e => by omega)), rfl⟩⟩)
  · refine wm_iconst (v := 0) 9 rfl dX5_drop_8 (by decide) ?_
    exact wm_iret dX5_drop_9 (by first | rfl | exact zp_nar) (Or.inl ⟨zp_n.mp c5, mS_z (zp_n.mp c5)⟩)
theorem k_X5_records (l : Launch) {σ : Sg} {n : Nat} (hI : mI σ n) : cMi l yX5_records cX5_records 1 .int 1 Lm [.ref 0] σ (fun o σ1 => mS 0 σ σ1 ∧ o = nI (cq (fun r => σ 6 r = 0) n)) := by
  refine zMet_of (by decide +kernel) (Nat.le_of_ble_eq_true rfl) (fun D cT ad sz => ?_)
  show Wm (fun _ _ => True) l (rmh 1) RX5 cX5_records 1 (some .int) D cT ad Lm (zA ad Lm.length sz) (zZ (fun D cT ad L9 sz => zQi D cT ad L9 sz (fun o σ1 => mS 0 σ σ1 ∧ o = nI (cq (fun r => σ 6 r = 0) n))) D cT ad Lm sz) [] 0 (lv_args 0 [.ref 0]) [] σ 0 0
  refine wm_aload_n 1 rfl dX5_records_0 rfl rfl ?_
  refine wm_iconst (v := 0) 2 rfl dX5_records_1 (by decide) ?_
  refine wm_putI 5 rfl dX5_records_2 pf_X5_53_4 rfl rfl ?_
  refine wm_aload_n 6 rfl dX5_records_5 rfl rfl ?_
  refine wm_callVi (ty := .int) 9 rfl dX5_records_6 (k_X5_left l (σ := zu σ 0 13 0) (n := n) ⟨hI.1, hI.2⟩) ca_X5_left cv_X5_left rfl aw_10_23 rfl rfl ⟨Nat.le_of_ble_eq_true rfl, Nat.le_of_ble_eq_true rfl⟩ (Nat.le_of_ble_eq_true rfl) ⟨Nat.zero_le _, Nat.zero_le _⟩ ?_
  rintro r9 σ9 ⟨rfl, rfl⟩
  exact wm_iret dX5_records_9 (by first | rfl | exact zp_nar) ⟨mS_thr 0 σ, rfl⟩
theorem k_X5_key (l : Launch) {σ : Sg} {n : Nat} (hI : mI σ n) (r k : Int32) : cMi l yX5_key cX5_key 3 .int 2 Lm [.ref 0, .int r, .int k] σ (fun o σ1 => mTh σ σ1 [(1, rcM σ n r), (1, nR 3 k)] (∃ a i, r = nI a ∧ k = nI i ∧ a < n ∧ σ 6 a = 0 ∧ i < 3 ∧ mS 0 σ σ1 ∧ o = σ (11 + a) i)) := by
  have h24 := hI.2
  refine zMet_of (by decide +kernel) (Nat.le_of_ble_eq_true rfl) (fun D cT ad sz => ?_)
  show Wm (fun _ _ => True) l (rmh 2) RX5 cX5_key 3 (some .int) D cT ad Lm (zA ad Lm.length sz) (zZ (fun D cT ad L9 sz => zQi D cT ad L9 sz (fun o σ1 => mTh σ σ1 [(1, rcM σ n r), (1, nR 3 k)] (∃ a i, r = nI a ∧ k = nI i ∧ a < n ∧ σ 6 a = 0 ∧ i < 3 ∧ mS 0 σ σ1 ∧ o = σ (11 + a) i))) D cT ad Lm sz) [] 0 (lv_args 0 [.ref 0, .int r, .int k]) [] σ 0 0
  refine wm_aload_n 1 rfl dX5_key_0 rfl rfl ?_
  refine wm_aload_n 2 rfl dX5_key_1 rfl rfl ?_
  refine wm_iload_n 3 rfl dX5_key_2 rfl rfl ?_
  refine wm_callVi (ty := .boolean) 6 rfl dX5_key_3 (k_X5_isRecord l hI _) ca_X5_isRecord cv_X5_isRecord rfl aw_8_10 rfl rfl ⟨Nat.le_of_ble_eq_true rfl, Nat.le_of_ble_eq_true rfl⟩ (Nat.le_of_ble_eq_true rfl) ⟨Nat.zero_le _, Nat.zero_le _⟩ ?_
  rintro r9 σ9 ⟨rfl, rfl⟩
  refine wm_if_eq 22 9 rfl (by decide) dX5_key_6 (fun c6 => ?_) (fun c6 => ?_)
  · refine wm_iconst (v := 1) 23 rfl dX5_key_22 (by decide) ?_
    refine wm_putI 26 rfl dX5_key_23 pf_X5_53_4 rfl rfl ?_
    refine wm_aload_n 27 rfl dX5_key_26 rfl rfl ?_
    refine wm_getI 30 rfl dX5_key_27 gf_X5_53_4 rfl rfl ?_
    refine wm_if_le 37 33 rfl (by decide) dX5_key_30 (fun c30 => ?_) (fun c30 => ?_)
    · exact absurd (show (1 : Int32) ≤ 0 from c30) (by decide)
    · refine wm_iconst (v := 0) 34 rfl dX5_key_33 (by decide) ?_
      refine wm_goto 45 (by decide) dX5_key_34 ?_
      exact wm_iret dX5_key_45 (by first | rfl | exact zp_nar) (by first | exact Or.inl ⟨zp_0.mp c6, mS_thr _ _⟩ | exact Or.inr ⟨zp_n.mp c6, Or.inl ⟨fun q => zp_0.mp c15 (rg_3.mpr q), mS_thr _ _⟩⟩ | exact Or.inr ⟨p1, Or.inr ⟨p2, a, i, rfl, rfl, ha, h6, hi, mS_thr _ _, by rw [nI_clamp (by omega), zu_ne _ _ _ (by omega)]⟩⟩)
  · refine wm_iload_n 10 rfl dX5_key_9 rfl rfl ?_
    refine wm_iconst (v := 0) 11 rfl dX5_key_10 (by decide) ?_
    refine wm_iconst (v := 2) 12 rfl dX5_key_11 (by decide) ?_
    refine wm_callSi (ty := .boolean) 15 rfl dX5_key_12 (k_X5_in l k 0 2) ca_X5_in aw_5_3 aw_5_2 ⟨Nat.le_of_ble_eq_true rfl, Nat.le_of_ble_eq_true rfl⟩ (Nat.le_of_ble_eq_true rfl) ⟨Nat.zero_le _, Nat.zero_le _⟩ ?_
    rintro r9 σ9 ⟨rfl, rfl⟩
    refine wm_if_eq 22 18 rfl (by decide) dX5_key_15 (fun c15 => ?_) (fun c15 => ?_)
    · refine wm_iconst (v := 1) 23 rfl dX5_key_22 (by decide) ?_
      refine wm_putI 26 rfl dX5_key_23 pf_X5_53_4 rfl rfl ?_
      refine wm_aload_n 27 rfl dX5_key_26 rfl rfl ?_
      refine wm_getI 30 rfl dX5_key_27 gf_X5_53_4 rfl rfl ?_
      refine wm_if_le 37 33 rfl (by decide) dX5_key_30 (fun c30 => ?_) (fun c30 => ?_)
      · exact absurd (show (1 : Int32) ≤ 0 from c30) (by decide)
      · refine wm_iconst (v := 0) 34 rfl dX5_key_33 (by decide) ?_
        refine wm_goto 45 (by decide) dX5_key_34 ?_
        exact wm_iret dX5_key_45 (by first | rfl | exact zp_nar) (by first | exact Or.inl ⟨zp_0.mp c6, mS_thr _ _⟩ | exact Or.inr ⟨zp_n.mp c6, Or.inl ⟨fun q => zp_0.mp c15 (rg_3.mpr q), mS_thr _ _⟩⟩ | exact Or.inr ⟨p1, Or.inr ⟨p2, a, i, rfl, rfl, ha, h6, hi, mS_thr _ _, by rw [nI_clamp (by omega), zu_ne _ _ _ (by omega)]⟩⟩)
    · refine wm_iconst (v := 0) 19 rfl dX5_key_18 (by decide) ?_
      refine wm_goto 23 (by decide) dX5_key_19 ?_
      refine wm_putI 26 rfl dX5_key_23 pf_X5_53_4 rfl rfl ?_
      refine wm_aload_n 27 rfl dX5_key_26 rfl rfl ?_
      refine wm_getI 30 rfl dX5_key_27 gf_X5_53_4 rfl rfl ?_
      refine wm_if_le 37 33 rfl (by decide) dX5_key_30 (fun c30 => ?_) (fun c30 => ?_)
      · have p1 := zp_n.mp c6
        have p2 := rg_3.mp (zp_n.mp c15)
        have q1 := p1
        have q2 := p2
        obtain ⟨a, rfl, ha, h6⟩ := q1
        obtain ⟨i, rfl, hi⟩ := q2
        refine wm_aload_n 38 rfl dX5_key_37 rfl rfl ?_
        refine wm_getR 41 rfl dX5_key_38 gf_X5_21_4 rfl rfl ?_
        refine wm_iload_n 42 rfl dX5_key_41 rfl rfl ?_
        refine wm_aaload (r := 11 + a) 43 rfl dX5_key_42 rfl (vp_in_nI (by omega) (by omega)) (by rw [nI_clamp (by omega)]) ?_
        refine wm_iload_n 44 rfl dX5_key_43 rfl rfl ?_
        refine wm_iaload 45 rfl dX5_key_44 (Lm_row (by omega) (by omega)) (vp_in_nI hi (by omega)) ?_
        exact wm_iret dX5_key_45 (by first | rfl | exact zp_nar) (by first | exact Or.inl ⟨zp_0.mp c6, mS_thr _ _⟩ | exact Or.inr ⟨zp_n.mp c6, Or.inl ⟨fun q => zp_0.mp c15 (rg_3.mpr q), mS_thr _ _⟩⟩ | exact Or.inr ⟨p1, Or.inr ⟨p2, a, i, rfl, rfl, ha, h6, hi, mS_thr _ _, by rw [nI_clamp (by omega), zu_ne _ _ _ (by omega)]⟩⟩)
      · exact absurd (show (0 : Int32) ≤ 0 by decide) (show ¬ (0 : Int32) ≤ 0 from c30)
theorem k_X5_seen (l : Launch) {σ : Sg} {n : Nat} (hI : mI σ n) (r : Int32) : cMi l yX5_seen cX5_seen 2 .int 3 Lm [.ref 0, .int r] σ (fun o σ1 => mTh σ σ1 [(1, rcM σ n r)] (∃ a, r = nI a ∧ a < n ∧ σ 6 a = 0 ∧ mS 0 σ σ1 ∧ o = σ 3 a)) := by
  have h24 := hI.2
  refine zMet_of (by decide +kernel) (Nat.le_of_ble_eq_true rfl) (fun D cT ad sz => ?_)
  show Wm (fun _ _ => True) l (rmh 3) RX5 cX5_seen 2 (some .int) D cT ad Lm (zA ad Lm.length sz) (zZ (fun D cT ad L9 sz => zQi D cT ad L9 sz (fun o σ1 => mTh σ σ1 [(1, rcM σ n r)] (∃ a, r = nI a ∧ a < n ∧ σ 6 a = 0 ∧ mS 0 σ σ1 ∧ o = σ 3 a))) D cT ad Lm sz) [] 0 (lv_args 0 [.ref 0, .int r]) [] σ 0 0
  refine wm_aload_n 1 rfl dX5_seen_0 rfl rfl ?_
  refine wm_iload_n 2 rfl dX5_seen_1 rfl rfl ?_
  refine wm_callVi (ty := .boolean) 5 rfl dX5_seen_2 (k_X5_lacks l hI _) ca_X5_lacks cv_X5_lacks rfl aw_9_17 rfl rfl ⟨Nat.le_of_ble_eq_true rfl, Nat.le_of_ble_eq_true rfl⟩ (Nat.le_of_ble_eq_true rfl) ⟨Nat.zero_le _, Nat.zero_le _⟩ ?_
  rintro r9 σ9 ⟨rfl, rfl⟩
  refine wm_if_eq 12 8 rfl (by decide) dX5_seen_5 (fun c5 => ?_) (fun c5 => ?_)
  · rw [c5]
    have p1 := Classical.not_not.mp (zp_0.mp c5)
    have q1 := p1
    obtain ⟨a, rfl, ha, h6⟩ := q1
    refine wm_aload_n 13 rfl dX5_seen_12 rfl rfl ?_
    refine wm_getR 16 rfl dX5_seen_13 gf_X5_16_4 rfl rfl ?_
    refine wm_iload_n 17 rfl dX5_seen_16 rfl rfl ?_
    refine wm_iaload 18 rfl dX5_seen_17 rfl (in24 ha h24) ?_
    exact wm_iret dX5_seen_18 (by first | rfl | exact zp_nar) (by first | exact Or.inl ⟨zp_n.mp c5, mS_z (zp_n.mp c5)⟩ | exact Or.inr ⟨p1, a, rfl, ha, h6, mS_thr _ _, by rw [nI_clamp (by omega)]; rfl⟩)
  · refine wm_iconst (v := 0) 9 rfl dX5_seen_8 (by decide) ?_
    refine wm_goto 18 (by decide) dX5_seen_9 ?_
    exact wm_iret dX5_seen_18 (by first | rfl | exact zp_nar) (by first | exact Or.inl ⟨zp_n.mp c5, mS_z (zp_n.mp c5)⟩ | exact Or.inr ⟨p1, a, rfl, ha, h6, mS_thr _ _, by rw [nI_clamp (by omega)]; rfl⟩)
