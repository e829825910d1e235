theorem gf_X5_53_4 : zGF RX5 53 4 13 := ⟨RX5, TX5, 18, "AssetmergeModel", rfl, zin_X5, by decide, aw_5_1, Or.inl rfl⟩
theorem pf_X5_53_4 : zPF RX5 53 4 13 := ⟨RX5, TX5, 18, "AssetmergeModel", tyX5, rfl, zin_X5, by decide, aw_5_1, rfl, tyX5_ok, nmX5, rfl, by decide +kernel⟩
theorem gf_X5_56_4 : zGF RX5 56 4 7 := ⟨RX5, TX5, 18, "AssetmergeModel", rfl, zin_X5, by decide, aw_7_4, Or.inl rfl⟩
theorem ca_X5_in : zCal yX5_in cX5_in 3 (some .boolean) 3 := ⟨aw_5_4, aw_1_5, by decide +kernel, by decide +kernel, by decide +kernel⟩
theorem gf_X5_27_4 : zGF RX5 27 4 6 := ⟨RX5, TX5, 18, "AssetmergeModel", rfl, zin_X5, by decide, aw_3_13, Or.inl rfl⟩
theorem ca_X5_isRecord : zCal yX5_isRecord cX5_isRecord 2 (some .boolean) 1 := ⟨aw_8_13, aw_1_5, by decide +kernel, by decide +kernel, by decide +kernel⟩
theorem cv_X5_isRecord : zCaV RX5 yX5_isRecord := ⟨aw_8_11, aw_8_12⟩
theorem gf_X5_47_4 : zGF RX5 47 4 16 := ⟨RX5, TX5, 18, "AssetmergeModel", rfl, zin_X5, by decide, aw_3_19, Or.inl rfl⟩
theorem gf_X5_44_4 : zGF RX5 44 4 15 := ⟨RX5, TX5, 18, "AssetmergeModel", rfl, zin_X5, by decide, aw_3_18, Or.inl rfl⟩
theorem gf_X5_41_4 : zGF RX5 41 4 14 := ⟨RX5, TX5, 18, "AssetmergeModel", rfl, zin_X5, by decide, aw_3_17, Or.inl rfl⟩
theorem gf_X5_21_4 : zGF RX5 21 4 4 := ⟨RX5, TX5, 18, "AssetmergeModel", rfl, zin_X5, by decide, aw_3_10, Or.inl rfl⟩
theorem gf_X5_83_4 : zGF RX5 83 4 10 := ⟨RX5, TX5, 18, "AssetmergeModel", rfl, zin_X5, by decide, aw_12_7, Or.inl rfl⟩
theorem gf_X5_31_4 : zGF RX5 31 4 8 := ⟨RX5, TX5, 18, "AssetmergeModel", rfl, zin_X5, by decide, aw_3_14, Or.inl rfl⟩
theorem gf_X5_34_4 : zGF RX5 34 4 9 := ⟨RX5, TX5, 18, "AssetmergeModel", rfl, zin_X5, by decide, aw_3_15, Or.inl rfl⟩
/-! THE MODEL: its numbers, who counts, pairs -/
def mI (σ : Sg) (n : Nat) : Prop := σ 0 7 = nI n ∧ n ≤ 24
def mP (σ : Sg) (p : Nat) : Prop := σ 0 10 = nI p ∧ p ≤ 12
def ct (σ : Sg) (r : Nat) : Prop := σ 6 r = 0 ∧ nI r ≠ σ 0 16
def lvM (σ : Sg) (n r : Nat) : Prop := r < n ∧ ct σ r
abbrev kyM (σ : Sg) : Nat → Nat → Int32 := fun s r => σ (11 + r) s
def mtc (σ : Sg) (a b i : Nat) : Prop := (σ 7 i = nI a ∧ σ 8 i = nI b) ∨ (σ 7 i = nI b ∧ σ 8 i = nI a)
def prI (σ : Sg) (p a b : Nat) (v : Int32) : Prop := (∃ i, i < p ∧ v = nI i ∧ mtc σ a b i ∧ ∀ j, j < i → ¬ mtc σ a b j) ∨ (v = -1 ∧ ∀ i, i < p → ¬ mtc σ a b i)
def fbM (σ : Sg) (p a b : Nat) : Prop := ∃ i, i < p ∧ mtc σ a b i ∧ (∀ j, j < i → ¬ mtc σ a b j) ∧ nI i ≠ σ 0 17
/-- all but the groups' rows and what was thrown is as it was -/
def stM (σ τ : Sg) : Prop := ∀ a b, a ≠ 9 → a ≠ 10 → (a = 0 → b ≠ 13) → τ a b = σ a b
theorem stM.rf (σ : Sg) : stM σ σ := fun _ _ _ _ _ => rfl
theorem stM.tr {σ τ υ : Sg} (h : stM σ τ) (h2 : stM τ υ) : stM σ υ := fun a b x y z => (h2 a b x y z).trans (h a b x y z)
theorem stM_thr (σ : Sg) (v : Int32) : stM σ (zu σ 0 13 v) := by
  intro a b _ _ h
  unfold zu
  by_cases e : a = 0
  · simp [e, h e]
  · simp [e]
theorem stM.row {σ τ : Sg} (h : stM σ τ) {a : Nat} (h0 : a ≠ 0) (h9 : a ≠ 9) (h10 : a ≠ 10) : τ a = σ a := funext fun b => h a b h9 h10 (fun e => absurd e h0)
theorem stM.mI {σ τ : Sg} {n : Nat} (h : stM σ τ) (hI : mI σ n) : mI τ n := ⟨by rw [h 0 7 (by decide) (by decide) (fun _ => by decide)]; exact hI.1, hI.2⟩
theorem stM.mP {σ τ : Sg} {p : Nat} (h : stM σ τ) (hP : mP σ p) : mP τ p := ⟨by rw [h 0 10 (by decide) (by decide) (fun _ => by decide)]; exact hP.1, hP.2⟩
theorem stM.ct9 {σ τ : Sg} (h : stM σ τ) (r : Nat) : ct τ r ↔ ct σ r := by
  unfold ct
  rw [h.row (a := 6) (by decide) (by decide) (by decide), h 0 16 (by decide) (by decide) (fun _ => by decide)]
theorem stM.mt9 {σ τ : Sg} (h : stM σ τ) (a b i : Nat) : mtc τ a b i ↔ mtc σ a b i := by
  unfold mtc
  rw [h.row (a := 7) (by decide) (by decide) (by decide), h.row (a := 8) (by decide) (by decide) (by decide)]
theorem mtc_sy {σ : Sg} {a b i : Nat} : mtc σ a b i ↔ mtc σ b a i := by unfold mtc; exact or_comm
theorem fbM_sy {σ : Sg} {p a b : Nat} (h : fbM σ p a b) : fbM σ p b a := by
  obtain ⟨i, h1, h2, h3, h4⟩ := h
  exact ⟨i, h1, mtc_sy.mp h2, fun j hj q => h3 j hj (mtc_sy.mp q), h4⟩
/-- the pairs' list: none of a record with itself -/
def mQ (σ : Sg) (n p : Nat) : Prop := ∀ i, i < p → ∃ x y, σ 7 i = nI x ∧ σ 8 i = nI y ∧ x < n ∧ y < n ∧ x ≠ y
theorem fbM_ir {σ : Sg} {n p a : Nat} (hn : n ≤ 24) (hQ : mQ σ n p) (ha : a < n) : ¬ fbM σ p a a := by
  rintro ⟨i, hi, h, -⟩
  obtain ⟨x, y, h1, h2, hx, hy, hxy⟩ := hQ i hi
  have h3 : σ 7 i = nI a ∧ σ 8 i = nI a := by rcases h with h | h <;> exact h
  rw [h1] at h3; rw [h2] at h3
  exact hxy ((eq_of_nI h3.1 (by omega) (by omega)).trans (eq_of_nI h3.2 (by omega) (by omega)).symm)
/-- a record that is there -/
def rcM (σ : Sg) (n : Nat) (r : Int32) : Prop := ∃ a, r = nI a ∧ a < n ∧ σ 6 a = 0
theorem rg_n {n : Nat} {r : Int32} (hn : n < 2 ^ 30) : rg r 0 (nI n - 1) ↔ nR n r := by
  constructor
  · rintro ⟨h1, h2⟩
    obtain ⟨i, hi, rfl⟩ := nI_of h1
    cases n with
    | zero =>
      rw [show nI 0 - 1 = (-1 : Int32) by decide] at h2
      have h3 : (nI i).toInt ≤ (-1 : Int32).toInt := Int32.le_iff_toInt_le.mp h2
      have h4 : (nI 0).toInt ≤ (nI i).toInt := Int32.le_iff_toInt_le.mp ((nI_leI (by omega) (by omega)).mpr (Nat.zero_le i))
      have h5 : (-1 : Int32).toInt = -1 := by decide
      have h6 : (nI 0).toInt = 0 := by decide
      omega
    | succ m =>
      rw [show nI (m + 1) - 1 = nI m by rw [show (1 : Int32) = nI 1 from rfl, pk_subN (by omega)]; rfl] at h2
      exact ⟨i, rfl, by have := le_of_nI h2 hi (by omega); omega⟩
  · rintro ⟨i, rfl, hi⟩
    cases n with
    | zero => exact absurd hi (Nat.not_lt_zero _)
    | succ m =>
      refine ⟨fun h => ?_, ?_⟩
      · exact absurd h (fun q => fa_nle ((nI_leI (a := 0) (by omega) (by omega)).mpr (Nat.zero_le i)) q)
      · rw [show nI (m + 1) - 1 = nI m by rw [show (1 : Int32) = nI 1 from rfl, pk_subN (by omega)]; rfl]
        exact (nI_leI (by omega) (by omega)).mpr (by omega)
theorem nar_b {v : Int32} (h : v = 0 ∨ v = 1) : narrow .boolean (.int v) = .int v := by rcases h with h | h <;> rw [h] <;> rfl
theorem k_X5_thrown (l : Launch) {σ : Sg} : cMi l yX5_thrown cX5_thrown 1 .int 0 Lm [.ref 0] σ (pP σ (σ 0 13)) := by
  refine zMet_of (by decide +kernel) (Nat.le_of_ble_eq_true rfl) (fun D cT ad sz => ?_)
  show Wm (fun _ _ => True) l (rmh 0) RX5 cX5_thrown 1 (some .int) D cT ad Lm (zA ad Lm.length sz) (zZ (fun D cT ad L9 sz => zQi D cT ad L9 sz (pP σ (σ 0 13))) D cT ad Lm sz) [] 0 (lv_args 0 [.ref 0]) [] σ 0 0
  refine wm_aload_n 1 rfl dX5_thrown_0 rfl rfl ?_
  refine wm_getI 4 rfl dX5_thrown_1 gf_X5_53_4 rfl rfl ?_
  exact wm_iret dX5_thrown_4 (by first | rfl | exact zp_nar) ⟨rfl, rfl⟩
theorem k_X5_raises (l : Launch) {σ : Sg} (w : Int32) : cMi l yX5_raises cX5_raises 2 .int 0 Lm [.ref 0, .int w] σ (pP (zu σ 0 13 w) 0) := by
  refine zMet_of (by decide +kernel) (Nat.le_of_ble_eq_true rfl) (fun D cT ad sz => ?_)
  show Wm (fun _ _ => True) l (rmh 0) RX5 cX5_raises 2 (some .int) D cT ad Lm (zA ad Lm.length sz) (zZ (fun D cT ad L9 sz => zQi D cT ad L9 sz (pP (zu σ 0 13 w) 0)) D cT ad Lm sz) [] 0 (lv_args 0 [.ref 0, .int w]) [] σ 0 0
  refine wm_aload_n 1 rfl dX5_raises_0 rfl rfl ?_
  refine wm_iload_n 2 rfl dX5_raises_1 rfl rfl ?_
  refine wm_putI 5 rfl dX5_raises_2 pf_X5_53_4 rfl rfl ?_
  refine wm_iconst (v := 0) 6 rfl dX5_raises_5 (by decide) ?_
  exact wm_iret dX5_raises_6 (by first | rfl | exact zp_nar) ⟨rfl, rfl⟩
theorem k_X5_in (l : Launch) {σ : Sg} (v lo hi : Int32) : cMi l yX5_in cX5_in 3 .boolean 0 Lm [.int v, .int lo, .int hi] σ (pP σ (zp (rg v lo hi))) := by
  refine zMet_of (by decide +kernel) (Nat.le_of_ble_eq_true rfl) (fun D cT ad sz => ?_)
  show Wm (fun _ _ => True) l (rmh 0) RX5 cX5_in 3 (some .boolean) D cT ad Lm (zA ad Lm.length sz) (zZ (fun D cT ad L9 sz => zQi D cT ad L9 sz (pP σ (zp (rg v lo hi)))) D cT ad Lm sz) [] 0 (lv_args 0 [.int v, .int lo, .int hi]) [] σ 0 0
  refine wm_iload_n 1 rfl dX5_in_0 rfl rfl ?_
  refine wm_iload_n 2 rfl dX5_in_1 rfl rfl ?_
  refine wm_icmp_lt 14 5 rfl (by decide) dX5_in_2 (fun c2 => ?_) (fun c2 => ?_)
  · refine wm_iconst (v := 0) 15 rfl dX5_in_14 (by decide) ?_
    exact wm_iret dX5_in_15 (by first | rfl | exact zp_nar) (pP_i (zp_f (fun q => q.1 c2)))
  · refine wm_iload_n 6 rfl dX5_in_5 rfl rfl ?_
    refine wm_iload_n 7 rfl dX5_in_6 rfl rfl ?_
    refine wm_icmp_gt 14 10 rfl (by decide) dX5_in_7 (fun c7 => ?_) (fun c7 => ?_)
    · refine wm_iconst (v := 0) 15 rfl dX5_in_14 (by decide) ?_
      exact wm_iret dX5_in_15 (by first | rfl | exact zp_nar) (pP_i (zp_f (fun q => fa_nle q.2 c7)))
    · refine wm_iconst (v := 1) 11 rfl dX5_in_10 (by decide) ?_
      refine wm_goto 15 (by decide) dX5_in_11 ?_
      exact wm_iret dX5_in_15 (by first | rfl | exact zp_nar) (pP_i (zp_t ⟨c2, Int32.not_lt.mp c7⟩))
theorem k_X5_isRecord (l : Launch) {σ : Sg} {n : Nat} (hI : mI σ n) (r : Int32) : cMi l yX5_isRecord cX5_isRecord 2 .boolean 1 Lm [.ref 0, .int r] σ (pP σ (zp (rcM σ n r))) := by
  have h24 := hI.2
  refine zMet_of (by decide +kernel) (Nat.le_of_ble_eq_true rfl) (fun D cT ad sz => ?_)
  show Wm (fun _ _ => True) l (rmh 1) RX5 cX5_isRecord 2 (some .boolean) D cT ad Lm (zA ad Lm.length sz) (zZ (fun D cT ad L9 sz => zQi D cT ad L9 sz (pP σ (zp (rcM σ n r)))) D cT ad Lm sz) [] 0 (lv_args 0 [.ref 0, .int r]) [] σ 0 0
  refine wm_iload_n 1 rfl dX5_isRecord_0 rfl rfl ?_
  refine wm_iconst (v := 0) 2 rfl dX5_isRecord_1 (by decide) ?_
  refine wm_aload_n 3 rfl dX5_isRecord_2 rfl rfl ?_
  refine wm_getI 6 rfl dX5_isRecord_3 gf_X5_56_4 rfl rfl ?_
  rw [hI.1]
  refine wm_iconst (v := 1) 7 rfl dX5_isRecord_6 (by decide) ?_
  refine wm_isub 8 rfl dX5_isRecord_7 ?_
  refine wm_callSi (ty := .boolean) 11 rfl dX5_isRecord_8 (k_X5_in l r 0 (nI n - 1)) ca_X5_in aw_5_3 aw_5_2 ⟨Nat.le_of_ble_eq_true rfl, Nat.le_of_ble_eq_true rfl⟩ (Nat.le_of_ble_eq_true rfl) ⟨Nat.zero_le _, Nat.zero_le _⟩ ?_
  rintro r9 σ9 ⟨rfl, rfl⟩
  refine wm_if_eq 27 14 rfl (by decide) dX5_isRecord_11 (fun c11 => ?_) (fun c11 => ?_)
  · refine wm_iconst (v := 0) 28 rfl dX5_isRecord_27 (by decide) ?_
    exact wm_iret dX5_isRecord_28 (by first | rfl | exact zp_nar) (pP_i (zp_f (fun ⟨a, e, ha, _⟩ => zp_0.mp c11 ((rg_n (by omega)).mpr ⟨a, e, ha⟩))))
  · obtain ⟨a, rfl, ha⟩ := (rg_n (by omega)).mp (zp_n.mp c11)
    refine wm_aload_n 15 rfl dX5_isRecord_14 rfl rfl ?_
    refine wm_getR 18 rfl dX5_isRecord_15 gf_X5_27_4 rfl rfl ?_
    refine wm_iload_n 19 rfl dX5_isRecord_18 rfl rfl ?_
    refine wm_baload 20 rfl dX5_isRecord_19 rfl (vp_in_nI (by omega) (by omega)) ?_
    refine wm_if_ne 27 23 rfl (by decide) dX5_isRecord_20 (fun c20 => ?_) (fun c20 => ?_)
    · rw [nI_clamp (by omega)] at c20
      refine wm_iconst (v := 0) 28 rfl dX5_isRecord_27 (by decide) ?_
      exact wm_iret dX5_isRecord_28 (by first | rfl | exact zp_nar) (pP_i (zp_f (fun ⟨b, e, hb, h0⟩ => c20 (by rw [eq_of_nI e (by omega) (by omega)]; exact h0))))
    · rw [nI_clamp (by omega)] at c20
      refine wm_iconst (v := 1) 24 rfl dX5_isRecord_23 (by decide) ?_
      refine wm_goto 28 (by decide) dX5_isRecord_24 ?_
      exact wm_iret dX5_isRecord_28 (by first | rfl | exact zp_nar) (pP_i (zp_t ⟨a, rfl, ha, c20⟩))
theorem k_X5_lacks (l : Launch) {σ : Sg} {n : Nat} (hI : mI σ n) (r : Int32) : cMi l yX5_lacks cX5_lacks 2 .boolean 2 Lm [.ref 0, .int r] σ (fun v σ1 => zu σ 0 13 v = σ1 ∧ v = zp (¬ rcM σ n r)) := by
  refine zMet_of (by decide +kernel) (Nat.le_of_ble_eq_true rfl) (fun D cT ad sz => ?_)
  show Wm (fun _ _ => True) l (rmh 2) RX5 cX5_lacks 2 (some .boolean) D cT ad Lm (zA ad Lm.length sz) (zZ (fun D cT ad L9 sz => zQi D cT ad L9 sz (fun v σ1 => zu σ 0 13 v = σ1 ∧ v = zp (¬ rcM σ n r))) D cT ad Lm sz) [] 0 (lv_args 0 [.ref 0, .int r]) [] σ 0 0
  refine wm_aload_n 1 rfl dX5_lacks_0 rfl rfl ?_
  refine wm_aload_n 2 rfl dX5_lacks_1 rfl rfl ?_
  refine wm_iload_n 3 rfl dX5_lacks_2 rfl rfl ?_
  refine wm_callVi (ty := .boolean) 6 rfl dX5_lacks_3 (k_X5_isRecord l hI r) ca_X5_isRecord cv_X5_isRecord rfl aw_8_10 rfl rfl ⟨Nat.le_of_ble_eq_true rfl, Nat.le_of_ble_eq_true rfl⟩ (Nat.le_of_ble_eq_true rfl) ⟨Nat.zero_le _, Nat.zero_le _⟩ ?_
  rintro r9 σ9 ⟨rfl, rfl⟩
  refine wm_if_eq 13 9 rfl (by decide) dX5_lacks_6 (fun c6 => ?_) (fun c6 => ?_)
  · refine wm_iconst (v := 1) 14 rfl dX5_lacks_13 (by decide) ?_
    refine wm_putI 17 rfl dX5_lacks_14 pf_X5_53_4 rfl rfl ?_
    refine wm_aload_n 18 rfl dX5_lacks_17 rfl rfl ?_
    refine wm_getI 21 rfl dX5_lacks_18 gf_X5_53_4 rfl rfl ?_
    refine wm_if_le 28 24 rfl (by decide) dX5_lacks_21 (fun c21 => ?_) (fun c21 => ?_)
    · exact absurd (show (1 : Int32) ≤ 0 from c21) (by decide)
    · refine wm_iconst (v := 1) 25 rfl dX5_lacks_24 (by decide) ?_
      refine wm_goto 29 (by decide) dX5_lacks_25 ?_
      exact wm_iret dX5_lacks_29 (by first | rfl | exact zp_nar) (by first | exact ⟨rfl, (zp_t (zp_0.mp c6)).symm⟩ | exact ⟨rfl, (zp_f (fun q => q (zp_n.mp c6))).symm⟩)
  · refine wm_iconst (v := 0) 10 rfl dX5_lacks_9 (by decide) ?_
    refine wm_goto 14 (by decide) dX5_lacks_10 ?_
    refine wm_putI 17 rfl dX5_lacks_14 pf_X5_53_4 rfl rfl ?_
    refine wm_aload_n 18 rfl dX5_lacks_17 rfl rfl ?_
    refine wm_getI 21 rfl dX5_lacks_18 gf_X5_53_4 rfl rfl ?_
    refine wm_if_le 28 24 rfl (by decide) dX5_lacks_21 (fun c21 => ?_) (fun c21 => ?_)
    · refine wm_iconst (v := 0) 29 rfl dX5_lacks_28 (by decide) ?_
      exact wm_iret dX5_lacks_29 (by first | rfl | exact zp_nar) (by first | exact ⟨rfl, (zp_t (zp_0.mp c6)).symm⟩ | exact ⟨rfl, (zp_f (fun q => q (zp_n.mp c6))).symm⟩)
    · exact absurd (show (0 : Int32) ≤ 0 by decide) (show ¬ (0 : Int32) ≤ 0 from c21)
theorem k_X5_counts (l : Launch) {σ τ : Sg} (hs : stM σ τ) {r : Nat} (hr : r < 24) : cMi l yX5_counts cX5_counts 2 .boolean 0 Lm [.ref 0, .int (nI r)] τ (pP τ (zp (ct σ r))) := by
  refine zMet_of (by decide +kernel) (Nat.le_of_ble_eq_true rfl) (fun D cT ad sz => ?_)
  show Wm (fun _ _ => True) l (rmh 0) RX5 cX5_counts 2 (some .boolean) D cT ad Lm (zA ad Lm.length sz) (zZ (fun D cT ad L9 sz => zQi D cT ad L9 sz (pP τ (zp (ct σ r)))) D cT ad Lm sz) [] 0 (lv_args 0 [.ref 0, .int (nI r)]) [] τ 0 0
  refine wm_aload_n 1 rfl dX5_counts_0 rfl rfl ?_
  refine wm_getR 4 rfl dX5_counts_1 gf_X5_27_4 rfl rfl ?_
  refine wm_iload_n 5 rfl dX5_counts_4 rfl rfl ?_
  refine wm_baload 6 rfl dX5_counts_5 rfl (vp_in_nI (by omega) (by omega)) ?_
  refine wm_if_ne 21 9 rfl (by decide) dX5_counts_6 (fun c6 => ?_) (fun c6 => ?_)
  · rw [nI_clamp (by omega), hs.row (a := 6) (by decide) (by decide) (by decide)] at c6
    refine wm_iconst (v := 0) 22 rfl dX5_counts_21 (by decide) ?_
    exact wm_iret dX5_counts_22 (by first | rfl | exact zp_nar) (pP_i (zp_f (fun q => c6 q.1)))
  · rw [nI_clamp (by omega), hs.row (a := 6) (by decide) (by decide) (by decide)] at c6
    refine wm_iload_n 10 rfl dX5_counts_9 rfl rfl ?_
    refine wm_aload_n 11 rfl dX5_counts_10 rfl rfl ?_
    refine wm_getI 14 rfl dX5_counts_11 gf_X5_47_4 rfl rfl ?_
    refine wm_icmp_eq 21 17 rfl (by decide) dX5_counts_14 (fun c14 => ?_) (fun c14 => ?_)
    · rw [hs 0 16 (by decide) (by decide) (fun _ => by decide)] at c14
      refine wm_iconst (v := 0) 22 rfl dX5_counts_21 (by decide) ?_
      exact wm_iret dX5_counts_22 (by first | rfl | exact zp_nar) (pP_i (zp_f (fun q => q.2 c14)))
    · rw [hs 0 16 (by decide) (by decide) (fun _ => by decide)] at c14
      refine wm_iconst (v := 1) 18 rfl dX5_counts_17 (by decide) ?_
      refine wm_goto 22 (by decide) dX5_counts_18 ?_
      exact wm_iret dX5_counts_22 (by first | rfl | exact zp_nar) (pP_i (zp_t ⟨c6, c14⟩))
theorem k_X5_areLinked (l : Launch) {σ τ : Sg} (hs : stM σ τ) {n : Nat} (hn : n ≤ 24) {c g : Nat → Nat} (hc : lab τ 10 n c) (hg : lab τ 9 n g) {a b k : Nat} (ha : a < n) (hb : b < n) (hk : k < 3) : cMi l yX5_areLinked cX5_areLinked 4 .boolean 0 Lm [.ref 0, .int (nI a), .int (nI b), .int (nI k)] τ (pP τ (zp (c a = c b ∨ g a = g b ∨ (kyM σ k a ≠ -1 ∧ kyM σ k a = kyM σ k b)))) := by
  refine zMet_of (by decide +kernel) (Nat.le_of_ble_eq_true rfl) (fun D cT ad sz => ?_)
  show Wm (fun _ _ => True) l (rmh 0) RX5 cX5_areLinked 4 (some .boolean) D cT ad Lm (zA ad Lm.length sz) (zZ (fun D cT ad L9 sz => zQi D cT ad L9 sz (pP τ (zp (c a = c b ∨ g a = g b ∨ (kyM σ k a ≠ -1 ∧ kyM σ k a = kyM σ k b))))) D cT ad Lm sz) [] 0 (lv_args 0 [.ref 0, .int (nI a), .int (nI b), .int (nI k)]) [] τ 0 0
  refine wm_aload_n 1 rfl dX5_areLinked_0 rfl rfl ?_
  refine wm_getR 4 rfl dX5_areLinked_1 gf_X5_44_4 rfl rfl ?_
  refine wm_iload_n 5 rfl dX5_areLinked_4 rfl rfl ?_
  refine wm_iaload 6 rfl dX5_areLinked_5 rfl (in24 ha hn) ?_
  refine wm_aload_n 7 rfl dX5_areLinked_6 rfl rfl ?_
  refine wm_getR 10 rfl dX5_areLinked_7 gf_X5_44_4 rfl rfl ?_
  refine wm_iload_n 11 rfl dX5_areLinked_10 rfl rfl ?_
  refine wm_iaload 12 rfl dX5_areLinked_11 rfl (in24 hb hn) ?_
  refine wm_icmp_eq 61 15 rfl (by decide) dX5_areLinked_12 (fun c12 => ?_) (fun c12 => ?_)
  · rw [nI_clamp (by omega), nI_clamp (by omega), (hc a ha).1, (hc b hb).1] at c12
    refine wm_iconst (v := 1) 62 rfl dX5_areLinked_61 (by decide) ?_
    refine wm_goto 66 (by decide) dX5_areLinked_62 ?_
    exact wm_iret dX5_areLinked_66 (by first | rfl | exact zp_nar) (pP_i (zp_t (Or.inl (eq_of_nI c12 (by have := (hc a ha).2; omega) (by have := (hc b hb).2; omega)))))
  · rw [nI_clamp (by omega), nI_clamp (by omega), (hc a ha).1, (hc b hb).1] at c12
    refine wm_aload_n 16 rfl dX5_areLinked_15 rfl rfl ?_
    refine wm_getR 19 rfl dX5_areLinked_16 gf_X5_41_4 rfl rfl ?_
    refine wm_iload_n 20 rfl dX5_areLinked_19 rfl rfl ?_
    refine wm_iaload 21 rfl dX5_areLinked_20 rfl (in24 ha hn) ?_
    refine wm_aload_n 22 rfl dX5_areLinked_21 rfl rfl ?_
    refine wm_getR 25 rfl dX5_areLinked_22 gf_X5_41_4 rfl rfl ?_
    refine wm_iload_n 26 rfl dX5_areLinked_25 rfl rfl ?_
    refine wm_iaload 27 rfl dX5_areLinked_26 rfl (in24 hb hn) ?_
    refine wm_icmp_eq 61 30 rfl (by decide) dX5_areLinked_27 (fun c27 => ?_) (fun c27 => ?_)
    · rw [nI_clamp (by omega), nI_clamp (by omega), (hg a ha).1, (hg b hb).1] at c27
      refine wm_iconst (v := 1) 62 rfl dX5_areLinked_61 (by decide) ?_
      refine wm_goto 66 (by decide) dX5_areLinked_62 ?_
      exact wm_iret dX5_areLinked_66 (by first | rfl | exact zp_nar) (pP_i (zp_t (Or.inr (Or.inl (eq_of_nI c27 (by have := (hg a ha).2; omega) (by have := (hg b hb).2; omega))))))
    · rw [nI_clamp (by omega), nI_clamp (by omega), (hg a ha).1, (hg b hb).1] at c27
      refine wm_aload_n 31 rfl dX5_areLinked_30 rfl rfl ?_
      refine wm_getR 34 rfl dX5_areLinked_31 gf_X5_21_4 rfl rfl ?_
      refine wm_iload_n 35 rfl dX5_areLinked_34 rfl rfl ?_
      refine wm_aaload (r := 11 + a) 36 rfl dX5_areLinked_35 rfl (vp_in_nI (by omega) (by omega)) (by rw [nI_clamp (by omega)]) ?_
      refine wm_iload_n 37 rfl dX5_areLinked_36 rfl rfl ?_
      refine wm_iaload 38 rfl dX5_areLinked_37 (Lm_row (by omega) (by omega)) (vp_in_nI (by omega) (by omega)) ?_
      refine wm_iconst (v := (-1)) 39 rfl dX5_areLinked_38 (by decide) ?_
      refine wm_icmp_eq 65 42 rfl (by decide) dX5_areLinked_39 (fun c39 => ?_) (fun c39 => ?_)
      · rw [nI_clamp (by omega), hs.row (a := 11 + a) (by omega) (by omega) (by omega)] at c39
        refine wm_iconst (v := 0) 66 rfl dX5_areLinked_65 (by decide) ?_
        exact wm_iret dX5_areLinked_66 (by first | rfl | exact zp_nar) (pP_i (zp_f (fun q => by rcases q with q | q | q; exact c12 (by rw [q]); exact c27 (by rw [q]); exact q.1 c39)))
      · rw [nI_clamp (by omega), hs.row (a := 11 + a) (by omega) (by omega) (by omega)] at c39
        refine wm_aload_n 43 rfl dX5_areLinked_42 rfl rfl ?_
        refine wm_getR 46 rfl dX5_areLinked_43 gf_X5_21_4 rfl rfl ?_
        refine wm_iload_n 47 rfl dX5_areLinked_46 rfl rfl ?_
        refine wm_aaload (r := 11 + a) 48 rfl dX5_areLinked_47 rfl (vp_in_nI (by omega) (by omega)) (by rw [nI_clamp (by omega)]) ?_
        refine wm_iload_n 49 rfl dX5_areLinked_48 rfl rfl ?_
        refine wm_iaload 50 rfl dX5_areLinked_49 (Lm_row (by omega) (by omega)) (vp_in_nI (by omega) (by omega)) ?_
        refine wm_aload_n 51 rfl dX5_areLinked_50 rfl rfl ?_
        refine wm_getR 54 rfl dX5_areLinked_51 gf_X5_21_4 rfl rfl ?_
        refine wm_iload_n 55 rfl dX5_areLinked_54 rfl rfl ?_
        refine wm_aaload (r := 11 + b) 56 rfl dX5_areLinked_55 rfl (vp_in_nI (by omega) (by omega)) (by rw [nI_clamp (by omega)]) ?_
        refine wm_iload_n 57 rfl dX5_areLinked_56 rfl rfl ?_
        refine wm_iaload 58 rfl dX5_areLinked_57 (Lm_row (by omega) (by omega)) (vp_in_nI (by omega) (by omega)) ?_
        refine wm_icmp_ne 65 61 rfl (by decide) dX5_areLinked_58 (fun c58 => ?_) (fun c58 => ?_)
        · rw [nI_clamp (by omega), hs.row (a := 11 + a) (by omega) (by omega) (by omega), hs.row (a := 11 + b) (by omega) (by omega) (by omega)] at c58
          refine wm_iconst (v := 0) 66 rfl dX5_areLinked_65 (by decide) ?_
          exact wm_iret dX5_areLinked_66 (by first | rfl | exact zp_nar) (pP_i (zp_f (fun q => by rcases q with q | q | q; exact c12 (by rw [q]); exact c27 (by rw [q]); exact c58 q.2)))
        · rw [nI_clamp (by omega), hs.row (a := 11 + a) (by omega) (by omega) (by omega), hs.row (a := 11 + b) (by omega) (by omega) (by omega)] at c58
          refine wm_iconst (v := 1) 62 rfl dX5_areLinked_61 (by decide) ?_
          refine wm_goto 66 (by decide) dX5_areLinked_62 ?_
          exact wm_iret dX5_areLinked_66 (by first | rfl | exact zp_nar) (pP_i (zp_t (Or.inr (Or.inr ⟨c39, c58⟩))))
theorem k_X5_pair (l : Launch) {σ τ : Sg} (hs : stM σ τ) {p : Nat} (hP : mP σ p) {a b : Nat} : cMi l yX5_pair cX5_pair 4 .int 0 Lm [.ref 0, .int (nI a), .int (nI b)] τ (fun v σ1 => τ = σ1 ∧ prI σ p a b v) := by
  have h12 := hP.2
  refine zMet_of (by decide +kernel) (Nat.le_of_ble_eq_true rfl) (fun D cT ad sz => ?_)
  show Wm (fun _ _ => True) l (rmh 0) RX5 cX5_pair 4 (some .int) D cT ad Lm (zA ad Lm.length sz) (zZ (fun D cT ad L9 sz => zQi D cT ad L9 sz (fun v σ1 => τ = σ1 ∧ prI σ p a b v)) D cT ad Lm sz) [] 0 (lv_args 0 [.ref 0, .int (nI a), .int (nI b)]) [] τ 0 0
  have lp : ∀ (q9 j : Nat), p - j = q9 → j ≤ p → (∀ i, i < j → ¬ mtc σ a b i) → Wm (fun _ _ => True) l (rmh 0) RX5 cX5_pair 4 (some .int) D cT ad Lm (zA ad Lm.length sz) (zZ (fun D cT ad L9 sz => zQi D cT ad L9 sz (fun v σ1 => τ = σ1 ∧ prI σ p a b v)) D cT ad Lm sz) [] 2 [(0, .ref 0), (1, .int (nI a)), (2, .int (nI b)), (3, .int (nI j))] [] τ 0 0 := by
    intro q9
    induction q9 using Nat.strongRecOn with
    | ind q9 ih =>
      intro j  hmj hjj hinv
      refine wm_iload_n 3 rfl dX5_pair_2 rfl rfl ?_
      refine wm_aload_n 4 rfl dX5_pair_3 rfl rfl ?_
      refine wm_getI 7 rfl dX5_pair_4 gf_X5_83_4 rfl rfl ?_
      refine wm_icmp_ge 58 10 rfl (by decide) dX5_pair_7 (fun c7 => ?_) (fun c7 => ?_)
      · rw [(hs.mP hP).1] at c7
        have gj : j = p := by have := le_of_nI c7 (by omega) (by omega); omega
        refine wm_iconst (v := (-1)) 59 rfl dX5_pair_58 (by decide) ?_
        exact wm_iret dX5_pair_59 (by first | rfl | exact zp_nar) ⟨rfl, Or.inr ⟨rfl, by subst gj; exact hinv⟩⟩
      · rw [(hs.mP hP).1] at c7
        have gj : j < p := lt_of_nnI c7 (by omega) (by omega)
        refine wm_aload_n 11 rfl dX5_pair_10 rfl rfl ?_
        refine wm_getR 14 rfl dX5_pair_11 gf_X5_31_4 rfl rfl ?_
        refine wm_iload_n 15 rfl dX5_pair_14 rfl rfl ?_
        refine wm_iaload 16 rfl dX5_pair_15 rfl (vp_in_nI (by omega) (by omega)) ?_
        refine wm_iload_n 17 rfl dX5_pair_16 rfl rfl ?_
        refine wm_icmp_ne 30 20 rfl (by decide) dX5_pair_17 (fun c17 => ?_) (fun c17 => ?_)
        · rw [nI_clamp (by omega), hs.row (a := 7) (by decide) (by decide) (by decide)] at c17
          refine wm_aload_n 31 rfl dX5_pair_30 rfl rfl ?_
          refine wm_getR 34 rfl dX5_pair_31 gf_X5_31_4 rfl rfl ?_
          refine wm_iload_n 35 rfl dX5_pair_34 rfl rfl ?_
          refine wm_iaload 36 rfl dX5_pair_35 rfl (vp_in_nI (by omega) (by omega)) ?_
          refine wm_iload_n 37 rfl dX5_pair_36 rfl rfl ?_
          refine wm_icmp_ne 52 40 rfl (by decide) dX5_pair_37 (fun c37 => ?_) (fun c37 => ?_)
          · rw [nI_clamp (by omega), hs.row (a := 7) (by decide) (by decide) (by decide)] at c37
            refine wm_iinc (ls' := [(3, _), (0, _), (1, _), (2, _)]) 55 rfl dX5_pair_52 rfl (nI_inc _) (by decide) rfl ?_
            refine wm_goto 2 (by decide) dX5_pair_55 ?_
            refine wm_loc (ls2 := [(0, _), (1, _), (2, _), (3, _)]) [1, 2, 3, 0] rfl ?_
            refine ih (p - (j + 1)) (by omega) (j + 1) rfl (by omega) (lt_s hinv ?_)
            rintro (⟨h1, h2⟩ | ⟨h1, h2⟩)
            · first
              | exact c17 h1
              | exact c27 h2
            · first
              | exact c37 h1
              | exact c47 h2
          · rw [nI_clamp (by omega), hs.row (a := 7) (by decide) (by decide) (by decide)] at c37
            refine wm_aload_n 41 rfl dX5_pair_40 rfl rfl ?_
            refine wm_getR 44 rfl dX5_pair_41 gf_X5_34_4 rfl rfl ?_
            refine wm_iload_n 45 rfl dX5_pair_44 rfl rfl ?_
            refine wm_iaload 46 rfl dX5_pair_45 rfl (vp_in_nI (by omega) (by omega)) ?_
            refine wm_iload_n 47 rfl dX5_pair_46 rfl rfl ?_
            refine wm_icmp_ne 52 50 rfl (by decide) dX5_pair_47 (fun c47 => ?_) (fun c47 => ?_)
            · rw [nI_clamp (by omega), hs.row (a := 8) (by decide) (by decide) (by decide)] at c47
              refine wm_iinc (ls' := [(3, _), (0, _), (1, _), (2, _)]) 55 rfl dX5_pair_52 rfl (nI_inc _) (by decide) rfl ?_
              refine wm_goto 2 (by decide) dX5_pair_55 ?_
              refine wm_loc (ls2 := [(0, _), (1, _), (2, _), (3, _)]) [1, 2, 3, 0] rfl ?_
              refine ih (p - (j + 1)) (by omega) (j + 1) rfl (by omega) (lt_s hinv ?_)
              rintro (⟨h1, h2⟩ | ⟨h1, h2⟩)
              · first
                | exact c17 h1
                | exact c27 h2
              · first
                | exact c37 h1
                | exact c47 h2
            · rw [nI_clamp (by omega), hs.row (a := 8) (by decide) (by decide) (by decide)] at c47
              refine wm_iload_n 51 rfl dX5_pair_50 rfl rfl ?_
              exact wm_iret dX5_pair_51 (by first | rfl | exact zp_nar) ⟨rfl, Or.inl ⟨j, gj, rfl, by first | exact Or.inl ⟨c17, c27⟩ | exact Or.inr ⟨c37, c47⟩, hinv⟩⟩
        · rw [nI_clamp (by omega), hs.row (a := 7) (by decide) (by decide) (by decide)] at c17
          refine wm_aload_n 21 rfl dX5_pair_20 rfl rfl ?_
          refine wm_getR 24 rfl dX5_pair_21 gf_X5_34_4 rfl rfl ?_
          refine wm_iload_n 25 rfl dX5_pair_24 rfl rfl ?_
          refine wm_iaload 26 rfl dX5_pair_25 rfl (vp_in_nI (by omega) (by omega)) ?_
          refine wm_iload_n 27 rfl dX5_pair_26 rfl rfl ?_
          refine wm_icmp_eq 50 30 rfl (by decide) dX5_pair_27 (fun c27 => ?_) (fun c27 => ?_)
          · rw [nI_clamp (by omega), hs.row (a := 8) (by decide) (by decide) (by decide)] at c27
            refine wm_iload_n 51 rfl dX5_pair_50 rfl rfl ?_
            exact wm_iret dX5_pair_51 (by first | rfl | exact zp_nar) ⟨rfl, Or.inl ⟨j, gj, rfl, by first | exact Or.inl ⟨c17, c27⟩ | exact Or.inr ⟨c37, c47⟩, hinv⟩⟩
          · rw [nI_clamp (by omega), hs.row (a := 8) (by decide) (by decide) (by decide)] at c27
            refine wm_aload_n 31 rfl dX5_pair_30 rfl rfl ?_
            refine wm_getR 34 rfl dX5_pair_31 gf_X5_31_4 rfl rfl ?_
            refine wm_iload_n 35 rfl dX5_pair_34 rfl rfl ?_
            refine wm_iaload 36 rfl dX5_pair_35 rfl (vp_in_nI (by omega) (by omega)) ?_
            refine wm_iload_n 37 rfl dX5_pair_36 rfl rfl ?_
            refine wm_icmp_ne 52 40 rfl (by decide) dX5_pair_37 (fun c37 => ?_) (fun c37 => ?_)
            · rw [nI_clamp (by omega), hs.row (a := 7) (by decide) (by decide) (by decide)] at c37
              refine wm_iinc (ls' := [(3, _), (0, _), (1, _), (2, _)]) 55 rfl dX5_pair_52 rfl (nI_inc _) (by decide) rfl ?_
              refine wm_goto 2 (by decide) dX5_pair_55 ?_
              refine wm_loc (ls2 := [(0, _), (1, _), (2, _), (3, _)]) [1, 2, 3, 0] rfl ?_
              refine ih (p - (j + 1)) (by omega) (j + 1) rfl (by omega) (lt_s hinv ?_)
              rintro (⟨h1, h2⟩ | ⟨h1, h2⟩)
              · first
                | exact c17 h1
                | exact c27 h2
              · first
                | exact c37 h1
                | exact c47 h2
            · rw [nI_clamp (by omega), hs.row (a := 7) (by decide) (by decide) (by decide)] at c37
              refine wm_aload_n 41 rfl dX5_pair_40 rfl rfl ?_
              refine wm_getR 44 rfl dX5_pair_41 gf_X5_34_4 rfl rfl ?_
              refine wm_iload_n 45 rfl dX5_pair_44 rfl rfl ?_
              refine wm_iaload 46 rfl dX5_pair_45 rfl (vp_in_nI (by omega) (by omega)) ?_
              refine wm_iload_n 47 rfl dX5_pair_46 rfl rfl ?_
              refine wm_icmp_ne 52 50 rfl (by decide) dX5_pair_47 (fun c47 => ?_) (fun c47 => ?_)
              · rw [nI_clamp (by omega), hs.row (a := 8) (by decide) (by decide) (by decide)] at c47
                refine wm_iinc (ls' := [(3, _), (0, _), (1, _), (2, _)]) 55 rfl dX5_pair_52 rfl (nI_inc _) (by decide) rfl ?_
                refine wm_goto 2 (by decide) dX5_pair_55 ?_
                refine wm_loc (ls2 := [(0, _), (1, _), (2, _), (3, _)]) [1, 2, 3, 0] rfl ?_
                refine ih (p - (j + 1)) (by omega) (j + 1) rfl (by omega) (lt_s hinv ?_)
                rintro (⟨h1, h2⟩ | ⟨h1, h2⟩)
                · first
                  | exact c17 h1
                  | exact c27 h2
                · first
                  | exact c37 h1
                  | exact c47 h2
              · rw [nI_clamp (by omega), hs.row (a := 8) (by decide) (by decide) (by decide)] at c47
                refine wm_iload_n 51 rfl dX5_pair_50 rfl rfl ?_
                exact wm_iret dX5_pair_51 (by first | rfl | exact zp_nar) ⟨rfl, Or.inl ⟨j, gj, rfl, by first | exact Or.inl ⟨c17, c27⟩ | exact Or.inr ⟨c37, c47⟩, hinv⟩⟩
  refine wm_iconst (v := 0) 1 rfl dX5_pair_0 (by decide) ?_
  refine wm_istore_n (ls' := [(3, _), (0, _), (1, _), (2, _)]) 2 rfl dX5_pair_1 rfl (by decide) rfl ?_
  refine wm_loc (ls2 := [(0, _), (1, _), (2, _), (3, _)]) [1, 2, 3, 0] rfl ?_
  exact lp p 0 rfl (Nat.zero_le _) (fun i hi => absurd hi (Nat.not_lt_zero i))
