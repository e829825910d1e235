theorem gf_X4_42_0 : zGF RX4 42 0 7 := ⟨RX1, TX1, 10, "Assetmerge$Inventory", rfl, zin_X1, by decide, aw_16_9, Or.inl rfl⟩
theorem ca_X1_isForbidden : zCal yX1_isForbidden cX1_isForbidden 3 (some .boolean) 2 := ⟨aw_18_22, aw_1_17, by decide +kernel, by decide +kernel, by decide +kernel⟩
theorem cv_X1_isForbidden : zCaV RX1 yX1_isForbidden := ⟨aw_18_20, aw_18_21⟩
/-! what the calls refuse; the class's own checks -/
abbrev eIO : String := "java/lang/IndexOutOfBoundsException"
abbrev eIA : String := "java/lang/IllegalArgumentException"
abbrev eIS : String := "java/lang/IllegalStateException"
abbrev eNS : String := "java/util/NoSuchElementException"
/-- the first condition that doesn't hold has thrown its exception -/
def thr : List (String × Prop) → String → Prop
  | [], _ => False
  | (E0, P) :: r, E => (E = E0 ∧ ¬ P) ∨ (P ∧ thr r E)
def pT (σ : Sg) (L : List (String × Prop)) : String → Sg → Prop := fun E σ1 => stb σ σ1 ∧ thr L E
/-- an int that names one of m -/
def nR (m : Nat) (v : Int32) : Prop := ∃ i, v = nI i ∧ i < m
def rg (v lo hi : Int32) : Prop := ¬ v < lo ∧ v ≤ hi
def fbR (σ : Sg) (a b : Int32) : Prop := ∃ i j, a = nI i ∧ b = nI j ∧ i < 24 ∧ j < 24 ∧ tb (σ 13 i) j = true
theorem nR_of {m : Nat} {v : Int32} (hm : m < 2 ^ 31) (h1 : ¬ v < 0) (h2 : v < nI m) : nR m v := by
  obtain ⟨i, hi, rfl⟩ := nI_of h1
  exact ⟨i, rfl, lt_of_nIlt h2 hi hm⟩
theorem nR_lo {m : Nat} {v : Int32} (hm : m ≤ 2 ^ 31) (h : v < 0) : ¬ nR m v := by
  rintro ⟨i, rfl, hi⟩
  have h2 : (nI i).toInt < (nI 0).toInt := Int32.lt_iff_toInt_lt.mp h
  have h3 : (nI 0).toInt ≤ (nI i).toInt := Int32.le_iff_toInt_le.mp ((nI_leI (by omega) (by omega)).mpr (Nat.zero_le i))
  omega
theorem nR_hi {m : Nat} {v : Int32} (hm : m < 2 ^ 31) (h : ¬ v < nI m) : ¬ nR m v := by
  rintro ⟨i, rfl, hi⟩
  exact h ((nI_ltI (by omega) hm).mpr hi)
theorem k_X4_checkSource (l : Launch) (hst : l.stackTraces = false) {σ : Sg} {m : Nat} (hs : σ 1 7 = nI m) (hm : m < 2 ^ 31) (r : Int32) : xMv l yX4_checkSource cX4_checkSource 2 6 1 6 Lc [.ref 0, .int r] σ (fun σ1 => σ = σ1 ∧ nR m r) (fun E σ1 => E = eIO ∧ σ = σ1 ∧ ¬ nR m r) := by
  refine zMetx_of (by decide +kernel) (Nat.le_of_ble_eq_true rfl) (fun D cT ad sz => ?_)
  show Wm zNoT l (rmx 6 1 6) RX4 cX4_checkSource 2 none D cT ad Lc (zA ad Lc.length sz) (zZx (fun D cT ad L9 sz => zQv D cT ad L9 sz (fun σ1 => σ = σ1 ∧ nR m r)) (fun E σ1 => E = eIO ∧ σ = σ1 ∧ ¬ nR m r) 1 6 D cT ad Lc sz) [] 0 (lv_args 0 [.ref 0, .int r]) [] σ 0 0
  refine wm_iload_n 1 rfl dX4_checkSource_0 rfl rfl ?_
  refine wm_if_lt 15 4 rfl (by decide) dX4_checkSource_1 (fun c1 => ?_) (fun c1 => ?_)
  · exact wmx_throw th_IOB (List.mem_of_getElem? (i := 2) rfl) hst dX4_checkSource_15 dX4_checkSource_18 dX4_checkSource_19 dX4_checkSource_21 dX4_checkSource_24 ⟨Nat.le_of_ble_eq_true rfl, Nat.le_of_ble_eq_true rfl, Nat.le_of_ble_eq_true rfl, Nat.le_of_ble_eq_true rfl⟩ (Nat.le_of_ble_eq_true rfl) (Nat.le_of_ble_eq_true rfl) (⟨rfl, rfl, by first | exact nR_lo (by omega) c1 | exact nR_hi hm c12⟩)
  · refine wm_iload_n 5 rfl dX4_checkSource_4 rfl rfl ?_
    refine wm_aload_n 6 rfl dX4_checkSource_5 rfl rfl ?_
    refine wm_getR 9 rfl dX4_checkSource_6 gf_X4_12_3 rfl rfl ?_
    refine wm_getI 12 rfl dX4_checkSource_9 gf_X4_42_0 rfl rfl ?_
    refine wm_icmp_lt 25 15 rfl (by decide) dX4_checkSource_12 (fun c12 => ?_) (fun c12 => ?_)
    · rw [hs] at c12
      exact wmx_vret dX4_checkSource_25 ⟨rfl, nR_of hm c1 c12⟩ (Nat.le_of_ble_eq_true rfl) (Nat.le_of_ble_eq_true rfl)
    · rw [hs] at c12
      exact wmx_throw th_IOB (List.mem_of_getElem? (i := 2) rfl) hst dX4_checkSource_15 dX4_checkSource_18 dX4_checkSource_19 dX4_checkSource_21 dX4_checkSource_24 ⟨Nat.le_of_ble_eq_true rfl, Nat.le_of_ble_eq_true rfl, Nat.le_of_ble_eq_true rfl, Nat.le_of_ble_eq_true rfl⟩ (Nat.le_of_ble_eq_true rfl) (Nat.le_of_ble_eq_true rfl) (⟨rfl, rfl, by first | exact nR_lo (by omega) c1 | exact nR_hi hm c12⟩)
theorem k_X4_checkRecord (l : Launch) (hst : l.stackTraces = false) {σ : Sg} {n : Nat} (hI : cI σ n) (r : Int32) : xMv l yX4_checkRecord cX4_checkRecord 2 6 1 6 Lc [.ref 0, .int r] σ (fun σ1 => σ = σ1 ∧ hdR σ n r) (fun E σ1 => E = eIO ∧ σ = σ1 ∧ ¬ hdR σ n r) := by
  refine zMetx_of (by decide +kernel) (Nat.le_of_ble_eq_true rfl) (fun D cT ad sz => ?_)
  show Wm zNoT l (rmx 6 1 6) RX4 cX4_checkRecord 2 none D cT ad Lc (zA ad Lc.length sz) (zZx (fun D cT ad L9 sz => zQv D cT ad L9 sz (fun σ1 => σ = σ1 ∧ hdR σ n r)) (fun E σ1 => E = eIO ∧ σ = σ1 ∧ ¬ hdR σ n r) 1 6 D cT ad Lc sz) [] 0 (lv_args 0 [.ref 0, .int r]) [] σ 0 0
  refine wm_aload_n 1 rfl dX4_checkRecord_0 rfl rfl ?_
  refine wm_getR 4 rfl dX4_checkRecord_1 gf_X4_12_3 rfl rfl ?_
  refine wm_iload_n 5 rfl dX4_checkRecord_4 rfl rfl ?_
  refine wm_callVi (ty := .boolean) 8 rfl dX4_checkRecord_5 (k_X1_holds l hI r) ca_X1_holds cv_X1_holds rfl aw_8_18 rfl rfl ⟨Nat.le_of_ble_eq_true rfl, Nat.le_of_ble_eq_true rfl⟩ (Nat.le_of_ble_eq_true rfl) ⟨Nat.le_of_ble_eq_true rfl, Nat.le_of_ble_eq_true rfl⟩ ?_
  rintro r9 σ9 ⟨rfl, rfl⟩
  refine wm_if_ne 21 11 rfl (by decide) dX4_checkRecord_8 (fun c8 => ?_) (fun c8 => ?_)
  · exact wmx_vret dX4_checkRecord_21 ⟨rfl, zp_n.mp c8⟩ (Nat.le_of_ble_eq_true rfl) (Nat.le_of_ble_eq_true rfl)
  · exact wmx_throw th_IOB (List.mem_of_getElem? (i := 4) rfl) hst dX4_checkRecord_11 dX4_checkRecord_14 dX4_checkRecord_15 dX4_checkRecord_17 dX4_checkRecord_20 ⟨Nat.le_of_ble_eq_true rfl, Nat.le_of_ble_eq_true rfl, Nat.le_of_ble_eq_true rfl, Nat.le_of_ble_eq_true rfl⟩ (Nat.le_of_ble_eq_true rfl) (Nat.le_of_ble_eq_true rfl) (⟨rfl, rfl, zp_0.mp c8⟩)
theorem k_X4_checkKind (l : Launch) (hst : l.stackTraces = false) {σ : Sg} (r : Int32) : xMv l yX4_checkKind cX4_checkKind 1 6 1 6 Lc [.int r] σ (fun σ1 => σ = σ1 ∧ nR 3 r) (fun E σ1 => E = eIO ∧ σ = σ1 ∧ ¬ nR 3 r) := by
  refine zMetx_of (by decide +kernel) (Nat.le_of_ble_eq_true rfl) (fun D cT ad sz => ?_)
  show Wm zNoT l (rmx 6 1 6) RX4 cX4_checkKind 1 none D cT ad Lc (zA ad Lc.length sz) (zZx (fun D cT ad L9 sz => zQv D cT ad L9 sz (fun σ1 => σ = σ1 ∧ nR 3 r)) (fun E σ1 => E = eIO ∧ σ = σ1 ∧ ¬ nR 3 r) 1 6 D cT ad Lc sz) [] 0 (lv_args 0 [.int r]) [] σ 0 0
  refine wm_iload_n 1 rfl dX4_checkKind_0 rfl rfl ?_
  refine wm_if_lt 9 4 rfl (by decide) dX4_checkKind_1 (fun c1 => ?_) (fun c1 => ?_)
  · exact wmx_throw th_IOB (List.mem_of_getElem? (i := 5) rfl) hst dX4_checkKind_9 dX4_checkKind_12 dX4_checkKind_13 dX4_checkKind_15 dX4_checkKind_18 ⟨Nat.le_of_ble_eq_true rfl, Nat.le_of_ble_eq_true rfl, Nat.le_of_ble_eq_true rfl, Nat.le_of_ble_eq_true rfl⟩ (Nat.le_of_ble_eq_true rfl) (Nat.le_of_ble_eq_true rfl) (⟨rfl, rfl, by first | exact nR_lo (by omega) c1 | exact nR_hi (by omega) c6⟩)
  · refine wm_iload_n 5 rfl dX4_checkKind_4 rfl rfl ?_
    refine wm_iconst (v := 3) 6 rfl dX4_checkKind_5 (by decide) ?_
    refine wm_icmp_lt 19 9 rfl (by decide) dX4_checkKind_6 (fun c6 => ?_) (fun c6 => ?_)
    · exact wmx_vret dX4_checkKind_19 ⟨rfl, nR_of (by omega) c1 c6⟩ (Nat.le_of_ble_eq_true rfl) (Nat.le_of_ble_eq_true rfl)
    · exact wmx_throw th_IOB (List.mem_of_getElem? (i := 5) rfl) hst dX4_checkKind_9 dX4_checkKind_12 dX4_checkKind_13 dX4_checkKind_15 dX4_checkKind_18 ⟨Nat.le_of_ble_eq_true rfl, Nat.le_of_ble_eq_true rfl, Nat.le_of_ble_eq_true rfl, Nat.le_of_ble_eq_true rfl⟩ (Nat.le_of_ble_eq_true rfl) (Nat.le_of_ble_eq_true rfl) (⟨rfl, rfl, by first | exact nR_lo (by omega) c1 | exact nR_hi (by omega) c6⟩)
theorem k_X4_checkField (l : Launch) (hst : l.stackTraces = false) {σ : Sg} (r : Int32) : xMv l yX4_checkField cX4_checkField 1 6 1 6 Lc [.int r] σ (fun σ1 => σ = σ1 ∧ nR 3 r) (fun E σ1 => E = eIO ∧ σ = σ1 ∧ ¬ nR 3 r) := by
  refine zMetx_of (by decide +kernel) (Nat.le_of_ble_eq_true rfl) (fun D cT ad sz => ?_)
  show Wm zNoT l (rmx 6 1 6) RX4 cX4_checkField 1 none D cT ad Lc (zA ad Lc.length sz) (zZx (fun D cT ad L9 sz => zQv D cT ad L9 sz (fun σ1 => σ = σ1 ∧ nR 3 r)) (fun E σ1 => E = eIO ∧ σ = σ1 ∧ ¬ nR 3 r) 1 6 D cT ad Lc sz) [] 0 (lv_args 0 [.int r]) [] σ 0 0
  refine wm_iload_n 1 rfl dX4_checkField_0 rfl rfl ?_
  refine wm_if_lt 9 4 rfl (by decide) dX4_checkField_1 (fun c1 => ?_) (fun c1 => ?_)
  · exact wmx_throw th_IOB (List.mem_of_getElem? (i := 6) rfl) hst dX4_checkField_9 dX4_checkField_12 dX4_checkField_13 dX4_checkField_15 dX4_checkField_18 ⟨Nat.le_of_ble_eq_true rfl, Nat.le_of_ble_eq_true rfl, Nat.le_of_ble_eq_true rfl, Nat.le_of_ble_eq_true rfl⟩ (Nat.le_of_ble_eq_true rfl) (Nat.le_of_ble_eq_true rfl) (⟨rfl, rfl, by first | exact nR_lo (by omega) c1 | exact nR_hi (by omega) c6⟩)
  · refine wm_iload_n 5 rfl dX4_checkField_4 rfl rfl ?_
    refine wm_iconst (v := 3) 6 rfl dX4_checkField_5 (by decide) ?_
    refine wm_icmp_lt 19 9 rfl (by decide) dX4_checkField_6 (fun c6 => ?_) (fun c6 => ?_)
    · exact wmx_vret dX4_checkField_19 ⟨rfl, nR_of (by omega) c1 c6⟩ (Nat.le_of_ble_eq_true rfl) (Nat.le_of_ble_eq_true rfl)
    · exact wmx_throw th_IOB (List.mem_of_getElem? (i := 6) rfl) hst dX4_checkField_9 dX4_checkField_12 dX4_checkField_13 dX4_checkField_15 dX4_checkField_18 ⟨Nat.le_of_ble_eq_true rfl, Nat.le_of_ble_eq_true rfl, Nat.le_of_ble_eq_true rfl, Nat.le_of_ble_eq_true rfl⟩ (Nat.le_of_ble_eq_true rfl) (Nat.le_of_ble_eq_true rfl) (⟨rfl, rfl, by first | exact nR_lo (by omega) c1 | exact nR_hi (by omega) c6⟩)
theorem k_X4_checkRange (l : Launch) (hst : l.stackTraces = false) {σ : Sg} (v lo hi : Int32) : xMv l yX4_checkRange cX4_checkRange 3 6 1 6 Lc [.int v, .int lo, .int hi] σ (fun σ1 => σ = σ1 ∧ rg v lo hi) (fun E σ1 => E = eIA ∧ σ = σ1 ∧ ¬ rg v lo hi) := by
  refine zMetx_of (by decide +kernel) (Nat.le_of_ble_eq_true rfl) (fun D cT ad sz => ?_)
  show Wm zNoT l (rmx 6 1 6) RX4 cX4_checkRange 3 none D cT ad Lc (zA ad Lc.length sz) (zZx (fun D cT ad L9 sz => zQv D cT ad L9 sz (fun σ1 => σ = σ1 ∧ rg v lo hi)) (fun E σ1 => E = eIA ∧ σ = σ1 ∧ ¬ rg v lo hi) 1 6 D cT ad Lc sz) [] 0 (lv_args 0 [.int v, .int lo, .int hi]) [] σ 0 0
  refine wm_iload_n 1 rfl dX4_checkRange_0 rfl rfl ?_
  refine wm_iload_n 2 rfl dX4_checkRange_1 rfl rfl ?_
  refine wm_icmp_lt 10 5 rfl (by decide) dX4_checkRange_2 (fun c2 => ?_) (fun c2 => ?_)
  · exact wmx_throw th_IAE (List.mem_of_getElem? (i := 0) rfl) hst dX4_checkRange_10 dX4_checkRange_13 dX4_checkRange_14 dX4_checkRange_16 dX4_checkRange_19 ⟨Nat.le_of_ble_eq_true rfl, Nat.le_of_ble_eq_true rfl, Nat.le_of_ble_eq_true rfl, Nat.le_of_ble_eq_true rfl⟩ (Nat.le_of_ble_eq_true rfl) (Nat.le_of_ble_eq_true rfl) (⟨rfl, rfl, by first | exact fun q => q.1 c2 | exact fun q => c7 q.2⟩)
  · refine wm_iload_n 6 rfl dX4_checkRange_5 rfl rfl ?_
    refine wm_iload_n 7 rfl dX4_checkRange_6 rfl rfl ?_
    refine wm_icmp_le 20 10 rfl (by decide) dX4_checkRange_7 (fun c7 => ?_) (fun c7 => ?_)
    · exact wmx_vret dX4_checkRange_20 ⟨rfl, c2, c7⟩ (Nat.le_of_ble_eq_true rfl) (Nat.le_of_ble_eq_true rfl)
    · exact wmx_throw th_IAE (List.mem_of_getElem? (i := 0) rfl) hst dX4_checkRange_10 dX4_checkRange_13 dX4_checkRange_14 dX4_checkRange_16 dX4_checkRange_19 ⟨Nat.le_of_ble_eq_true rfl, Nat.le_of_ble_eq_true rfl, Nat.le_of_ble_eq_true rfl, Nat.le_of_ble_eq_true rfl⟩ (Nat.le_of_ble_eq_true rfl) (Nat.le_of_ble_eq_true rfl) (⟨rfl, rfl, by first | exact fun q => q.1 c2 | exact fun q => c7 q.2⟩)
theorem k_X4_checkDifferent (l : Launch) (hst : l.stackTraces = false) {σ : Sg} (a b : Int32) : xMv l yX4_checkDifferent cX4_checkDifferent 2 6 1 6 Lc [.int a, .int b] σ (fun σ1 => σ = σ1 ∧ (a ≠ b)) (fun E σ1 => E = eIA ∧ σ = σ1 ∧ ¬ (a ≠ b)) := by
  refine zMetx_of (by decide +kernel) (Nat.le_of_ble_eq_true rfl) (fun D cT ad sz => ?_)
  show Wm zNoT l (rmx 6 1 6) RX4 cX4_checkDifferent 2 none D cT ad Lc (zA ad Lc.length sz) (zZx (fun D cT ad L9 sz => zQv D cT ad L9 sz (fun σ1 => σ = σ1 ∧ (a ≠ b))) (fun E σ1 => E = eIA ∧ σ = σ1 ∧ ¬ (a ≠ b)) 1 6 D cT ad Lc sz) [] 0 (lv_args 0 [.int a, .int b]) [] σ 0 0
  refine wm_iload_n 1 rfl dX4_checkDifferent_0 rfl rfl ?_
  refine wm_iload_n 2 rfl dX4_checkDifferent_1 rfl rfl ?_
  refine wm_icmp_ne 15 5 rfl (by decide) dX4_checkDifferent_2 (fun c2 => ?_) (fun c2 => ?_)
  · exact wmx_vret dX4_checkDifferent_15 ⟨rfl, c2⟩ (Nat.le_of_ble_eq_true rfl) (Nat.le_of_ble_eq_true rfl)
  · exact wmx_throw th_IAE (List.mem_of_getElem? (i := 7) rfl) hst dX4_checkDifferent_5 dX4_checkDifferent_8 dX4_checkDifferent_9 dX4_checkDifferent_11 dX4_checkDifferent_14 ⟨Nat.le_of_ble_eq_true rfl, Nat.le_of_ble_eq_true rfl, Nat.le_of_ble_eq_true rfl, Nat.le_of_ble_eq_true rfl⟩ (Nat.le_of_ble_eq_true rfl) (Nat.le_of_ble_eq_true rfl) (⟨rfl, rfl, fun q => q c2⟩)
theorem k_X4_checkForbidden (l : Launch) (hst : l.stackTraces = false) {σ : Sg} {a b : Nat} (ha : a < 24) (hb : b < 24) : xMv l yX4_checkForbidden cX4_checkForbidden 3 6 1 6 Lc [.ref 0, .int (nI a), .int (nI b)] σ (fun σ1 => σ = σ1 ∧ (tb (σ 13 a) b = true)) (fun E σ1 => E = eNS ∧ σ = σ1 ∧ ¬ (tb (σ 13 a) b = true)) := by
  refine zMetx_of (by decide +kernel) (Nat.le_of_ble_eq_true rfl) (fun D cT ad sz => ?_)
  show Wm zNoT l (rmx 6 1 6) RX4 cX4_checkForbidden 3 none D cT ad Lc (zA ad Lc.length sz) (zZx (fun D cT ad L9 sz => zQv D cT ad L9 sz (fun σ1 => σ = σ1 ∧ (tb (σ 13 a) b = true))) (fun E σ1 => E = eNS ∧ σ = σ1 ∧ ¬ (tb (σ 13 a) b = true)) 1 6 D cT ad Lc sz) [] 0 (lv_args 0 [.ref 0, .int (nI a), .int (nI b)]) [] σ 0 0
  refine wm_aload_n 1 rfl dX4_checkForbidden_0 rfl rfl ?_
  refine wm_getR 4 rfl dX4_checkForbidden_1 gf_X4_12_3 rfl rfl ?_
  refine wm_iload_n 5 rfl dX4_checkForbidden_4 rfl rfl ?_
  refine wm_iload_n 6 rfl dX4_checkForbidden_5 rfl rfl ?_
  refine wm_callVi (ty := .boolean) 9 rfl dX4_checkForbidden_6 (k_X1_isForbidden l ha hb) ca_X1_isForbidden cv_X1_isForbidden rfl aw_18_19 rfl rfl ⟨Nat.le_of_ble_eq_true rfl, Nat.le_of_ble_eq_true rfl⟩ (Nat.le_of_ble_eq_true rfl) ⟨Nat.le_of_ble_eq_true rfl, Nat.le_of_ble_eq_true rfl⟩ ?_
  rintro r9 σ9 ⟨rfl, rfl⟩
  refine wm_if_ne 22 12 rfl (by decide) dX4_checkForbidden_9 (fun c9 => ?_) (fun c9 => ?_)
  · exact wmx_vret dX4_checkForbidden_22 ⟨rfl, zp_n.mp c9⟩ (Nat.le_of_ble_eq_true rfl) (Nat.le_of_ble_eq_true rfl)
  · exact wmx_throw th_NSE (List.mem_of_getElem? (i := 10) rfl) hst dX4_checkForbidden_12 dX4_checkForbidden_15 dX4_checkForbidden_16 dX4_checkForbidden_18 dX4_checkForbidden_21 ⟨Nat.le_of_ble_eq_true rfl, Nat.le_of_ble_eq_true rfl, Nat.le_of_ble_eq_true rfl, Nat.le_of_ble_eq_true rfl⟩ (Nat.le_of_ble_eq_true rfl) (Nat.le_of_ble_eq_true rfl) (⟨rfl, rfl, zp_0.mp c9⟩)
theorem k_X4_checkFactRecord (l : Launch) (hst : l.stackTraces = false) {σ : Sg} (r : Int32) : xMv l yX4_checkFactRecord cX4_checkFactRecord 1 6 1 6 Lc [.int r] σ (fun σ1 => σ = σ1 ∧ nR 24 r) (fun E σ1 => E = eNS ∧ σ = σ1 ∧ ¬ nR 24 r) := by
  refine zMetx_of (by decide +kernel) (Nat.le_of_ble_eq_true rfl) (fun D cT ad sz => ?_)
  show Wm zNoT l (rmx 6 1 6) RX4 cX4_checkFactRecord 1 none D cT ad Lc (zA ad Lc.length sz) (zZx (fun D cT ad L9 sz => zQv D cT ad L9 sz (fun σ1 => σ = σ1 ∧ nR 24 r)) (fun E σ1 => E = eNS ∧ σ = σ1 ∧ ¬ nR 24 r) 1 6 D cT ad Lc sz) [] 0 (lv_args 0 [.int r]) [] σ 0 0
  refine wm_iload_n 1 rfl dX4_checkFactRecord_0 rfl rfl ?_
  refine wm_if_lt 10 4 rfl (by decide) dX4_checkFactRecord_1 (fun c1 => ?_) (fun c1 => ?_)
  · exact wmx_throw th_NSE (List.mem_of_getElem? (i := 13) rfl) hst dX4_checkFactRecord_10 dX4_checkFactRecord_13 dX4_checkFactRecord_14 dX4_checkFactRecord_16 dX4_checkFactRecord_19 ⟨Nat.le_of_ble_eq_true rfl, Nat.le_of_ble_eq_true rfl, Nat.le_of_ble_eq_true rfl, Nat.le_of_ble_eq_true rfl⟩ (Nat.le_of_ble_eq_true rfl) (Nat.le_of_ble_eq_true rfl) (⟨rfl, rfl, by first | exact nR_lo (by omega) c1 | exact nR_hi (by omega) c7⟩)
  · refine wm_iload_n 5 rfl dX4_checkFactRecord_4 rfl rfl ?_
    refine wm_bipush (v := 24) 7 rfl dX4_checkFactRecord_5 (by decide) ?_
    refine wm_icmp_lt 20 10 rfl (by decide) dX4_checkFactRecord_7 (fun c7 => ?_) (fun c7 => ?_)
    · exact wmx_vret dX4_checkFactRecord_20 ⟨rfl, nR_of (by omega) c1 c7⟩ (Nat.le_of_ble_eq_true rfl) (Nat.le_of_ble_eq_true rfl)
    · exact wmx_throw th_NSE (List.mem_of_getElem? (i := 13) rfl) hst dX4_checkFactRecord_10 dX4_checkFactRecord_13 dX4_checkFactRecord_14 dX4_checkFactRecord_16 dX4_checkFactRecord_19 ⟨Nat.le_of_ble_eq_true rfl, Nat.le_of_ble_eq_true rfl, Nat.le_of_ble_eq_true rfl, Nat.le_of_ble_eq_true rfl⟩ (Nat.le_of_ble_eq_true rfl) (Nat.le_of_ble_eq_true rfl) (⟨rfl, rfl, by first | exact nR_lo (by omega) c1 | exact nR_hi (by omega) c7⟩)
