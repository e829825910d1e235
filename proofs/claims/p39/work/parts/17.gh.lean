theorem gf_X4_91_0 : zGF RX4 91 0 2 := ⟨RX1, TX1, 10, "Assetmerge$Inventory", rfl, zin_X1, by decide, aw_10_0, Or.inl rfl⟩
theorem ca_X4_findLastSeen : zCal yX4_findLastSeen cX4_findLastSeen 4 (some .int) 1 := ⟨aw_9_23, aw_1_2, by decide +kernel, by decide +kernel, by decide +kernel⟩
theorem cv_X4_findLastSeen : zCaV RX4 yX4_findLastSeen := ⟨aw_9_21, aw_9_22⟩
theorem gf_X4_34_3 : zGF RX4 34 3 5 := ⟨RX4, TX4, 6, "Assetmerge", rfl, zin_X4, by decide, aw_2_5, Or.inl rfl⟩
theorem ca_X4_isThing : zCal yX4_isThing cX4_isThing 2 (some .boolean) 1 := ⟨aw_8_11, aw_1_2, by decide +kernel, by decide +kernel, by decide +kernel⟩
theorem cv_X4_isThing : zCaV RX4 yX4_isThing := ⟨aw_8_9, aw_8_10⟩
theorem ca_X4_isGhostOn : zCal yX4_isGhostOn cX4_isGhostOn 3 (some .boolean) 2 := ⟨aw_9_19, aw_1_2, by decide +kernel, by decide +kernel, by decide +kernel⟩
theorem cv_X4_isGhostOn : zCaV RX4 yX4_isGhostOn := ⟨aw_9_17, aw_9_18⟩
theorem ca_X0_findGroups : zCal yX0_findGroups cX0_findGroups 4 none 1 := ⟨aw_5_1, aw_2_19, by decide +kernel, by decide +kernel, by decide +kernel⟩
theorem ca_X4_countThings : zCal yX4_countThings cX4_countThings 3 (some .int) 0 := ⟨aw_4_19, aw_1_2, by decide +kernel, by decide +kernel, by decide +kernel⟩
theorem cv_X4_countThings : zCaV RX4 yX4_countThings := ⟨aw_4_17, aw_4_18⟩
theorem ca_X4_becomesGhostOn : zCal yX4_becomesGhostOn cX4_becomesGhostOn 3 (some .boolean) 1 := ⟨aw_21_17, aw_1_2, by decide +kernel, by decide +kernel, by decide +kernel⟩
theorem cv_X4_becomesGhostOn : zCaV RX4 yX4_becomesGhostOn := ⟨aw_21_15, aw_21_16⟩
theorem ca_X4_countMembers : zCal yX4_countMembers cX4_countMembers 4 (some .int) 1 := ⟨aw_9_2, aw_1_2, by decide +kernel, by decide +kernel, by decide +kernel⟩
theorem cv_X4_countMembers : zCaV RX4 yX4_countMembers := ⟨aw_9_0, aw_9_1⟩
theorem ca_X4_sumMembers : zCal yX4_sumMembers cX4_sumMembers 4 (some .int) 1 := ⟨aw_9_6, aw_1_2, by decide +kernel, by decide +kernel, by decide +kernel⟩
theorem cv_X4_sumMembers : zCaV RX4 yX4_sumMembers := ⟨aw_9_4, aw_9_5⟩
/-! AFTER THE JOIN: what stands below the row 14 stays; the things' numbers are known -/
def stb (σ τ : Sg) : Prop := ∀ a, a < 14 → τ a = σ a
def JD (σ : Sg) (n : Nat) (τ : Sg) : Prop := stb σ τ ∧ grs n (hd σ n) (kyC σ) (fbC σ) (gC σ n) ∧ ∀ k, k < 3 → lab τ (17 + k) n (gC σ n k)
theorem stb.tr {σ τ υ : Sg} (h : stb σ τ) (h2 : stb τ υ) : stb σ υ := fun a ha => (h2 a ha).trans (h a ha)
theorem stb.rf (σ : Sg) : stb σ σ := fun _ _ => rfl
theorem JD_fg {σ τ : Sg} {n : Nat} (h : (∀ a, a < 17 ∨ 20 < a → τ a = σ a) ∧ grs n (hd σ n) (kyC σ) (fbC σ) (gC σ n) ∧ ∀ k, k < 3 → lab τ (17 + k) n (gC σ n k)) : JD σ n τ := ⟨fun a ha => h.1 a (Or.inl (by omega)), h.2⟩
theorem stb.cIy {σ τ : Sg} {n : Nat} (h : stb σ τ) (hI : cI σ n) : cI τ n := cI_ag (h 1 (by omega)) hI
theorem stb.cSy {σ τ : Sg} {n : Nat} (h : stb σ τ) (hS : cS σ n) : cS τ n := fun a ha => by rw [h 3 (by omega)]; exact hS a ha
theorem mbr_ag {σ τ : Sg} {n : Nat} {g : Nat → Nat} (h : stb σ τ) : mbr τ n g = mbr σ n g := by
  funext h9 r
  unfold mbr
  rw [propext (hd_ag n r (h 1 (by omega)))]
theorem tf_ag {σ τ : Sg} {n : Nat} {g : Nat → Nat} {h f r : Nat} (hs : stb σ τ) (hf : f < 3) : tf τ n g h f r ↔ tf σ n g h f r := by unfold tf; rw [mbr_ag hs, hs (10 + f) (by omega)]
theorem bsI_ag {σ τ : Sg} {n : Nat} {g : Nat → Nat} {h f : Nat} {v : Int32} (hs : stb σ τ) (hf : f < 3) : bsI τ n g h f v ↔ bsI σ n g h f v := by
  have ea : ∀ a b, ah τ a b ↔ ah σ a b := fun a b => ah_ag a b (hs 2 (by omega)) (hs 3 (by omega)) (hs 4 (by omega)) (hs 0 (by omega))
  unfold bsI bst
  simp only [tf_ag hs hf, ea]
/-- days: who was seen when, today, the limit -/
def cD (σ : Sg) (n : Nat) (sn : Nat → Nat) (d L : Nat) : Prop := (∀ r, r < n → σ 4 r = nI (sn r) ∧ sn r ≤ d) ∧ σ 0 4 = nI d ∧ d ≤ 999 ∧ σ 0 5 = nI L ∧ 1 ≤ L ∧ L ≤ 99
theorem stb.cDy {σ τ : Sg} {n : Nat} {sn : Nat → Nat} {d L : Nat} (h : stb σ τ) (hD : cD σ n sn d L) : cD τ n sn d L := by
  unfold cD
  rw [h 4 (by omega), h 0 (by omega)]
  exact hD
noncomputable def lst (σ : Sg) (n : Nat) (g sn : Nat → Nat) (h : Nat) : Nat := mxq (mbr σ n g h) sn n
theorem lst_le {σ : Sg} {n : Nat} {g sn : Nat → Nat} {h d L : Nat} (hD : cD σ n sn d L) : lst σ n g sn h ≤ d := mxq_le (fun r hr => (hD.1 r hr).2)
def gho (σ : Sg) (n : Nat) (g sn : Nat → Nat) (L t h : Nat) : Prop := L < t - lst σ n g sn h
theorem pk_subN {a b : Nat} (h : b ≤ a) : nI a - nI b = nI (a - b) := pk_sub h
theorem lst_ag {σ τ : Sg} {n : Nat} {g sn : Nat → Nat} (h : stb σ τ) : lst τ n g sn = lst σ n g sn := by funext x; unfold lst; rw [mbr_ag h]
theorem gho_ag {σ τ : Sg} {n : Nat} {g sn : Nat → Nat} (h : stb σ τ) : gho τ n g sn = gho σ n g sn := by funext L t x; unfold gho; rw [lst_ag h]
/-- the next day with a new ghost -/
def NG (σ : Sg) (n : Nat) (g sn : Nat → Nat) (d L : Nat) (m : Nat) (v : Int32) : Prop := (v = -1 ∧ ∀ h, h < m → mbr σ n g h h → ¬ (d < lst σ n g sn h + L + 1 ∧ lst σ n g sn h + L + 1 ≤ 999)) ∨ ∃ t, v = nI t ∧ t ≤ 999 ∧ d < t ∧ (∃ h, h < m ∧ mbr σ n g h h ∧ t = lst σ n g sn h + L + 1) ∧ ∀ h, h < m → mbr σ n g h h → d < lst σ n g sn h + L + 1 → t ≤ lst σ n g sn h + L + 1
theorem nI_gt {a b : Nat} (h : nI a < nI b) (ha : a < 2 ^ 31) (hb : b < 2 ^ 31) : a < b := (nI_ltI ha hb).mp h
theorem nI_ngt {a b : Nat} (h : ¬ nI a < nI b) (ha : a < 2 ^ 31) (hb : b < 2 ^ 31) : b ≤ a := Nat.le_of_not_lt fun q => h ((nI_ltI ha hb).mpr q)
theorem nI_ne_m1 {a : Nat} (h : a < 2 ^ 31) : ¬ nI a = -1 := fun e => by
  have h1 := congrArg Int32.toInt e
  rw [nI_toInt h] at h1
  have h2 : (-1 : Int32).toInt = -1 := by decide
  rw [h2] at h1
  omega
theorem NG_keep {σ : Sg} {n : Nat} {g sn : Nat → Nat} {d L m : Nat} {v : Int32} (hN : NG σ n g sn d L m v) (h : mbr σ n g m m → ¬ (d < lst σ n g sn m + L + 1 ∧ lst σ n g sn m + L + 1 ≤ 999)) : NG σ n g sn d L (m + 1) v := by
  rcases hN with ⟨e, h1⟩ | ⟨t, e, h1, h2, ⟨x, hx, h3, h4⟩, h5⟩
  · exact Or.inl ⟨e, lt_s h1 h⟩
  · refine Or.inr ⟨t, e, h1, h2, ⟨x, by omega, h3, h4⟩, lt_s h5 (fun q1 q2 => ?_)⟩
    have := h q1
    omega
theorem NG_keep2 {σ : Sg} {n : Nat} {g sn : Nat → Nat} {d L m t : Nat} (hN : NG σ n g sn d L m (nI t)) (ht : t < 2 ^ 31) (h : mbr σ n g m m → t ≤ lst σ n g sn m + L + 1) : NG σ n g sn d L (m + 1) (nI t) := by
  rcases hN with ⟨e, h1⟩ | ⟨t', e, h1, h2, ⟨x, hx, h3, h4⟩, h5⟩
  · exact absurd e (nI_ne_m1 ht)
  · have := eq_of_nI e ht (by omega)
    subst this
    exact Or.inr ⟨t, rfl, h1, h2, ⟨x, by omega, h3, h4⟩, lt_s h5 (fun q1 _ => h q1)⟩
theorem NG_take {σ : Sg} {n : Nat} {g sn : Nat → Nat} {d L m : Nat} {v : Int32} (hN : NG σ n g sn d L m v) (hm : mbr σ n g m m) (h1 : d < lst σ n g sn m + L + 1) (h2 : lst σ n g sn m + L + 1 ≤ 999) (h3 : v = -1 ∨ nI (lst σ n g sn m + L + 1) < v) : NG σ n g sn d L (m + 1) (nI (lst σ n g sn m + L + 1)) := by
  refine Or.inr ⟨_, rfl, h2, h1, ⟨m, by omega, hm, rfl⟩, lt_s (fun x hx q1 q2 => ?_) (fun _ _ => Nat.le_refl _)⟩
  rcases hN with ⟨e, h4⟩ | ⟨t', e, h4, h5, -, h6⟩
  · have := h4 x hx q1
    omega
  · have h7 := h6 x hx q1 q2
    rcases h3 with h3 | h3
    · rw [e] at h3; exact absurd h3 (nI_ne_m1 (by omega))
    · rw [e] at h3
      have := nI_gt h3 (by omega) (by omega)
      omega
theorem k_X4_findLastSeen (l : Launch) {σ : Sg} {n : Nat} (hI : cI σ n) {g : Nat → Nat} (hg : lab σ 19 n g) {sn : Nat → Nat} {d L : Nat} (hD : cD σ n sn d L) {h : Nat} (hh : h < n) : cMi l yX4_findLastSeen cX4_findLastSeen 4 .int 3 Lc [.ref 0, .int (nI h)] σ (pP σ (nI (lst σ n g sn h))) := by
  have h24 := hI.2
  refine zMet_of (by decide +kernel) (Nat.le_of_ble_eq_true rfl) (fun D cT ad sz => ?_)
  show Wm (fun _ _ => True) l (rmh 3) RX4 cX4_findLastSeen 4 (some .int) D cT ad Lc (zA ad Lc.length sz) (zZ (fun D cT ad L9 sz => zQi D cT ad L9 sz (pP σ (nI (lst σ n g sn h)))) D cT ad Lc sz) [] 0 (lv_args 0 [.ref 0, .int (nI h)]) [] σ 0 0
  have lp : ∀ (q9 j : Nat), n - j = q9 → j ≤ n → True → Wm (fun _ _ => True) l (rmh 3) RX4 cX4_findLastSeen 4 (some .int) D cT ad Lc (zA ad Lc.length sz) (zZ (fun D cT ad L9 sz => zQi D cT ad L9 sz (pP σ (nI (lst σ n g sn h)))) D cT ad Lc sz) [] 4 [(0, .ref 0), (1, .int (nI h)), (2, .int (nI (mxq (mbr σ n g h) sn j))), (3, .int (nI j))] [] σ 0 0 := by
    intro q9
    induction q9 using Nat.strongRecOn with
    | ind q9 ih =>
      intro j  hmj hjj hinv
      refine wm_iload_n 5 rfl dX4_findLastSeen_4 rfl rfl ?_
      refine wm_aload_n 6 rfl dX4_findLastSeen_5 rfl rfl ?_
      refine wm_getR 9 rfl dX4_findLastSeen_6 gf_X4_12_3 rfl rfl ?_
      refine wm_getI 12 rfl dX4_findLastSeen_9 gf_X4_63_0 rfl rfl ?_
      refine wm_icmp_ge 44 15 rfl (by decide) dX4_findLastSeen_12 (fun c12 => ?_) (fun c12 => ?_)
      · rw [hI.1] at c12
        have gj : j = n := by have := le_of_nI c12 (by omega) (by omega); omega
        refine wm_iload_n 45 rfl dX4_findLastSeen_44 rfl rfl ?_
        exact wm_iret dX4_findLastSeen_45 (by first | rfl | exact zp_nar) ⟨rfl, by rw [gj]; rfl⟩
      · rw [hI.1] at c12
        have gj : j < n := lt_of_nnI c12 (by omega) (by omega)
        refine wm_aload_n 16 rfl dX4_findLastSeen_15 rfl rfl ?_
        refine wm_iload_n 17 rfl dX4_findLastSeen_16 rfl rfl ?_
        refine wm_iload_n 18 rfl dX4_findLastSeen_17 rfl rfl ?_
        refine wm_callVi (ty := .boolean) 21 rfl dX4_findLastSeen_18 (k_X4_isMember l hI hg gj (by omega)) ca_X4_isMember cv_X4_isMember rfl aw_8_12 rfl rfl ⟨Nat.le_of_ble_eq_true rfl, Nat.le_of_ble_eq_true rfl⟩ (Nat.le_of_ble_eq_true rfl) ⟨Nat.zero_le _, Nat.zero_le _⟩ ?_
        rintro r9 σ9 ⟨rfl, rfl⟩
        refine wm_if_eq 38 24 rfl (by decide) dX4_findLastSeen_21 (fun c21 => ?_) (fun c21 => ?_)
        · rw [← mxq_f (f := sn) (zp_0.mp c21)]
          refine wm_iinc (ls' := [(3, _), (0, _), (1, _), (2, _)]) 41 rfl dX4_findLastSeen_38 rfl (nI_inc _) (by decide) rfl ?_
          refine wm_goto 4 (by decide) dX4_findLastSeen_41 ?_
          refine wm_loc (ls2 := [(0, _), (1, _), (2, _), (3, _)]) [1, 2, 3, 0] rfl ?_
          exact ih (n - (j + 1)) (by omega) (j + 1) rfl (by omega) trivial
        · refine wm_iload_n 25 rfl dX4_findLastSeen_24 rfl rfl ?_
          refine wm_aload_n 26 rfl dX4_findLastSeen_25 rfl rfl ?_
          refine wm_getR 29 rfl dX4_findLastSeen_26 gf_X4_12_3 rfl rfl ?_
          refine wm_getR 32 rfl dX4_findLastSeen_29 gf_X4_91_0 rfl rfl ?_
          refine wm_iload_n 33 rfl dX4_findLastSeen_32 rfl rfl ?_
          refine wm_iaload 34 rfl dX4_findLastSeen_33 rfl (in24 gj h24) ?_
          rw [nI_clamp (by omega), (hD.1 j gj).1]
          refine wm_max 37 rfl dX4_findLastSeen_34 aw_10_1 aw_1_5 aw_1_6 aw_1_7 ⟨Nat.le_of_ble_eq_true rfl, Nat.le_of_ble_eq_true rfl⟩ (Nat.le_of_ble_eq_true rfl) ⟨Nat.zero_le _, Nat.zero_le _⟩ ?_
          rw [nI_max (by have := mxq_le (P := mbr σ n g h) (f := sn) (n := j) (d := d) (fun r hr => (hD.1 r (by omega)).2); have := hD.2.2.1; omega) (by have := (hD.1 j gj).2; have := hD.2.2.1; omega), ← mxq_t (f := sn) (zp_n.mp c21)]
          refine wm_istore_n (ls' := [(2, _), (0, _), (1, _), (3, _)]) 38 rfl dX4_findLastSeen_37 rfl (by decide) rfl ?_
          refine wm_iinc (ls' := [(3, _), (2, _), (0, _), (1, _)]) 41 rfl dX4_findLastSeen_38 rfl (nI_inc _) (by decide) rfl ?_
          refine wm_goto 4 (by decide) dX4_findLastSeen_41 ?_
          refine wm_loc (ls2 := [(0, _), (1, _), (2, _), (3, _)]) [2, 3, 1, 0] rfl ?_
          exact ih (n - (j + 1)) (by omega) (j + 1) rfl (by omega) trivial
  refine wm_iconst (v := 0) 1 rfl dX4_findLastSeen_0 (by decide) ?_
  refine wm_istore_n (ls' := [(2, _), (0, _), (1, _)]) 2 rfl dX4_findLastSeen_1 rfl (by decide) rfl ?_
  refine wm_iconst (v := 0) 3 rfl dX4_findLastSeen_2 (by decide) ?_
  refine wm_istore_n (ls' := [(3, _), (2, _), (0, _), (1, _)]) 4 rfl dX4_findLastSeen_3 rfl (by decide) rfl ?_
  refine wm_loc (ls2 := [(0, _), (1, _), (2, _), (3, _)]) [2, 3, 1, 0] rfl ?_
  exact lp n 0 rfl (Nat.zero_le _) trivial
theorem k_X4_isGhostOn (l : Launch) {σ : Sg} {n : Nat} (hI : cI σ n) {g : Nat → Nat} (hg : lab σ 19 n g) {sn : Nat → Nat} {d L : Nat} (hD : cD σ n sn d L) {h t : Nat} (hh : h < n) (ht : d ≤ t) (ht2 : t < 2 ^ 30) : cMi l yX4_isGhostOn cX4_isGhostOn 3 .boolean 4 Lc [.ref 0, .int (nI h), .int (nI t)] σ (pP σ (zp (gho σ n g sn L t h))) := by
  have h24 := hI.2
  refine zMet_of (by decide +kernel) (Nat.le_of_ble_eq_true rfl) (fun D cT ad sz => ?_)
  show Wm (fun _ _ => True) l (rmh 4) RX4 cX4_isGhostOn 3 (some .boolean) D cT ad Lc (zA ad Lc.length sz) (zZ (fun D cT ad L9 sz => zQi D cT ad L9 sz (pP σ (zp (gho σ n g sn L t h)))) D cT ad Lc sz) [] 0 (lv_args 0 [.ref 0, .int (nI h), .int (nI t)]) [] σ 0 0
  refine wm_iload_n 1 rfl dX4_isGhostOn_0 rfl rfl ?_
  refine wm_aload_n 2 rfl dX4_isGhostOn_1 rfl rfl ?_
  refine wm_iload_n 3 rfl dX4_isGhostOn_2 rfl rfl ?_
  refine wm_callVi (ty := .int) 6 rfl dX4_isGhostOn_3 (k_X4_findLastSeen l hI hg hD hh) ca_X4_findLastSeen cv_X4_findLastSeen rfl aw_9_20 rfl rfl ⟨Nat.le_of_ble_eq_true rfl, Nat.le_of_ble_eq_true rfl⟩ (Nat.le_of_ble_eq_true rfl) ⟨Nat.zero_le _, Nat.zero_le _⟩ ?_
  rintro r9 σ9 ⟨rfl, rfl⟩
  refine wm_isub 7 rfl dX4_isGhostOn_6 ?_
  have hle := lst_le (g := g) (h := h) hD
  rw [pk_subN (by omega)]
  refine wm_aload_n 8 rfl dX4_isGhostOn_7 rfl rfl ?_
  refine wm_getI 11 rfl dX4_isGhostOn_8 gf_X4_34_3 rfl rfl ?_
  have hL := hD.2.2.2
  rw [hL.1]
  refine wm_icmp_le 18 14 rfl (by decide) dX4_isGhostOn_11 (fun c11 => ?_) (fun c11 => ?_)
  · refine wm_iconst (v := 0) 19 rfl dX4_isGhostOn_18 (by decide) ?_
    exact wm_iret dX4_isGhostOn_19 (by first | rfl | exact zp_nar) (pP_i (zp_f (fun q => by have := le_of_nI c11 (by omega) (by omega); unfold gho at q; omega)))
  · refine wm_iconst (v := 1) 15 rfl dX4_isGhostOn_14 (by decide) ?_
    refine wm_goto 19 (by decide) dX4_isGhostOn_15 ?_
    exact wm_iret dX4_isGhostOn_19 (by first | rfl | exact zp_nar) (pP_i (zp_t (by have := lt_of_nnI c11 (by omega) (by omega); unfold gho; omega)))
theorem k_X4_becomesGhostOn (l : Launch) {σ : Sg} {n : Nat} (hI : cI σ n) {g : Nat → Nat} (hg : lab σ 19 n g) {sn : Nat → Nat} {d L : Nat} (hD : cD σ n sn d L) {t : Nat} (ht : d < t) (ht2 : t < 2 ^ 30) : cMi l yX4_becomesGhostOn cX4_becomesGhostOn 3 .boolean 5 Lc [.ref 0, .int (nI t)] σ (pP σ (zp (∃ h, h < n ∧ mbr σ n g h h ∧ t = lst σ n g sn h + L + 1))) := by
  have h24 := hI.2
  refine zMet_of (by decide +kernel) (Nat.le_of_ble_eq_true rfl) (fun D cT ad sz => ?_)
  show Wm (fun _ _ => True) l (rmh 5) RX4 cX4_becomesGhostOn 3 (some .boolean) D cT ad Lc (zA ad Lc.length sz) (zZ (fun D cT ad L9 sz => zQi D cT ad L9 sz (pP σ (zp (∃ h, h < n ∧ mbr σ n g h h ∧ t = lst σ n g sn h + L + 1)))) D cT ad Lc sz) [] 0 (lv_args 0 [.ref 0, .int (nI t)]) [] σ 0 0
  have lp : ∀ (q9 j : Nat), n - j = q9 → j ≤ n → (∀ h, h < j → ¬ (mbr σ n g h h ∧ t = lst σ n g sn h + L + 1)) → Wm (fun _ _ => True) l (rmh 5) RX4 cX4_becomesGhostOn 3 (some .boolean) D cT ad Lc (zA ad Lc.length sz) (zZ (fun D cT ad L9 sz => zQi D cT ad L9 sz (pP σ (zp (∃ h, h < n ∧ mbr σ n g h h ∧ t = lst σ n g sn h + L + 1)))) D cT ad Lc sz) [] 2 [(0, .ref 0), (1, .int (nI t)), (2, .int (nI j))] [] σ 0 0 := by
    intro q9
    induction q9 using Nat.strongRecOn with
    | ind q9 ih =>
      intro j  hmj hjj hinv
      refine wm_iload_n 3 rfl dX4_becomesGhostOn_2 rfl rfl ?_
      refine wm_aload_n 4 rfl dX4_becomesGhostOn_3 rfl rfl ?_
      refine wm_getR 7 rfl dX4_becomesGhostOn_4 gf_X4_12_3 rfl rfl ?_
      refine wm_getI 10 rfl dX4_becomesGhostOn_7 gf_X4_63_0 rfl rfl ?_
      refine wm_icmp_ge 49 13 rfl (by decide) dX4_becomesGhostOn_10 (fun c10 => ?_) (fun c10 => ?_)
      · rw [hI.1] at c10
        have gj : j = n := by have := le_of_nI c10 (by omega) (by omega); omega
        refine wm_iconst (v := 0) 50 rfl dX4_becomesGhostOn_49 (by decide) ?_
        exact wm_iret dX4_becomesGhostOn_50 (by first | rfl | exact zp_nar) (pP_i (zp_f (by subst gj; rintro ⟨h, hh, h9⟩; exact hinv h hh h9)))
      · rw [hI.1] at c10
        have gj : j < n := lt_of_nnI c10 (by omega) (by omega)
        refine wm_aload_n 14 rfl dX4_becomesGhostOn_13 rfl rfl ?_
        refine wm_iload_n 15 rfl dX4_becomesGhostOn_14 rfl rfl ?_
        refine wm_callVi (ty := .boolean) 18 rfl dX4_becomesGhostOn_15 (k_X4_isThing l hI hg gj) ca_X4_isThing cv_X4_isThing rfl aw_8_8 rfl rfl ⟨Nat.le_of_ble_eq_true rfl, Nat.le_of_ble_eq_true rfl⟩ (Nat.le_of_ble_eq_true rfl) ⟨Nat.zero_le _, Nat.zero_le _⟩ ?_
        rintro r9 σ9 ⟨rfl, rfl⟩
        refine wm_if_eq 43 21 rfl (by decide) dX4_becomesGhostOn_18 (fun c18 => ?_) (fun c18 => ?_)
        · refine wm_iinc (ls' := [(2, _), (0, _), (1, _)]) 46 rfl dX4_becomesGhostOn_43 rfl (nI_inc _) (by decide) rfl ?_
          refine wm_goto 2 (by decide) dX4_becomesGhostOn_46 ?_
          refine wm_loc (ls2 := [(0, _), (1, _), (2, _)]) [1, 2, 0] rfl ?_
          refine ih (n - (j + 1)) (by omega) (j + 1) rfl (by omega) (lt_s hinv ?_)
          first
            | exact fun q => (zp_0.mp c18) q.1
            | exact fun q => by have a := zp_n.mp c27; have b := zp_n.mp c38; unfold gho at a b; omega
            | exact fun q => by have a := zp_0.mp c27; unfold gho at a; omega
        · have hle := lst_le (g := g) (h := j) hD
          refine wm_aload_n 22 rfl dX4_becomesGhostOn_21 rfl rfl ?_
          refine wm_iload_n 23 rfl dX4_becomesGhostOn_22 rfl rfl ?_
          refine wm_iload_n 24 rfl dX4_becomesGhostOn_23 rfl rfl ?_
          refine wm_callVi (ty := .boolean) 27 rfl dX4_becomesGhostOn_24 (k_X4_isGhostOn l hI hg hD (h := j) (t := t) gj (by omega) ht2) ca_X4_isGhostOn cv_X4_isGhostOn rfl aw_9_16 rfl rfl ⟨Nat.le_of_ble_eq_true rfl, Nat.le_of_ble_eq_true rfl⟩ (Nat.le_of_ble_eq_true rfl) ⟨Nat.zero_le _, Nat.zero_le _⟩ ?_
          rintro r9 σ9 ⟨rfl, rfl⟩
          refine wm_if_eq 43 30 rfl (by decide) dX4_becomesGhostOn_27 (fun c27 => ?_) (fun c27 => ?_)
          · refine wm_iinc (ls' := [(2, _), (0, _), (1, _)]) 46 rfl dX4_becomesGhostOn_43 rfl (nI_inc _) (by decide) rfl ?_
            refine wm_goto 2 (by decide) dX4_becomesGhostOn_46 ?_
            refine wm_loc (ls2 := [(0, _), (1, _), (2, _)]) [1, 2, 0] rfl ?_
            refine ih (n - (j + 1)) (by omega) (j + 1) rfl (by omega) (lt_s hinv ?_)
            first
              | exact fun q => (zp_0.mp c18) q.1
              | exact fun q => by have a := zp_n.mp c27; have b := zp_n.mp c38; unfold gho at a b; omega
              | exact fun q => by have a := zp_0.mp c27; unfold gho at a; omega
          · refine wm_aload_n 31 rfl dX4_becomesGhostOn_30 rfl rfl ?_
            refine wm_iload_n 32 rfl dX4_becomesGhostOn_31 rfl rfl ?_
            refine wm_iload_n 33 rfl dX4_becomesGhostOn_32 rfl rfl ?_
            refine wm_iconst (v := 1) 34 rfl dX4_becomesGhostOn_33 (by decide) ?_
            refine wm_isub 35 rfl dX4_becomesGhostOn_34 ?_
            rw [show nI t - 1 = nI (t - 1) by rw [show (1 : Int32) = nI 1 from rfl, pk_subN (by omega)]]
            refine wm_callVi (ty := .boolean) 38 rfl dX4_becomesGhostOn_35 (k_X4_isGhostOn l hI hg hD (h := j) (t := t - 1) gj (by omega) (by omega)) ca_X4_isGhostOn cv_X4_isGhostOn rfl aw_9_16 rfl rfl ⟨Nat.le_of_ble_eq_true rfl, Nat.le_of_ble_eq_true rfl⟩ (Nat.le_of_ble_eq_true rfl) ⟨Nat.zero_le _, Nat.zero_le _⟩ ?_
            rintro r9 σ9 ⟨rfl, rfl⟩
            refine wm_if_ne 43 41 rfl (by decide) dX4_becomesGhostOn_38 (fun c38 => ?_) (fun c38 => ?_)
            · refine wm_iinc (ls' := [(2, _), (0, _), (1, _)]) 46 rfl dX4_becomesGhostOn_43 rfl (nI_inc _) (by decide) rfl ?_
              refine wm_goto 2 (by decide) dX4_becomesGhostOn_46 ?_
              refine wm_loc (ls2 := [(0, _), (1, _), (2, _)]) [1, 2, 0] rfl ?_
              refine ih (n - (j + 1)) (by omega) (j + 1) rfl (by omega) (lt_s hinv ?_)
              first
                | exact fun q => (zp_0.mp c18) q.1
                | exact fun q => by have a := zp_n.mp c27; have b := zp_n.mp c38; unfold gho at a b; omega
                | exact fun q => by have a := zp_0.mp c27; unfold gho at a; omega
            · refine wm_iconst (v := 1) 42 rfl dX4_becomesGhostOn_41 (by decide) ?_
              exact wm_iret dX4_becomesGhostOn_42 (by first | rfl | exact zp_nar) (pP_i (zp_t ⟨j, gj, zp_n.mp c18, by have a := zp_n.mp c27; have b := zp_0.mp c38; unfold gho at a b; omega⟩))
  refine wm_iconst (v := 0) 1 rfl dX4_becomesGhostOn_0 (by decide) ?_
  refine wm_istore_n (ls' := [(2, _), (0, _), (1, _)]) 2 rfl dX4_becomesGhostOn_1 rfl (by decide) rfl ?_
  refine wm_loc (ls2 := [(0, _), (1, _), (2, _)]) [1, 2, 0] rfl ?_
  exact lp n 0 rfl (Nat.zero_le _) (fun r hr => absurd hr (Nat.not_lt_zero r))
theorem k_X4_findThing (l : Launch) {σ : Sg} {n : Nat} (hI : cI σ n) {r : Nat} (hr : r < n) : cMi l yX4_findThing cX4_findThing 2 .int 7 Lc [.ref 0, .int (nI r)] σ (fun v σ1 => JD σ n σ1 ∧ v = nI (gC σ n 2 r)) := by
  have h24 := hI.2
  refine zMet_of (by decide +kernel) (Nat.le_of_ble_eq_true rfl) (fun D cT ad sz => ?_)
  show Wm (fun _ _ => True) l (rmh 7) RX4 cX4_findThing 2 (some .int) D cT ad Lc (zA ad Lc.length sz) (zZ (fun D cT ad L9 sz => zQi D cT ad L9 sz (fun v σ1 => JD σ n σ1 ∧ v = nI (gC σ n 2 r))) D cT ad Lc sz) [] 0 (lv_args 0 [.ref 0, .int (nI r)]) [] σ 0 0
  refine wm_aload_n 1 rfl dX4_findThing_0 rfl rfl ?_
  refine wm_getR 4 rfl dX4_findThing_1 gf_X4_19_3 rfl rfl ?_
  refine wm_aload_n 5 rfl dX4_findThing_4 rfl rfl ?_
  refine wm_getR 8 rfl dX4_findThing_5 gf_X4_12_3 rfl rfl ?_
  refine wm_callUv (x := ⟨"Assetmerge$Joining", "findGroups", "(LAssetmerge$Inventory;)V"⟩) (C := RX2) 11 rfl dX4_findThing_8 (k_fgJ l hI) ca_X0_findGroups rfl aw_5_0 aw_4_23 aw_4_22 aw_4_21 rfl rfl ⟨Nat.le_of_ble_eq_true rfl, Nat.le_of_ble_eq_true rfl⟩ (Nat.le_of_ble_eq_true rfl) ⟨Nat.zero_le _, Nat.zero_le _⟩ ?_
  rintro τ hfg
  have hJ := JD_fg hfg
  have hI2 := hJ.1.cIy hI
  have hg2 : lab τ 19 n (gC σ n 2) := hJ.2.2 2 (by omega)
  refine wm_aload_n 12 rfl dX4_findThing_11 rfl rfl ?_
  refine wm_getR 15 rfl dX4_findThing_12 gf_X4_19_3 rfl rfl ?_
  refine wm_getR 18 rfl dX4_findThing_15 gf_X4_152_1 rfl rfl ?_
  refine wm_iconst (v := 2) 19 rfl dX4_findThing_18 (by decide) ?_
  refine wm_aaload (r := 19) 20 rfl dX4_findThing_19 rfl vp23 rfl ?_
  refine wm_iload_n 21 rfl dX4_findThing_20 rfl rfl ?_
  refine wm_iaload 22 rfl dX4_findThing_21 rfl (in24 hr h24) ?_
  exact wm_iret dX4_findThing_22 (by first | rfl | exact zp_nar) ⟨hJ, by rw [nI_clamp (by omega), (hg2 r hr).1]⟩
theorem k_X4_countThings (l : Launch) {σ : Sg} {n : Nat} (hI : cI σ n) : cMi l yX4_countThings cX4_countThings 3 .int 7 Lc [.ref 0] σ (fun v σ1 => JD σ n σ1 ∧ v = nI (cq (fun h => mbr σ n (gC σ n 2) h h) n)) := by
  have h24 := hI.2
  refine zMet_of (by decide +kernel) (Nat.le_of_ble_eq_true rfl) (fun D cT ad sz => ?_)
  show Wm (fun _ _ => True) l (rmh 7) RX4 cX4_countThings 3 (some .int) D cT ad Lc (zA ad Lc.length sz) (zZ (fun D cT ad L9 sz => zQi D cT ad L9 sz (fun v σ1 => JD σ n σ1 ∧ v = nI (cq (fun h => mbr σ n (gC σ n 2) h h) n))) D cT ad Lc sz) [] 0 (lv_args 0 [.ref 0]) [] σ 0 0
  have lp : ∀ (q9 j : Nat) (τ : Sg), n - j = q9 → j ≤ n → JD σ n τ → Wm (fun _ _ => True) l (rmh 7) RX4 cX4_countThings 3 (some .int) D cT ad Lc (zA ad Lc.length sz) (zZ (fun D cT ad L9 sz => zQi D cT ad L9 sz (fun v σ1 => JD σ n σ1 ∧ v = nI (cq (fun h => mbr σ n (gC σ n 2) h h) n))) D cT ad Lc sz) [] 15 [(0, .ref 0), (1, .int (nI (cq (fun h => mbr σ n (gC σ n 2) h h) j))), (2, .int (nI j))] [] τ 0 0 := by
    intro q9
    induction q9 using Nat.strongRecOn with
    | ind q9 ih =>
      intro j τ hmj hjj hJ
      have hI2 := hJ.1.cIy hI
      have hg2 : lab τ 19 n (gC σ n 2) := hJ.2.2 2 (by omega)
      have e := mbr_ag (n := n) (g := gC σ n 2) hJ.1
      refine wm_iload_n 16 rfl dX4_countThings_15 rfl rfl ?_
      refine wm_aload_n 17 rfl dX4_countThings_16 rfl rfl ?_
      refine wm_getR 20 rfl dX4_countThings_17 gf_X4_12_3 rfl rfl ?_
      refine wm_getI 23 rfl dX4_countThings_20 gf_X4_63_0 rfl rfl ?_
      refine wm_icmp_ge 43 26 rfl (by decide) dX4_countThings_23 (fun c23 => ?_) (fun c23 => ?_)
      · rw [hI2.1] at c23
        have gj : j = n := by have := le_of_nI c23 (by omega) (by omega); omega
        refine wm_iload_n 44 rfl dX4_countThings_43 rfl rfl ?_
        exact wm_iret dX4_countThings_44 (by first | rfl | exact zp_nar) ⟨hJ, by rw [gj]⟩
      · rw [hI2.1] at c23
        have gj : j < n := lt_of_nnI c23 (by omega) (by omega)
        refine wm_aload_n 27 rfl dX4_countThings_26 rfl rfl ?_
        refine wm_iload_n 28 rfl dX4_countThings_27 rfl rfl ?_
        refine wm_callVi (ty := .boolean) 31 rfl dX4_countThings_28 (k_X4_isThing l hI2 hg2 gj) ca_X4_isThing cv_X4_isThing rfl aw_8_8 rfl rfl ⟨Nat.le_of_ble_eq_true rfl, Nat.le_of_ble_eq_true rfl⟩ (Nat.le_of_ble_eq_true rfl) ⟨Nat.zero_le _, Nat.zero_le _⟩ ?_
        rintro r9 σ9 ⟨rfl, rfl⟩
        rw [e]
        refine wm_if_eq 37 34 rfl (by decide) dX4_countThings_31 (fun c31 => ?_) (fun c31 => ?_)
        · rw [← cq_f (P := (fun h => mbr σ n (gC σ n 2) h h)) (zp_0.mp c31)]
          refine wm_iinc (ls' := [(2, _), (0, _), (1, _)]) 40 rfl dX4_countThings_37 rfl (nI_inc _) (by decide) rfl ?_
          refine wm_goto 15 (by decide) dX4_countThings_40 ?_
          refine wm_loc (ls2 := [(0, _), (1, _), (2, _)]) [1, 2, 0] rfl ?_
          exact ih (n - (j + 1)) (by omega) (j + 1) τ rfl (by omega) hJ
        · refine wm_iinc (ls' := [(1, _), (0, _), (2, _)]) 37 rfl dX4_countThings_34 rfl (by rw [nI_inc, ← cq_t (P := (fun h => mbr σ n (gC σ n 2) h h)) (zp_n.mp c31)]) (by decide) rfl ?_
          refine wm_iinc (ls' := [(2, _), (1, _), (0, _)]) 40 rfl dX4_countThings_37 rfl (nI_inc _) (by decide) rfl ?_
          refine wm_goto 15 (by decide) dX4_countThings_40 ?_
          refine wm_loc (ls2 := [(0, _), (1, _), (2, _)]) [2, 1, 0] rfl ?_
          exact ih (n - (j + 1)) (by omega) (j + 1) τ rfl (by omega) hJ
  refine wm_aload_n 1 rfl dX4_countThings_0 rfl rfl ?_
  refine wm_getR 4 rfl dX4_countThings_1 gf_X4_19_3 rfl rfl ?_
  refine wm_aload_n 5 rfl dX4_countThings_4 rfl rfl ?_
  refine wm_getR 8 rfl dX4_countThings_5 gf_X4_12_3 rfl rfl ?_
  refine wm_callUv (x := ⟨"Assetmerge$Joining", "findGroups", "(LAssetmerge$Inventory;)V"⟩) (C := RX2) 11 rfl dX4_countThings_8 (k_fgJ l hI) ca_X0_findGroups rfl aw_5_0 aw_4_23 aw_4_22 aw_4_21 rfl rfl ⟨Nat.le_of_ble_eq_true rfl, Nat.le_of_ble_eq_true rfl⟩ (Nat.le_of_ble_eq_true rfl) ⟨Nat.zero_le _, Nat.zero_le _⟩ ?_
  rintro τ hfg
  have hJ := JD_fg hfg
  have hI2 := hJ.1.cIy hI
  have hg2 : lab τ 19 n (gC σ n 2) := hJ.2.2 2 (by omega)
  refine wm_iconst (v := 0) 12 rfl dX4_countThings_11 (by decide) ?_
  refine wm_istore_n (ls' := [(1, _), (0, _)]) 13 rfl dX4_countThings_12 rfl (by decide) rfl ?_
  refine wm_iconst (v := 0) 14 rfl dX4_countThings_13 (by decide) ?_
  refine wm_istore_n (ls' := [(2, _), (1, _), (0, _)]) 15 rfl dX4_countThings_14 rfl (by decide) rfl ?_
  refine wm_loc (ls2 := [(0, _), (1, _), (2, _)]) [2, 1, 0] rfl ?_
  exact lp n 0 τ rfl (Nat.zero_le _) hJ
theorem k_X4_things (l : Launch) {σ : Sg} {n : Nat} (hI : cI σ n) : cMi l yX4_things cX4_things 1 .int 8 Lc [.ref 0] σ (fun v σ1 => JD σ n σ1 ∧ v = nI (cq (fun h => mbr σ n (gC σ n 2) h h) n)) := by
  refine zMet_of (by decide +kernel) (Nat.le_of_ble_eq_true rfl) (fun D cT ad sz => ?_)
  show Wm (fun _ _ => True) l (rmh 8) RX4 cX4_things 1 (some .int) D cT ad Lc (zA ad Lc.length sz) (zZ (fun D cT ad L9 sz => zQi D cT ad L9 sz (fun v σ1 => JD σ n σ1 ∧ v = nI (cq (fun h => mbr σ n (gC σ n 2) h h) n))) D cT ad Lc sz) [] 0 (lv_args 0 [.ref 0]) [] σ 0 0
  refine wm_aload_n 1 rfl dX4_things_0 rfl rfl ?_
  refine wm_callVi (ty := .int) 4 rfl dX4_things_1 (k_X4_countThings l hI) ca_X4_countThings cv_X4_countThings rfl aw_4_16 rfl rfl ⟨Nat.le_of_ble_eq_true rfl, Nat.le_of_ble_eq_true rfl⟩ (Nat.le_of_ble_eq_true rfl) ⟨Nat.zero_le _, Nat.zero_le _⟩ ?_
  rintro r9 σ9 ⟨hJ, rfl⟩
  exact wm_iret dX4_things_4 (by first | rfl | exact zp_nar) ⟨hJ, rfl⟩
theorem k_X4_findStep (l : Launch) {σ : Sg} {n : Nat} (hI : cI σ n) {a b : Nat} (ha : a < n) (hb : b < n) : cMi l yX4_findStep cX4_findStep 4 .int 7 Lc [.ref 0, .int (nI a), .int (nI b)] σ (fun v σ1 => JD σ n σ1 ∧ ((∃ k, k < 3 ∧ v = nI k ∧ gC σ n k a = gC σ n k b ∧ ∀ s, s < k → gC σ n s a ≠ gC σ n s b) ∨ (v = -1 ∧ ∀ s, s < 3 → gC σ n s a ≠ gC σ n s b))) := by
  have h24 := hI.2
  refine zMet_of (by decide +kernel) (Nat.le_of_ble_eq_true rfl) (fun D cT ad sz => ?_)
  show Wm (fun _ _ => True) l (rmh 7) RX4 cX4_findStep 4 (some .int) D cT ad Lc (zA ad Lc.length sz) (zZ (fun D cT ad L9 sz => zQi D cT ad L9 sz (fun v σ1 => JD σ n σ1 ∧ ((∃ k, k < 3 ∧ v = nI k ∧ gC σ n k a = gC σ n k b ∧ ∀ s, s < k → gC σ n s a ≠ gC σ n s b) ∨ (v = -1 ∧ ∀ s, s < 3 → gC σ n s a ≠ gC σ n s b)))) D cT ad Lc sz) [] 0 (lv_args 0 [.ref 0, .int (nI a), .int (nI b)]) [] σ 0 0
  have lp : ∀ (q9 j : Nat) (τ : Sg), 3 - j = q9 → j ≤ 3 → JD σ n τ → (∀ s, s < j → gC σ n s a ≠ gC σ n s b) → Wm (fun _ _ => True) l (rmh 7) RX4 cX4_findStep 4 (some .int) D cT ad Lc (zA ad Lc.length sz) (zZ (fun D cT ad L9 sz => zQi D cT ad L9 sz (fun v σ1 => JD σ n σ1 ∧ ((∃ k, k < 3 ∧ v = nI k ∧ gC σ n k a = gC σ n k b ∧ ∀ s, s < k → gC σ n s a ≠ gC σ n s b) ∨ (v = -1 ∧ ∀ s, s < 3 → gC σ n s a ≠ gC σ n s b)))) D cT ad Lc sz) [] 13 [(0, .ref 0), (1, .int (nI a)), (2, .int (nI b)), (3, .int (nI j))] [] τ 0 0 := by
    intro q9
    induction q9 using Nat.strongRecOn with
    | ind q9 ih =>
      intro j τ hmj hjj hJ hinv
      refine wm_iload_n 14 rfl dX4_findStep_13 rfl rfl ?_
      refine wm_iconst (v := 3) 15 rfl dX4_findStep_14 (by decide) ?_
      refine wm_icmp_ge 51 18 rfl (by decide) dX4_findStep_15 (fun c15 => ?_) (fun c15 => ?_)
      · have gj : j = 3 := by have := le_of_nI (a := 3) c15 (by omega) (by omega); omega
        refine wm_iconst (v := (-1)) 52 rfl dX4_findStep_51 (by decide) ?_
        exact wm_iret dX4_findStep_52 (by first | rfl | exact zp_nar) ⟨hJ, Or.inr ⟨rfl, by subst gj; exact hinv⟩⟩
      · have gj : j < 3 := lt_of_nnI (a := 3) c15 (by omega) (by omega)
        refine wm_aload_n 19 rfl dX4_findStep_18 rfl rfl ?_
        refine wm_getR 22 rfl dX4_findStep_19 gf_X4_19_3 rfl rfl ?_
        refine wm_getR 25 rfl dX4_findStep_22 gf_X4_152_1 rfl rfl ?_
        refine wm_iload_n 26 rfl dX4_findStep_25 rfl rfl ?_
        refine wm_aaload (r := 17 + j) 27 rfl dX4_findStep_26 rfl (vp_in_nI gj (by omega)) (by rw [nI_clamp (by omega)]) ?_
        refine wm_iload_n 28 rfl dX4_findStep_27 rfl rfl ?_
        refine wm_iaload 29 rfl dX4_findStep_28 (Lc_gJ gj) (in24 ha h24) ?_
        refine wm_aload_n 30 rfl dX4_findStep_29 rfl rfl ?_
        refine wm_getR 33 rfl dX4_findStep_30 gf_X4_19_3 rfl rfl ?_
        refine wm_getR 36 rfl dX4_findStep_33 gf_X4_152_1 rfl rfl ?_
        refine wm_iload_n 37 rfl dX4_findStep_36 rfl rfl ?_
        refine wm_aaload (r := 17 + j) 38 rfl dX4_findStep_37 rfl (vp_in_nI gj (by omega)) (by rw [nI_clamp (by omega)]) ?_
        refine wm_iload_n 39 rfl dX4_findStep_38 rfl rfl ?_
        refine wm_iaload 40 rfl dX4_findStep_39 (Lc_gJ gj) (in24 hb h24) ?_
        refine wm_icmp_ne 45 43 rfl (by decide) dX4_findStep_40 (fun c40 => ?_) (fun c40 => ?_)
        · rw [nI_clamp (by omega), nI_clamp (by omega), (hJ.2.2 j gj a ha).1, (hJ.2.2 j gj b hb).1] at c40
          refine wm_iinc (ls' := [(3, _), (0, _), (1, _), (2, _)]) 48 rfl dX4_findStep_45 rfl (nI_inc _) (by decide) rfl ?_
          refine wm_goto 13 (by decide) dX4_findStep_48 ?_
          refine wm_loc (ls2 := [(0, _), (1, _), (2, _), (3, _)]) [1, 2, 3, 0] rfl ?_
          exact ih (3 - (j + 1)) (by omega) (j + 1) τ rfl (by omega) hJ (lt_s hinv (ne_of_nnI c40))
        · rw [nI_clamp (by omega), nI_clamp (by omega), (hJ.2.2 j gj a ha).1, (hJ.2.2 j gj b hb).1] at c40
          have p1 := (hJ.2.2 j gj a ha).2
          have p2 := (hJ.2.2 j gj b hb).2
          refine wm_iload_n 44 rfl dX4_findStep_43 rfl rfl ?_
          exact wm_iret dX4_findStep_44 (by first | rfl | exact zp_nar) ⟨hJ, Or.inl ⟨j, gj, rfl, eq_of_nI c40 (by omega) (by omega), hinv⟩⟩
  refine wm_aload_n 1 rfl dX4_findStep_0 rfl rfl ?_
  refine wm_getR 4 rfl dX4_findStep_1 gf_X4_19_3 rfl rfl ?_
  refine wm_aload_n 5 rfl dX4_findStep_4 rfl rfl ?_
  refine wm_getR 8 rfl dX4_findStep_5 gf_X4_12_3 rfl rfl ?_
  refine wm_callUv (x := ⟨"Assetmerge$Joining", "findGroups", "(LAssetmerge$Inventory;)V"⟩) (C := RX2) 11 rfl dX4_findStep_8 (k_fgJ l hI) ca_X0_findGroups rfl aw_5_0 aw_4_23 aw_4_22 aw_4_21 rfl rfl ⟨Nat.le_of_ble_eq_true rfl, Nat.le_of_ble_eq_true rfl⟩ (Nat.le_of_ble_eq_true rfl) ⟨Nat.zero_le _, Nat.zero_le _⟩ ?_
  rintro τ hfg
  have hJ := JD_fg hfg
  have hI2 := hJ.1.cIy hI
  have hg2 : lab τ 19 n (gC σ n 2) := hJ.2.2 2 (by omega)
  refine wm_iconst (v := 0) 12 rfl dX4_findStep_11 (by decide) ?_
  refine wm_istore_n (ls' := [(3, _), (0, _), (1, _), (2, _)]) 13 rfl dX4_findStep_12 rfl (by decide) rfl ?_
  refine wm_loc (ls2 := [(0, _), (1, _), (2, _), (3, _)]) [1, 2, 3, 0] rfl ?_
  exact lp 3 0 τ rfl (Nat.zero_le _) hJ (fun s hs => absurd hs (Nat.not_lt_zero s))
theorem k_X4_ghosts (l : Launch) {σ : Sg} {n : Nat} (hI : cI σ n) {sn : Nat → Nat} {d L : Nat} (hD : cD σ n sn d L) : cMi l yX4_ghosts cX4_ghosts 3 .int 7 Lc [.ref 0] σ (fun v σ1 => JD σ n σ1 ∧ v = nI (cq (fun h => mbr σ n (gC σ n 2) h h ∧ gho σ n (gC σ n 2) sn L d h) n)) := by
  have h24 := hI.2
  refine zMet_of (by decide +kernel) (Nat.le_of_ble_eq_true rfl) (fun D cT ad sz => ?_)
  show Wm (fun _ _ => True) l (rmh 7) RX4 cX4_ghosts 3 (some .int) D cT ad Lc (zA ad Lc.length sz) (zZ (fun D cT ad L9 sz => zQi D cT ad L9 sz (fun v σ1 => JD σ n σ1 ∧ v = nI (cq (fun h => mbr σ n (gC σ n 2) h h ∧ gho σ n (gC σ n 2) sn L d h) n))) D cT ad Lc sz) [] 0 (lv_args 0 [.ref 0]) [] σ 0 0
  have lp : ∀ (q9 j : Nat) (τ : Sg), n - j = q9 → j ≤ n → JD σ n τ → Wm (fun _ _ => True) l (rmh 7) RX4 cX4_ghosts 3 (some .int) D cT ad Lc (zA ad Lc.length sz) (zZ (fun D cT ad L9 sz => zQi D cT ad L9 sz (fun v σ1 => JD σ n σ1 ∧ v = nI (cq (fun h => mbr σ n (gC σ n 2) h h ∧ gho σ n (gC σ n 2) sn L d h) n))) D cT ad Lc sz) [] 15 [(0, .ref 0), (1, .int (nI (cq (fun h => mbr σ n (gC σ n 2) h h ∧ gho σ n (gC σ n 2) sn L d h) j))), (2, .int (nI j))] [] τ 0 0 := by
    intro q9
    induction q9 using Nat.strongRecOn with
    | ind q9 ih =>
      intro j τ hmj hjj hJ
      have hI2 := hJ.1.cIy hI
      have hg2 : lab τ 19 n (gC σ n 2) := hJ.2.2 2 (by omega)
      have e := mbr_ag (n := n) (g := gC σ n 2) hJ.1
      have hD2 := hJ.1.cDy hD
      have el := lst_ag (n := n) (g := gC σ n 2) (sn := sn) hJ.1
      have eg := gho_ag (n := n) (g := gC σ n 2) (sn := sn) hJ.1
      refine wm_iload_n 16 rfl dX4_ghosts_15 rfl rfl ?_
      refine wm_aload_n 17 rfl dX4_ghosts_16 rfl rfl ?_
      refine wm_getR 20 rfl dX4_ghosts_17 gf_X4_12_3 rfl rfl ?_
      refine wm_getI 23 rfl dX4_ghosts_20 gf_X4_63_0 rfl rfl ?_
      refine wm_icmp_ge 55 26 rfl (by decide) dX4_ghosts_23 (fun c23 => ?_) (fun c23 => ?_)
      · rw [hI2.1] at c23
        have gj : j = n := by have := le_of_nI c23 (by omega) (by omega); omega
        refine wm_iload_n 56 rfl dX4_ghosts_55 rfl rfl ?_
        exact wm_iret dX4_ghosts_56 (by first | rfl | exact zp_nar) ⟨hJ, by rw [gj]⟩
      · rw [hI2.1] at c23
        have gj : j < n := lt_of_nnI c23 (by omega) (by omega)
        refine wm_aload_n 27 rfl dX4_ghosts_26 rfl rfl ?_
        refine wm_iload_n 28 rfl dX4_ghosts_27 rfl rfl ?_
        refine wm_callVi (ty := .boolean) 31 rfl dX4_ghosts_28 (k_X4_isThing l hI2 hg2 gj) ca_X4_isThing cv_X4_isThing rfl aw_8_8 rfl rfl ⟨Nat.le_of_ble_eq_true rfl, Nat.le_of_ble_eq_true rfl⟩ (Nat.le_of_ble_eq_true rfl) ⟨Nat.zero_le _, Nat.zero_le _⟩ ?_
        rintro r9 σ9 ⟨rfl, rfl⟩
        rw [e]
        refine wm_if_eq 49 34 rfl (by decide) dX4_ghosts_31 (fun c31 => ?_) (fun c31 => ?_)
        · rw [← cq_f (P := (fun h => mbr σ n (gC σ n 2) h h ∧ gho σ n (gC σ n 2) sn L d h)) (fun q => zp_0.mp c31 q.1)]
          refine wm_iinc (ls' := [(2, _), (0, _), (1, _)]) 52 rfl dX4_ghosts_49 rfl (nI_inc _) (by decide) rfl ?_
          refine wm_goto 15 (by decide) dX4_ghosts_52 ?_
          refine wm_loc (ls2 := [(0, _), (1, _), (2, _)]) [1, 2, 0] rfl ?_
          exact ih (n - (j + 1)) (by omega) (j + 1) τ rfl (by omega) hJ
        · refine wm_aload_n 35 rfl dX4_ghosts_34 rfl rfl ?_
          refine wm_iload_n 36 rfl dX4_ghosts_35 rfl rfl ?_
          refine wm_aload_n 37 rfl dX4_ghosts_36 rfl rfl ?_
          refine wm_getI 40 rfl dX4_ghosts_37 gf_X4_68_3 rfl rfl ?_
          rw [hD2.2.1]
          refine wm_callVi (ty := .boolean) 43 rfl dX4_ghosts_40 (k_X4_isGhostOn l hI2 hg2 hD2 (h := j) (t := d) gj (Nat.le_refl _) (by have := hD.2.2.1; omega)) ca_X4_isGhostOn cv_X4_isGhostOn rfl aw_9_16 rfl rfl ⟨Nat.le_of_ble_eq_true rfl, Nat.le_of_ble_eq_true rfl⟩ (Nat.le_of_ble_eq_true rfl) ⟨Nat.zero_le _, Nat.zero_le _⟩ ?_
          rintro r9 σ9 ⟨rfl, rfl⟩
          rw [eg]
          refine wm_if_eq 49 46 rfl (by decide) dX4_ghosts_43 (fun c43 => ?_) (fun c43 => ?_)
          · rw [← cq_f (P := (fun h => mbr σ n (gC σ n 2) h h ∧ gho σ n (gC σ n 2) sn L d h)) (fun q => zp_0.mp c43 q.2)]
            refine wm_iinc (ls' := [(2, _), (0, _), (1, _)]) 52 rfl dX4_ghosts_49 rfl (nI_inc _) (by decide) rfl ?_
            refine wm_goto 15 (by decide) dX4_ghosts_52 ?_
            refine wm_loc (ls2 := [(0, _), (1, _), (2, _)]) [1, 2, 0] rfl ?_
            exact ih (n - (j + 1)) (by omega) (j + 1) τ rfl (by omega) hJ
          · refine wm_iinc (ls' := [(1, _), (0, _), (2, _)]) 49 rfl dX4_ghosts_46 rfl (by rw [nI_inc, ← cq_t (P := (fun h => mbr σ n (gC σ n 2) h h ∧ gho σ n (gC σ n 2) sn L d h)) ⟨zp_n.mp c31, zp_n.mp c43⟩]) (by decide) rfl ?_
            refine wm_iinc (ls' := [(2, _), (1, _), (0, _)]) 52 rfl dX4_ghosts_49 rfl (nI_inc _) (by decide) rfl ?_
            refine wm_goto 15 (by decide) dX4_ghosts_52 ?_
            refine wm_loc (ls2 := [(0, _), (1, _), (2, _)]) [2, 1, 0] rfl ?_
            exact ih (n - (j + 1)) (by omega) (j + 1) τ rfl (by omega) hJ
  refine wm_aload_n 1 rfl dX4_ghosts_0 rfl rfl ?_
  refine wm_getR 4 rfl dX4_ghosts_1 gf_X4_19_3 rfl rfl ?_
  refine wm_aload_n 5 rfl dX4_ghosts_4 rfl rfl ?_
  refine wm_getR 8 rfl dX4_ghosts_5 gf_X4_12_3 rfl rfl ?_
  refine wm_callUv (x := ⟨"Assetmerge$Joining", "findGroups", "(LAssetmerge$Inventory;)V"⟩) (C := RX2) 11 rfl dX4_ghosts_8 (k_fgJ l hI) ca_X0_findGroups rfl aw_5_0 aw_4_23 aw_4_22 aw_4_21 rfl rfl ⟨Nat.le_of_ble_eq_true rfl, Nat.le_of_ble_eq_true rfl⟩ (Nat.le_of_ble_eq_true rfl) ⟨Nat.zero_le _, Nat.zero_le _⟩ ?_
  rintro τ hfg
  have hJ := JD_fg hfg
  have hI2 := hJ.1.cIy hI
  have hg2 : lab τ 19 n (gC σ n 2) := hJ.2.2 2 (by omega)
  refine wm_iconst (v := 0) 12 rfl dX4_ghosts_11 (by decide) ?_
  refine wm_istore_n (ls' := [(1, _), (0, _)]) 13 rfl dX4_ghosts_12 rfl (by decide) rfl ?_
  refine wm_iconst (v := 0) 14 rfl dX4_ghosts_13 (by decide) ?_
  refine wm_istore_n (ls' := [(2, _), (1, _), (0, _)]) 15 rfl dX4_ghosts_14 rfl (by decide) rfl ?_
  refine wm_loc (ls2 := [(0, _), (1, _), (2, _)]) [2, 1, 0] rfl ?_
  exact lp n 0 τ rfl (Nat.zero_le _) hJ
theorem NG_keep3 {σ : Sg} {n : Nat} {g sn : Nat → Nat} {d L m : Nat} {v : Int32} (hN : NG σ n g sn d L m v) (h1 : ¬ v = -1) (h2 : v ≤ nI (lst σ n g sn m + L + 1)) (hb : lst σ n g sn m + L + 1 < 2 ^ 31) : NG σ n g sn d L (m + 1) v := by
  rcases id hN with ⟨e, -⟩ | ⟨t, e, h4, -⟩
  · exact absurd e h1
  · subst e
    exact NG_keep2 hN (by omega) (fun _ => le_of_nI h2 (by omega) hb)
theorem k_X4_nextGhost (l : Launch) {σ : Sg} {n : Nat} (hI : cI σ n) {sn : Nat → Nat} {d L : Nat} (hD : cD σ n sn d L) : cMi l yX4_nextGhost cX4_nextGhost 4 .int 7 Lc [.ref 0] σ (fun v σ1 => JD σ n σ1 ∧ NG σ n (gC σ n 2) sn d L n v) := by
  have h24 := hI.2
  refine zMet_of (by decide +kernel) (Nat.le_of_ble_eq_true rfl) (fun D cT ad sz => ?_)
  show Wm (fun _ _ => True) l (rmh 7) RX4 cX4_nextGhost 4 (some .int) D cT ad Lc (zA ad Lc.length sz) (zZ (fun D cT ad L9 sz => zQi D cT ad L9 sz (fun v σ1 => JD σ n σ1 ∧ NG σ n (gC σ n 2) sn d L n v)) D cT ad Lc sz) [] 0 (lv_args 0 [.ref 0]) [] σ 0 0
  have lp : ∀ (q9 j : Nat) (v : Int32) (τ : Sg), n - j = q9 → j ≤ n → JD σ n τ → NG σ n (gC σ n 2) sn d L j v → Wm (fun _ _ => True) l (rmh 7) RX4 cX4_nextGhost 4 (some .int) D cT ad Lc (zA ad Lc.length sz) (zZ (fun D cT ad L9 sz => zQi D cT ad L9 sz (fun v σ1 => JD σ n σ1 ∧ NG σ n (gC σ n 2) sn d L n v)) D cT ad Lc sz) [] 15 [(0, .ref 0), (1, .int v), (2, .int (nI j))] [] τ 0 0 := by
    intro q9
    induction q9 using Nat.strongRecOn with
    | ind q9 ih =>
      intro j v τ hmj hjj hJ hN
      have hI2 := hJ.1.cIy hI
      have hg2 : lab τ 19 n (gC σ n 2) := hJ.2.2 2 (by omega)
      have e := mbr_ag (n := n) (g := gC σ n 2) hJ.1
      have hD2 := hJ.1.cDy hD
      have el := lst_ag (n := n) (g := gC σ n 2) (sn := sn) hJ.1
      have eg := gho_ag (n := n) (g := gC σ n 2) (sn := sn) hJ.1
      have hle := lst_le (g := gC σ n 2) (h := j) hD
      have hd9 := hD.2.2.1
      have hL9 := hD.2.2.2.2.2
      refine wm_iload_n 16 rfl dX4_nextGhost_15 rfl rfl ?_
      refine wm_aload_n 17 rfl dX4_nextGhost_16 rfl rfl ?_
      refine wm_getR 20 rfl dX4_nextGhost_17 gf_X4_12_3 rfl rfl ?_
      refine wm_getI 23 rfl dX4_nextGhost_20 gf_X4_63_0 rfl rfl ?_
      refine wm_icmp_ge 80 26 rfl (by decide) dX4_nextGhost_23 (fun c23 => ?_) (fun c23 => ?_)
      · rw [hI2.1] at c23
        have gj : j = n := by have := le_of_nI c23 (by omega) (by omega); omega
        refine wm_iload_n 81 rfl dX4_nextGhost_80 rfl rfl ?_
        exact wm_iret dX4_nextGhost_81 (by first | rfl | exact zp_nar) ⟨hJ, by subst gj; exact hN⟩
      · rw [hI2.1] at c23
        have gj : j < n := lt_of_nnI c23 (by omega) (by omega)
        refine wm_aload_n 27 rfl dX4_nextGhost_26 rfl rfl ?_
        refine wm_iload_n 28 rfl dX4_nextGhost_27 rfl rfl ?_
        refine wm_callVi (ty := .boolean) 31 rfl dX4_nextGhost_28 (k_X4_isThing l hI2 hg2 gj) ca_X4_isThing cv_X4_isThing rfl aw_8_8 rfl rfl ⟨Nat.le_of_ble_eq_true rfl, Nat.le_of_ble_eq_true rfl⟩ (Nat.le_of_ble_eq_true rfl) ⟨Nat.zero_le _, Nat.zero_le _⟩ ?_
        rintro r9 σ9 ⟨rfl, rfl⟩
        rw [e]
        refine wm_if_eq 74 34 rfl (by decide) dX4_nextGhost_31 (fun c31 => ?_) (fun c31 => ?_)
        · refine wm_iinc (ls' := [(2, _), (0, _), (1, _)]) 77 rfl dX4_nextGhost_74 rfl (nI_inc _) (by decide) rfl ?_
          refine wm_goto 15 (by decide) dX4_nextGhost_77 ?_
          refine wm_loc (ls2 := [(0, _), (1, _), (2, _)]) [1, 2, 0] rfl ?_
          first
            | exact ih (n - (j + 1)) (by omega) (j + 1) _ τ rfl (by omega) hJ (NG_keep hN (fun q => absurd q (zp_0.mp c31)))
            | exact ih (n - (j + 1)) (by omega) (j + 1) _ τ rfl (by omega) hJ (NG_take hN (zp_n.mp c31) q52 q59 (Or.inl c64))
            | exact ih (n - (j + 1)) (by omega) (j + 1) _ τ rfl (by omega) hJ (NG_take hN (zp_n.mp c31) q52 q59 (Or.inr (fa_nlt c69)))
            | exact ih (n - (j + 1)) (by omega) (j + 1) _ τ rfl (by omega) hJ (NG_keep3 hN c64 c69 (by omega))
            | exact ih (n - (j + 1)) (by omega) (j + 1) _ τ rfl (by omega) hJ (NG_keep hN (fun q => by omega))
        · refine wm_aload_n 35 rfl dX4_nextGhost_34 rfl rfl ?_
          refine wm_iload_n 36 rfl dX4_nextGhost_35 rfl rfl ?_
          refine wm_callVi (ty := .int) 39 rfl dX4_nextGhost_36 (k_X4_findLastSeen l hI2 hg2 hD2 gj) ca_X4_findLastSeen cv_X4_findLastSeen rfl aw_9_20 rfl rfl ⟨Nat.le_of_ble_eq_true rfl, Nat.le_of_ble_eq_true rfl⟩ (Nat.le_of_ble_eq_true rfl) ⟨Nat.zero_le _, Nat.zero_le _⟩ ?_
          rintro r9 σ9 ⟨rfl, rfl⟩
          rw [el]
          refine wm_aload_n 40 rfl dX4_nextGhost_39 rfl rfl ?_
          refine wm_getI 43 rfl dX4_nextGhost_40 gf_X4_34_3 rfl rfl ?_
          rw [hD2.2.2.2.1]
          refine wm_iadd 44 rfl dX4_nextGhost_43 ?_
          rw [nI_add]
          refine wm_iconst (v := 1) 45 rfl dX4_nextGhost_44 (by decide) ?_
          refine wm_iadd 46 rfl dX4_nextGhost_45 ?_
          rw [nI_1]
          refine wm_istore_n (ls' := [(3, _), (0, _), (1, _), (2, _)]) 47 rfl dX4_nextGhost_46 rfl (by decide) rfl ?_
          refine wm_iload_n 48 rfl dX4_nextGhost_47 rfl rfl ?_
          refine wm_aload_n 49 rfl dX4_nextGhost_48 rfl rfl ?_
          refine wm_getI 52 rfl dX4_nextGhost_49 gf_X4_68_3 rfl rfl ?_
          refine wm_icmp_le 74 55 rfl (by decide) dX4_nextGhost_52 (fun c52 => ?_) (fun c52 => ?_)
          · rw [hD2.2.1] at c52
            have q52 := le_of_nI c52 (by omega) (by omega)
            refine wm_iinc (ls' := [(2, _), (3, _), (0, _), (1, _)]) 77 rfl dX4_nextGhost_74 rfl (nI_inc _) (by decide) rfl ?_
            refine wm_goto 15 (by decide) dX4_nextGhost_77 ?_
            refine wm_loc (ls2 := [(0, _), (1, _), (2, _)]) [2, 3, 0] rfl ?_
            first
              | exact ih (n - (j + 1)) (by omega) (j + 1) _ τ rfl (by omega) hJ (NG_keep hN (fun q => absurd q (zp_0.mp c31)))
              | exact ih (n - (j + 1)) (by omega) (j + 1) _ τ rfl (by omega) hJ (NG_take hN (zp_n.mp c31) q52 q59 (Or.inl c64))
              | exact ih (n - (j + 1)) (by omega) (j + 1) _ τ rfl (by omega) hJ (NG_take hN (zp_n.mp c31) q52 q59 (Or.inr (fa_nlt c69)))
              | exact ih (n - (j + 1)) (by omega) (j + 1) _ τ rfl (by omega) hJ (NG_keep3 hN c64 c69 (by omega))
              | exact ih (n - (j + 1)) (by omega) (j + 1) _ τ rfl (by omega) hJ (NG_keep hN (fun q => by omega))
          · rw [hD2.2.1] at c52
            have q52 := lt_of_nnI c52 (by omega) (by omega)
            refine wm_iload_n 56 rfl dX4_nextGhost_55 rfl rfl ?_
            refine wm_sipush (v := 999) 59 rfl dX4_nextGhost_56 (by decide) ?_
            refine wm_icmp_gt 74 62 rfl (by decide) dX4_nextGhost_59 (fun c59 => ?_) (fun c59 => ?_)
            · have q59 := nI_gt (a := 999) c59 (by omega) (by omega)
              refine wm_iinc (ls' := [(2, _), (3, _), (0, _), (1, _)]) 77 rfl dX4_nextGhost_74 rfl (nI_inc _) (by decide) rfl ?_
              refine wm_goto 15 (by decide) dX4_nextGhost_77 ?_
              refine wm_loc (ls2 := [(0, _), (1, _), (2, _)]) [2, 3, 0] rfl ?_
              first
                | exact ih (n - (j + 1)) (by omega) (j + 1) _ τ rfl (by omega) hJ (NG_keep hN (fun q => absurd q (zp_0.mp c31)))
                | exact ih (n - (j + 1)) (by omega) (j + 1) _ τ rfl (by omega) hJ (NG_take hN (zp_n.mp c31) q52 q59 (Or.inl c64))
                | exact ih (n - (j + 1)) (by omega) (j + 1) _ τ rfl (by omega) hJ (NG_take hN (zp_n.mp c31) q52 q59 (Or.inr (fa_nlt c69)))
                | exact ih (n - (j + 1)) (by omega) (j + 1) _ τ rfl (by omega) hJ (NG_keep3 hN c64 c69 (by omega))
                | exact ih (n - (j + 1)) (by omega) (j + 1) _ τ rfl (by omega) hJ (NG_keep hN (fun q => by omega))
            · have q59 := nI_ngt (a := 999) c59 (by omega) (by omega)
              refine wm_iload_n 63 rfl dX4_nextGhost_62 rfl rfl ?_
              refine wm_iconst (v := (-1)) 64 rfl dX4_nextGhost_63 (by decide) ?_
              refine wm_icmp_eq 72 67 rfl (by decide) dX4_nextGhost_64 (fun c64 => ?_) (fun c64 => ?_)
              · refine wm_iload_n 73 rfl dX4_nextGhost_72 rfl rfl ?_
                refine wm_istore_n (ls' := [(1, _), (3, _), (0, _), (2, _)]) 74 rfl dX4_nextGhost_73 rfl (by decide) rfl ?_
                refine wm_iinc (ls' := [(2, _), (1, _), (3, _), (0, _)]) 77 rfl dX4_nextGhost_74 rfl (nI_inc _) (by decide) rfl ?_
                refine wm_goto 15 (by decide) dX4_nextGhost_77 ?_
                refine wm_loc (ls2 := [(0, _), (1, _), (2, _)]) [3, 1, 0] rfl ?_
                first
                  | exact ih (n - (j + 1)) (by omega) (j + 1) _ τ rfl (by omega) hJ (NG_keep hN (fun q => absurd q (zp_0.mp c31)))
                  | exact ih (n - (j + 1)) (by omega) (j + 1) _ τ rfl (by omega) hJ (NG_take hN (zp_n.mp c31) q52 q59 (Or.inl c64))
                  | exact ih (n - (j + 1)) (by omega) (j + 1) _ τ rfl (by omega) hJ (NG_take hN (zp_n.mp c31) q52 q59 (Or.inr (fa_nlt c69)))
                  | exact ih (n - (j + 1)) (by omega) (j + 1) _ τ rfl (by omega) hJ (NG_keep3 hN c64 c69 (by omega))
                  | exact ih (n - (j + 1)) (by omega) (j + 1) _ τ rfl (by omega) hJ (NG_keep hN (fun q => by omega))
              · refine wm_iload_n 68 rfl dX4_nextGhost_67 rfl rfl ?_
                refine wm_iload_n 69 rfl dX4_nextGhost_68 rfl rfl ?_
                refine wm_icmp_ge 74 72 rfl (by decide) dX4_nextGhost_69 (fun c69 => ?_) (fun c69 => ?_)
                · refine wm_iinc (ls' := [(2, _), (3, _), (0, _), (1, _)]) 77 rfl dX4_nextGhost_74 rfl (nI_inc _) (by decide) rfl ?_
                  refine wm_goto 15 (by decide) dX4_nextGhost_77 ?_
                  refine wm_loc (ls2 := [(0, _), (1, _), (2, _)]) [2, 3, 0] rfl ?_
                  first
                    | exact ih (n - (j + 1)) (by omega) (j + 1) _ τ rfl (by omega) hJ (NG_keep hN (fun q => absurd q (zp_0.mp c31)))
                    | exact ih (n - (j + 1)) (by omega) (j + 1) _ τ rfl (by omega) hJ (NG_take hN (zp_n.mp c31) q52 q59 (Or.inl c64))
                    | exact ih (n - (j + 1)) (by omega) (j + 1) _ τ rfl (by omega) hJ (NG_take hN (zp_n.mp c31) q52 q59 (Or.inr (fa_nlt c69)))
                    | exact ih (n - (j + 1)) (by omega) (j + 1) _ τ rfl (by omega) hJ (NG_keep3 hN c64 c69 (by omega))
                    | exact ih (n - (j + 1)) (by omega) (j + 1) _ τ rfl (by omega) hJ (NG_keep hN (fun q => by omega))
                · refine wm_iload_n 73 rfl dX4_nextGhost_72 rfl rfl ?_
                  refine wm_istore_n (ls' := [(1, _), (3, _), (0, _), (2, _)]) 74 rfl dX4_nextGhost_73 rfl (by decide) rfl ?_
                  refine wm_iinc (ls' := [(2, _), (1, _), (3, _), (0, _)]) 77 rfl dX4_nextGhost_74 rfl (nI_inc _) (by decide) rfl ?_
                  refine wm_goto 15 (by decide) dX4_nextGhost_77 ?_
                  refine wm_loc (ls2 := [(0, _), (1, _), (2, _)]) [3, 1, 0] rfl ?_
                  first
                    | exact ih (n - (j + 1)) (by omega) (j + 1) _ τ rfl (by omega) hJ (NG_keep hN (fun q => absurd q (zp_0.mp c31)))
                    | exact ih (n - (j + 1)) (by omega) (j + 1) _ τ rfl (by omega) hJ (NG_take hN (zp_n.mp c31) q52 q59 (Or.inl c64))
                    | exact ih (n - (j + 1)) (by omega) (j + 1) _ τ rfl (by omega) hJ (NG_take hN (zp_n.mp c31) q52 q59 (Or.inr (fa_nlt c69)))
                    | exact ih (n - (j + 1)) (by omega) (j + 1) _ τ rfl (by omega) hJ (NG_keep3 hN c64 c69 (by omega))
                    | exact ih (n - (j + 1)) (by omega) (j + 1) _ τ rfl (by omega) hJ (NG_keep hN (fun q => by omega))
  refine wm_aload_n 1 rfl dX4_nextGhost_0 rfl rfl ?_
  refine wm_getR 4 rfl dX4_nextGhost_1 gf_X4_19_3 rfl rfl ?_
  refine wm_aload_n 5 rfl dX4_nextGhost_4 rfl rfl ?_
  refine wm_getR 8 rfl dX4_nextGhost_5 gf_X4_12_3 rfl rfl ?_
  refine wm_callUv (x := ⟨"Assetmerge$Joining", "findGroups", "(LAssetmerge$Inventory;)V"⟩) (C := RX2) 11 rfl dX4_nextGhost_8 (k_fgJ l hI) ca_X0_findGroups rfl aw_5_0 aw_4_23 aw_4_22 aw_4_21 rfl rfl ⟨Nat.le_of_ble_eq_true rfl, Nat.le_of_ble_eq_true rfl⟩ (Nat.le_of_ble_eq_true rfl) ⟨Nat.zero_le _, Nat.zero_le _⟩ ?_
  rintro τ hfg
  have hJ := JD_fg hfg
  have hI2 := hJ.1.cIy hI
  have hg2 : lab τ 19 n (gC σ n 2) := hJ.2.2 2 (by omega)
  refine wm_iconst (v := (-1)) 12 rfl dX4_nextGhost_11 (by decide) ?_
  refine wm_istore_n (ls' := [(1, _), (0, _)]) 13 rfl dX4_nextGhost_12 rfl (by decide) rfl ?_
  refine wm_iconst (v := 0) 14 rfl dX4_nextGhost_13 (by decide) ?_
  refine wm_istore_n (ls' := [(2, _), (1, _), (0, _)]) 15 rfl dX4_nextGhost_14 rfl (by decide) rfl ?_
  refine wm_loc (ls2 := [(0, _), (1, _), (2, _)]) [2, 1, 0] rfl ?_
  exact lp n 0 (-1) τ rfl (Nat.zero_le _) hJ (Or.inl ⟨rfl, fun r hr => absurd hr (Nat.not_lt_zero r)⟩)
theorem k_X4_nextGhostByDays (l : Launch) {σ : Sg} {n : Nat} (hI : cI σ n) {sn : Nat → Nat} {d L : Nat} (hD : cD σ n sn d L) : cMi l yX4_nextGhostByDays cX4_nextGhostByDays 3 .int 7 Lc [.ref 0] σ (fun v σ1 => JD σ n σ1 ∧ NG σ n (gC σ n 2) sn d L n v) := by
  have h24 := hI.2
  refine zMet_of (by decide +kernel) (Nat.le_of_ble_eq_true rfl) (fun D cT ad sz => ?_)
  show Wm (fun _ _ => True) l (rmh 7) RX4 cX4_nextGhostByDays 3 (some .int) D cT ad Lc (zA ad Lc.length sz) (zZ (fun D cT ad L9 sz => zQi D cT ad L9 sz (fun v σ1 => JD σ n σ1 ∧ NG σ n (gC σ n 2) sn d L n v)) D cT ad Lc sz) [] 0 (lv_args 0 [.ref 0]) [] σ 0 0
  have lp : ∀ (q9 j : Nat) (τ : Sg), (min 999 (d + L + 1) + 1) - j = q9 → j ≤ (min 999 (d + L + 1) + 1) → d < j → JD σ n τ → (∀ t, d < t → t < j → ¬ ∃ h, h < n ∧ mbr σ n (gC σ n 2) h h ∧ t = lst σ n (gC σ n 2) sn h + L + 1) → Wm (fun _ _ => True) l (rmh 7) RX4 cX4_nextGhostByDays 3 (some .int) D cT ad Lc (zA ad Lc.length sz) (zZ (fun D cT ad L9 sz => zQi D cT ad L9 sz (fun v σ1 => JD σ n σ1 ∧ NG σ n (gC σ n 2) sn d L n v)) D cT ad Lc sz) [] 36 [(0, .ref 0), (1, .int (nI (min 999 (d + L + 1)))), (2, .int (nI j))] [] τ 0 0 := by
    intro q9
    induction q9 using Nat.strongRecOn with
    | ind q9 ih =>
      intro j τ hmj hjj hdj hJ hinv
      have hI2 := hJ.1.cIy hI
      have hg2 : lab τ 19 n (gC σ n 2) := hJ.2.2 2 (by omega)
      have e := mbr_ag (n := n) (g := gC σ n 2) hJ.1
      have hD2 := hJ.1.cDy hD
      have el := lst_ag (n := n) (g := gC σ n 2) (sn := sn) hJ.1
      have eg := gho_ag (n := n) (g := gC σ n 2) (sn := sn) hJ.1
      have hd9 := hD.2.2.1
      have hL9 := hD.2.2.2.2.2
      refine wm_iload_n 37 rfl dX4_nextGhostByDays_36 rfl rfl ?_
      refine wm_iload_n 38 rfl dX4_nextGhostByDays_37 rfl rfl ?_
      refine wm_icmp_gt 57 41 rfl (by decide) dX4_nextGhostByDays_38 (fun c38 => ?_) (fun c38 => ?_)
      · have gj := nI_gt c38 (by omega) (by omega)
        refine wm_iconst (v := (-1)) 58 rfl dX4_nextGhostByDays_57 (by decide) ?_
        exact wm_iret dX4_nextGhostByDays_58 (by first | rfl | exact zp_nar) ⟨hJ, Or.inl ⟨rfl, fun x hx q1 q2 => hinv _ q2.1 (by have := lst_le (g := gC σ n 2) (h := x) hD; omega) ⟨x, hx, q1, rfl⟩⟩⟩
      · have gj := nI_ngt c38 (by omega) (by omega)
        refine wm_aload_n 42 rfl dX4_nextGhostByDays_41 rfl rfl ?_
        refine wm_iload_n 43 rfl dX4_nextGhostByDays_42 rfl rfl ?_
        refine wm_callVi (ty := .boolean) 46 rfl dX4_nextGhostByDays_43 (k_X4_becomesGhostOn l hI2 hg2 hD2 (t := j) hdj (by omega)) ca_X4_becomesGhostOn cv_X4_becomesGhostOn rfl aw_21_14 rfl rfl ⟨Nat.le_of_ble_eq_true rfl, Nat.le_of_ble_eq_true rfl⟩ (Nat.le_of_ble_eq_true rfl) ⟨Nat.zero_le _, Nat.zero_le _⟩ ?_
        rintro r9 σ9 ⟨rfl, rfl⟩
        rw [e, el]
        refine wm_if_eq 51 49 rfl (by decide) dX4_nextGhostByDays_46 (fun c46 => ?_) (fun c46 => ?_)
        · refine wm_iinc (ls' := [(2, _), (0, _), (1, _)]) 54 rfl dX4_nextGhostByDays_51 rfl (nI_inc _) (by decide) rfl ?_
          refine wm_goto 36 (by decide) dX4_nextGhostByDays_54 ?_
          refine wm_loc (ls2 := [(0, _), (1, _), (2, _)]) [1, 2, 0] rfl ?_
          refine ih (min 999 (d + L + 1) + 1 - (j + 1)) (by omega) (j + 1) τ rfl (by omega) (by omega) hJ (fun t h1 h2 => ?_)
          by_cases et : t = j
          · subst et; exact zp_0.mp c46
          · exact hinv t h1 (by omega)
        · refine wm_iload_n 50 rfl dX4_nextGhostByDays_49 rfl rfl ?_
          exact wm_iret dX4_nextGhostByDays_50 (by first | rfl | exact zp_nar) ⟨hJ, by obtain ⟨h, hh, hm, ht⟩ := zp_n.mp c46; exact Or.inr ⟨j, rfl, by omega, hdj, ⟨h, hh, hm, ht⟩, fun x hx q1 q2 => Nat.le_of_not_lt fun q3 => hinv _ q2 q3 ⟨x, hx, q1, rfl⟩⟩⟩
  refine wm_aload_n 1 rfl dX4_nextGhostByDays_0 rfl rfl ?_
  refine wm_getR 4 rfl dX4_nextGhostByDays_1 gf_X4_19_3 rfl rfl ?_
  refine wm_aload_n 5 rfl dX4_nextGhostByDays_4 rfl rfl ?_
  refine wm_getR 8 rfl dX4_nextGhostByDays_5 gf_X4_12_3 rfl rfl ?_
  refine wm_callUv (x := ⟨"Assetmerge$Joining", "findGroups", "(LAssetmerge$Inventory;)V"⟩) (C := RX2) 11 rfl dX4_nextGhostByDays_8 (k_fgJ l hI) ca_X0_findGroups rfl aw_5_0 aw_4_23 aw_4_22 aw_4_21 rfl rfl ⟨Nat.le_of_ble_eq_true rfl, Nat.le_of_ble_eq_true rfl⟩ (Nat.le_of_ble_eq_true rfl) ⟨Nat.zero_le _, Nat.zero_le _⟩ ?_
  rintro τ hfg
  have hJ := JD_fg hfg
  have hI2 := hJ.1.cIy hI
  have hg2 : lab τ 19 n (gC σ n 2) := hJ.2.2 2 (by omega)
  refine wm_sipush (v := 999) 14 rfl dX4_nextGhostByDays_11 (by decide) ?_
  refine wm_aload_n 15 rfl dX4_nextGhostByDays_14 rfl rfl ?_
  refine wm_getI 18 rfl dX4_nextGhostByDays_15 gf_X4_68_3 rfl rfl ?_
  refine wm_aload_n 19 rfl dX4_nextGhostByDays_18 rfl rfl ?_
  refine wm_getI 22 rfl dX4_nextGhostByDays_19 gf_X4_34_3 rfl rfl ?_
  refine wm_iadd 23 rfl dX4_nextGhostByDays_22 ?_
  refine wm_iconst (v := 1) 24 rfl dX4_nextGhostByDays_23 (by decide) ?_
  refine wm_iadd 25 rfl dX4_nextGhostByDays_24 ?_
  have hD2 := hJ.1.cDy hD
  have hd9 := hD.2.2.1
  have hL9 := hD.2.2.2.2.2
  rw [hD2.2.1, hD2.2.2.2.1, nI_add, nI_1]
  refine wm_min 28 rfl dX4_nextGhostByDays_25 aw_21_13 aw_6_7 aw_1_6 aw_6_8 ⟨Nat.le_of_ble_eq_true rfl, Nat.le_of_ble_eq_true rfl⟩ (Nat.le_of_ble_eq_true rfl) ⟨Nat.zero_le _, Nat.zero_le _⟩ ?_
  rw [show (if nI (d + L + 1) < (999 : Int32) then nI (d + L + 1) else (999 : Int32)) = nI (min 999 (d + L + 1)) from nI_min (x := 999) (by omega) (by omega)]
  refine wm_istore_n (ls' := [(1, _), (0, _)]) 29 rfl dX4_nextGhostByDays_28 rfl (by decide) rfl ?_
  refine wm_aload_n 30 rfl dX4_nextGhostByDays_29 rfl rfl ?_
  refine wm_getI 33 rfl dX4_nextGhostByDays_30 gf_X4_68_3 rfl rfl ?_
  refine wm_iconst (v := 1) 34 rfl dX4_nextGhostByDays_33 (by decide) ?_
  refine wm_iadd 35 rfl dX4_nextGhostByDays_34 ?_
  rw [hD2.2.1, nI_1]
  refine wm_istore_n (ls' := [(2, _), (1, _), (0, _)]) 36 rfl dX4_nextGhostByDays_35 rfl (by decide) rfl ?_
  refine wm_loc (ls2 := [(0, _), (1, _), (2, _)]) [2, 1, 0] rfl ?_
  exact lp _ (d + 1) τ rfl (by omega) (by omega) hJ (fun t h1 h2 => by omega)
theorem k_X4_today (l : Launch) {σ : Sg} : cMi l yX4_today cX4_today 1 .int 0 Lc [.ref 0] σ (pP σ (σ 0 4)) := by
  refine zMet_of (by decide +kernel) (Nat.le_of_ble_eq_true rfl) (fun D cT ad sz => ?_)
  show Wm (fun _ _ => True) l (rmh 0) RX4 cX4_today 1 (some .int) D cT ad Lc (zA ad Lc.length sz) (zZ (fun D cT ad L9 sz => zQi D cT ad L9 sz (pP σ (σ 0 4))) D cT ad Lc sz) [] 0 (lv_args 0 [.ref 0]) [] σ 0 0
  refine wm_aload_n 1 rfl dX4_today_0 rfl rfl ?_
  refine wm_getI 4 rfl dX4_today_1 gf_X4_68_3 rfl rfl ?_
  exact wm_iret dX4_today_4 (by first | rfl | exact zp_nar) ⟨rfl, rfl⟩
theorem sq_bd (P : Nat → Prop) : ∀ n, sq P (fun r => r) n ≤ n * n
  | 0 => Nat.le_refl _
  | n + 1 => by
    have ih := sq_bd P n
    have e : (n + 1) * (n + 1) = n * n + n + n + 1 := by rw [Nat.add_mul, Nat.mul_add]; omega
    by_cases h : P n
    · rw [sq_t h]; omega
    · rw [sq_f h]; omega
theorem k_X4_mark (l : Launch) {σ : Sg} {n : Nat} (hI : cI σ n) : cMl l yX4_mark cX4_mark 6 7 Lc [.ref 0] σ (fun v σ1 => JD σ n σ1 ∧ v = lN (sq (fun h => mbr σ n (gC σ n 2) h h) (fun h => cq (mbr σ n (gC σ n 2) h) n * cq (mbr σ n (gC σ n 2) h) n * sq (mbr σ n (gC σ n 2) h) (fun r => r) n + 1) n)) := by
  have h24 := hI.2
  refine zMet_of (by decide +kernel) (Nat.le_of_ble_eq_true rfl) (fun D cT ad sz => ?_)
  show Wm (fun _ _ => True) l (rmh 7) RX4 cX4_mark 6 (some .long) D cT ad Lc (zA ad Lc.length sz) (zZ (fun D cT ad L9 sz => zQl D cT ad L9 sz (fun v σ1 => JD σ n σ1 ∧ v = lN (sq (fun h => mbr σ n (gC σ n 2) h h) (fun h => cq (mbr σ n (gC σ n 2) h) n * cq (mbr σ n (gC σ n 2) h) n * sq (mbr σ n (gC σ n 2) h) (fun r => r) n + 1) n))) D cT ad Lc sz) [] 0 (lv_args 0 [.ref 0]) [] σ 0 0
  have lp : ∀ (q9 j : Nat) (τ : Sg), n - j = q9 → j ≤ n → JD σ n τ → Wm (fun _ _ => True) l (rmh 7) RX4 cX4_mark 6 (some .long) D cT ad Lc (zA ad Lc.length sz) (zZ (fun D cT ad L9 sz => zQl D cT ad L9 sz (fun v σ1 => JD σ n σ1 ∧ v = lN (sq (fun h => mbr σ n (gC σ n 2) h h) (fun h => cq (mbr σ n (gC σ n 2) h) n * cq (mbr σ n (gC σ n 2) h) n * sq (mbr σ n (gC σ n 2) h) (fun r => r) n + 1) n))) D cT ad Lc sz) [] 15 [(0, .ref 0), (1, .long (lN (sq (fun h => mbr σ n (gC σ n 2) h h) (fun h => cq (mbr σ n (gC σ n 2) h) n * cq (mbr σ n (gC σ n 2) h) n * sq (mbr σ n (gC σ n 2) h) (fun r => r) n + 1) j))), (3, .int (nI j))] [] τ 0 0 := by
    intro q9
    induction q9 using Nat.strongRecOn with
    | ind q9 ih =>
      intro j τ hmj hjj hJ
      have hI2 := hJ.1.cIy hI
      have hg2 : lab τ 19 n (gC σ n 2) := hJ.2.2 2 (by omega)
      have e := mbr_ag (n := n) (g := gC σ n 2) hJ.1
      refine wm_iload_n 16 rfl dX4_mark_15 rfl rfl ?_
      refine wm_aload_n 17 rfl dX4_mark_16 rfl rfl ?_
      refine wm_getR 20 rfl dX4_mark_17 gf_X4_12_3 rfl rfl ?_
      refine wm_getI 23 rfl dX4_mark_20 gf_X4_63_0 rfl rfl ?_
      refine wm_icmp_ge 65 26 rfl (by decide) dX4_mark_23 (fun c23 => ?_) (fun c23 => ?_)
      · rw [hI2.1] at c23
        have gj : j = n := by have := le_of_nI c23 (by omega) (by omega); omega
        refine wm_lload_n 66 rfl dX4_mark_65 rfl rfl ?_
        exact wm_lret dX4_mark_66 ⟨hJ, by rw [gj]⟩
      · rw [hI2.1] at c23
        have gj : j < n := lt_of_nnI c23 (by omega) (by omega)
        refine wm_aload_n 27 rfl dX4_mark_26 rfl rfl ?_
        refine wm_iload_n 28 rfl dX4_mark_27 rfl rfl ?_
        refine wm_callVi (ty := .boolean) 31 rfl dX4_mark_28 (k_X4_isThing l hI2 hg2 gj) ca_X4_isThing cv_X4_isThing rfl aw_8_8 rfl rfl ⟨Nat.le_of_ble_eq_true rfl, Nat.le_of_ble_eq_true rfl⟩ (Nat.le_of_ble_eq_true rfl) ⟨Nat.zero_le _, Nat.zero_le _⟩ ?_
        rintro r9 σ9 ⟨rfl, rfl⟩
        rw [e]
        refine wm_if_eq 59 34 rfl (by decide) dX4_mark_31 (fun c31 => ?_) (fun c31 => ?_)
        · rw [← sq_f (P := (fun h => mbr σ n (gC σ n 2) h h)) (f := (fun h => cq (mbr σ n (gC σ n 2) h) n * cq (mbr σ n (gC σ n 2) h) n * sq (mbr σ n (gC σ n 2) h) (fun r => r) n + 1)) (zp_0.mp c31)]
          refine wm_iinc (ls' := [(3, _), (0, _), (1, _)]) 62 rfl dX4_mark_59 rfl (nI_inc _) (by decide) rfl ?_
          refine wm_goto 15 (by decide) dX4_mark_62 ?_
          refine wm_loc (ls2 := [(0, _), (1, _), (3, _)]) [1, 2, 0] rfl ?_
          exact ih (n - (j + 1)) (by omega) (j + 1) τ rfl (by omega) hJ
        · refine wm_aload_n 35 rfl dX4_mark_34 rfl rfl ?_
          refine wm_iload_n 36 rfl dX4_mark_35 rfl rfl ?_
          refine wm_callVi (ty := .int) 39 rfl dX4_mark_36 (k_X4_countMembers l hI2 hg2 gj) ca_X4_countMembers cv_X4_countMembers rfl aw_8_23 rfl rfl ⟨Nat.le_of_ble_eq_true rfl, Nat.le_of_ble_eq_true rfl⟩ (Nat.le_of_ble_eq_true rfl) ⟨Nat.zero_le _, Nat.zero_le _⟩ ?_
          rintro r9 σ9 ⟨rfl, rfl⟩
          rw [e]
          refine wm_i2l 40 rfl dX4_mark_39 ?_
          rw [nI_l (by have := cq_le (mbr σ n (gC σ n 2) j) n; omega)]
          refine wm_lstore (ls' := [(4, _), (0, _), (1, _), (3, _)]) 42 rfl dX4_mark_40 (by decide) rfl ?_
          refine wm_lload_n 43 rfl dX4_mark_42 rfl rfl ?_
          refine wm_lload 45 rfl dX4_mark_43 rfl ?_
          refine wm_lload 47 rfl dX4_mark_45 rfl ?_
          refine wm_lmul 48 rfl dX4_mark_47 ?_
          refine wm_aload_n 49 rfl dX4_mark_48 rfl rfl ?_
          refine wm_iload_n 50 rfl dX4_mark_49 rfl rfl ?_
          refine wm_callVi (ty := .int) 53 rfl dX4_mark_50 (k_X4_sumMembers l hI2 hg2 gj) ca_X4_sumMembers cv_X4_sumMembers rfl aw_9_3 rfl rfl ⟨Nat.le_of_ble_eq_true rfl, Nat.le_of_ble_eq_true rfl⟩ (Nat.le_of_ble_eq_true rfl) ⟨Nat.zero_le _, Nat.zero_le _⟩ ?_
          rintro r9 σ9 ⟨rfl, rfl⟩
          rw [e]
          refine wm_i2l 54 rfl dX4_mark_53 ?_
          rw [nI_l (by have := sq_bd (mbr σ n (gC σ n 2) j) n; have : n * n ≤ 24 * 24 := Nat.mul_le_mul h24 h24; omega)]
          refine wm_lmul 55 rfl dX4_mark_54 ?_
          refine wm_lconst (v := 1) 56 rfl dX4_mark_55 (by decide) ?_
          refine wm_ladd 57 rfl dX4_mark_56 ?_
          refine wm_ladd 58 rfl dX4_mark_57 ?_
          rw [show (1 : Int64) = lN 1 from rfl, lN_mul, lN_mul, lN_add, lN_add, show sq (fun h => mbr σ n (gC σ n 2) h h) (fun h => cq (mbr σ n (gC σ n 2) h) n * cq (mbr σ n (gC σ n 2) h) n * sq (mbr σ n (gC σ n 2) h) (fun r => r) n + 1) j + (cq (mbr σ n (gC σ n 2) j) n * cq (mbr σ n (gC σ n 2) j) n * sq (mbr σ n (gC σ n 2) j) (fun r => r) n + 1) = sq (fun h => mbr σ n (gC σ n 2) h h) (fun h => cq (mbr σ n (gC σ n 2) h) n * cq (mbr σ n (gC σ n 2) h) n * sq (mbr σ n (gC σ n 2) h) (fun r => r) n + 1) (j + 1) from (sq_t (P := (fun h => mbr σ n (gC σ n 2) h h)) (f := (fun h => cq (mbr σ n (gC σ n 2) h) n * cq (mbr σ n (gC σ n 2) h) n * sq (mbr σ n (gC σ n 2) h) (fun r => r) n + 1)) (zp_n.mp c31)).symm]
          refine wm_lstore_n (ls' := [(1, _), (4, _), (0, _), (3, _)]) 59 rfl dX4_mark_58 rfl (by decide) rfl ?_
          refine wm_iinc (ls' := [(3, _), (1, _), (4, _), (0, _)]) 62 rfl dX4_mark_59 rfl (nI_inc _) (by decide) rfl ?_
          refine wm_goto 15 (by decide) dX4_mark_62 ?_
          refine wm_loc (ls2 := [(0, _), (1, _), (3, _)]) [3, 1, 0] rfl ?_
          exact ih (n - (j + 1)) (by omega) (j + 1) τ rfl (by omega) hJ
  refine wm_aload_n 1 rfl dX4_mark_0 rfl rfl ?_
  refine wm_getR 4 rfl dX4_mark_1 gf_X4_19_3 rfl rfl ?_
  refine wm_aload_n 5 rfl dX4_mark_4 rfl rfl ?_
  refine wm_getR 8 rfl dX4_mark_5 gf_X4_12_3 rfl rfl ?_
  refine wm_callUv (x := ⟨"Assetmerge$Joining", "findGroups", "(LAssetmerge$Inventory;)V"⟩) (C := RX2) 11 rfl dX4_mark_8 (k_fgJ l hI) ca_X0_findGroups rfl aw_5_0 aw_4_23 aw_4_22 aw_4_21 rfl rfl ⟨Nat.le_of_ble_eq_true rfl, Nat.le_of_ble_eq_true rfl⟩ (Nat.le_of_ble_eq_true rfl) ⟨Nat.zero_le _, Nat.zero_le _⟩ ?_
  rintro τ hfg
  have hJ := JD_fg hfg
  have hI2 := hJ.1.cIy hI
  have hg2 : lab τ 19 n (gC σ n 2) := hJ.2.2 2 (by omega)
  refine wm_lconst (v := 0) 12 rfl dX4_mark_11 (by decide) ?_
  refine wm_lstore_n (ls' := [(1, _), (0, _)]) 13 rfl dX4_mark_12 rfl (by decide) rfl ?_
  refine wm_iconst (v := 0) 14 rfl dX4_mark_13 (by decide) ?_
  refine wm_istore_n (ls' := [(3, _), (1, _), (0, _)]) 15 rfl dX4_mark_14 rfl (by decide) rfl ?_
  refine wm_loc (ls2 := [(0, _), (1, _), (3, _)]) [2, 1, 0] rfl ?_
  exact lp n 0 τ rfl (Nat.zero_le _) hJ
