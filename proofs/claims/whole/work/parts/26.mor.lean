theorem ca_X5_finds : zCal yX5_finds cX5_finds 3 none 1 := ⟨aw_19_2, aw_1_5, by decide +kernel, by decide +kernel, by decide +kernel⟩
theorem cv_X5_finds : zCaV RX5 yX5_finds := ⟨aw_19_0, aw_19_1⟩
theorem ca_X5_isOf : zCal yX5_isOf cX5_isOf 3 (some .boolean) 2 := ⟨aw_22_10, aw_1_5, by decide +kernel, by decide +kernel, by decide +kernel⟩
theorem cv_X5_isOf : zCaV RX5 yX5_isOf := ⟨aw_22_8, aw_22_9⟩
theorem gf_X5_16_4 : zGF RX5 16 4 3 := ⟨RX5, TX5, 18, "AssetmergeModel", rfl, zin_X5, by decide, aw_3_8, Or.inl rfl⟩
theorem gf_X5_9_4 : zGF RX5 9 4 0 := ⟨RX5, TX5, 18, "AssetmergeModel", rfl, zin_X5, by decide, aw_3_6, Or.inl rfl⟩
theorem gf_X5_13_4 : zGF RX5 13 4 2 := ⟨RX5, TX5, 18, "AssetmergeModel", rfl, zin_X5, by decide, aw_3_7, Or.inl rfl⟩
theorem gf_X5_73_4 : zGF RX5 73 4 12 := ⟨RX5, TX5, 18, "AssetmergeModel", rfl, zin_X5, by decide, aw_7_5, Or.inl rfl⟩
theorem ca_X5_weightOf : zCal yX5_weightOf cX5_weightOf 2 (some .int) 1 := ⟨aw_27_10, aw_1_5, by decide +kernel, by decide +kernel, by decide +kernel⟩
theorem cv_X5_weightOf : zCaV RX5 yX5_weightOf := ⟨aw_27_8, aw_27_9⟩
/-! THE MODEL: order, days, counts -/
/-- what the order looks at, laid as the class has it -/
def enM (σ : Sg) : Sg := fun a b => if a = 2 then σ 1 b else if a = 3 then σ 2 b else if a = 4 then σ 3 b else if a = 0 then σ 0 12 else 0
abbrev ahM (σ : Sg) : Nat → Nat → Prop := ah (enM σ)
def sM (σ : Sg) (n : Nat) : Prop := cS (enM σ) n
def tfM (σ : Sg) (n : Nat) (g : Nat → Nat) (h f r : Nat) : Prop := mbM σ n g h r ∧ σ (35 + r) f ≠ -1
def bsM (σ : Sg) (n : Nat) (g : Nat → Nat) (h f j : Nat) (v : Int32) : Prop := (∃ r, r < j ∧ r < 24 ∧ (tfM σ n g h f r ∧ ∀ x, x < j → tfM σ n g h f x → x ≠ r → ahM σ r x) ∧ v = nI r) ∨ (v = -1 ∧ ∀ r, r < j → ¬ tfM σ n g h f r)
theorem bsM_skip {σ : Sg} {n : Nat} {g : Nat → Nat} {h f j : Nat} {v : Int32} (hb : bsM σ n g h f j v) (hn : ¬ tfM σ n g h f j) : bsM σ n g h f (j + 1) v := by
  rcases hb with ⟨r, hr, hr2, ⟨h1, h2⟩, e⟩ | ⟨e, h1⟩
  · exact Or.inl ⟨r, by omega, hr2, ⟨h1, lt_s h2 (fun q _ => absurd q hn)⟩, e⟩
  · exact Or.inr ⟨e, lt_s h1 hn⟩
theorem bsM_keep {σ : Sg} {n : Nat} {g : Nat → Nat} {h f j r : Nat} (hr2 : r < 24) (hb : bsM σ n g h f j (nI r)) (hn : ¬ ahM σ j r) : bsM σ n g h f (j + 1) (nI r) := by
  rcases hb with ⟨r2, hr, hr3, ⟨h1, h2⟩, e⟩ | ⟨e, h1⟩
  · have := eq_of_nI e (by omega) (by omega)
    subst this
    refine Or.inl ⟨r, by omega, hr2, ⟨h1, lt_s h2 (fun q hne => ?_)⟩, rfl⟩
    rcases ah_total (σ := enM σ) hne with h5 | h5
    · exact absurd h5 hn
    · exact h5
  · exact absurd e (nI_ne_m1 (by omega))
theorem bsM_first {σ : Sg} {n : Nat} {g : Nat → Nat} {h f j : Nat} (hj : j < 24) (hb : bsM σ n g h f j (-1)) (ht : tfM σ n g h f j) : bsM σ n g h f (j + 1) (nI j) := by
  rcases hb with ⟨r, hr, hr2, -, e⟩ | ⟨-, h1⟩
  · exact absurd e.symm (nI_ne_m1 (by omega))
  · exact Or.inl ⟨j, by omega, hj, ⟨ht, lt_s (fun x hx q => absurd q (h1 x hx)) (fun _ q => absurd rfl q)⟩, rfl⟩
theorem bsM_take {σ : Sg} {n : Nat} {g : Nat → Nat} {h f j r : Nat} (hr2 : r < 24) (hj : j < 24) (hb : bsM σ n g h f j (nI r)) (ht : tfM σ n g h f j) (ha : ahM σ j r) : bsM σ n g h f (j + 1) (nI j) := by
  rcases hb with ⟨r2, hr, hr3, ⟨h1, h2⟩, e⟩ | ⟨e, h1⟩
  · have := eq_of_nI e (by omega) (by omega)
    subst this
    refine Or.inl ⟨j, by omega, hj, ⟨ht, lt_s (fun x hx q hne => ?_) (fun _ q => absurd rfl q)⟩, rfl⟩
    by_cases e2 : x = r
    · rw [e2]; exact ha
    · exact ah_trans ha (h2 x hx q e2)
  · exact absurd e (nI_ne_m1 (by omega))
theorem mxq_none {P : Nat → Prop} {f : Nat → Nat} : ∀ {n : Nat}, (∀ r, r < n → ¬ P r) → mxq P f n = 0
  | 0, _ => rfl
  | n + 1, h => by rw [mxq_f (h n (by omega)), mxq_none (fun r hr => h r (by omega))]
def cDM (σ : Sg) (n : Nat) (sn : Nat → Nat) (d L : Nat) : Prop := (∀ r, r < n → σ 3 r = nI (sn r) ∧ sn r ≤ d) ∧ σ 0 12 = nI d ∧ d ≤ 999 ∧ σ 0 11 = nI L ∧ 1 ≤ L ∧ L ≤ 99
noncomputable def lsM (σ : Sg) (n : Nat) (g sn : Nat → Nat) (h : Nat) : Nat := mxq (mbM σ n g h) sn n
theorem lsM_le {σ : Sg} {n : Nat} {g sn : Nat → Nat} {h d L : Nat} (hD : cDM σ n sn d L) : lsM σ n g sn h ≤ d := mxq_le (fun r hr => (hD.1 r hr).2)
def cpM (σ : Sg) (i : Nat) : Prop := σ 6 (σ 7 i).toNatClampNeg = 0 ∧ σ 6 (σ 8 i).toNatClampNeg = 0
def shq (σ : Sg) (n : Nat) (g : Nat → Nat) (i q : Nat) : Prop := ∃ x y, lvM σ n x ∧ lvM σ n y ∧ kyM σ i x = nI q ∧ kyM σ i y = nI q ∧ g x ≠ g y
def shI (σ : Sg) (n : Nat) (g : Nat → Nat) (i q j : Nat) (v : Int32) : Prop := (v = -1 ∧ ∀ r, r < j → lvM σ n r → kyM σ i r ≠ nI q) ∨ (∃ x, x < j ∧ lvM σ n x ∧ kyM σ i x = nI q ∧ v = nI (g x) ∧ ∀ y, y < j → lvM σ n y → kyM σ i y = nI q → g y = g x)
theorem shI_skip {σ : Sg} {n : Nat} {g : Nat → Nat} {i q j : Nat} {v : Int32} (h : shI σ n g i q j v) (hn : lvM σ n j → kyM σ i j ≠ nI q) : shI σ n g i q (j + 1) v := by
  rcases h with ⟨e, h1⟩ | ⟨x, hx, h1, h2, h3, h4⟩
  · exact Or.inl ⟨e, lt_s h1 hn⟩
  · exact Or.inr ⟨x, by omega, h1, h2, h3, lt_s h4 (fun q1 q2 => absurd q2 (hn q1))⟩
theorem shI_take {σ : Sg} {n : Nat} {g : Nat → Nat} {i q j : Nat} {v : Int32} (hg : ∀ x, x < n → g x < 24) (h : shI σ n g i q j v) (hl : lvM σ n j) (hk : kyM σ i j = nI q) (hv : v = -1 ∨ nI (g j) = v) : shI σ n g i q (j + 1) (nI (g j)) := by
  refine Or.inr ⟨j, by omega, hl, hk, rfl, lt_s ?_ (fun _ _ => rfl)⟩
  rcases h with ⟨e, h1⟩ | ⟨x, hx, h1, h2, h3, h4⟩
  · exact fun y hy q1 q2 => absurd q2 (h1 y hy q1)
  · intro y hy q1 q2
    have := hg x h1.1
    have := hg j hl.1
    rcases hv with hv | hv
    · exact absurd (h3.symm.trans hv) (nI_ne_m1 (by omega))
    · rw [h4 y hy q1 q2]
      exact (eq_of_nI (hv.trans h3) (by omega) (by omega)).symm
theorem shI_yes {σ : Sg} {n : Nat} {g : Nat → Nat} {i q j : Nat} {v : Int32} (h : shI σ n g i q j v) (hl : lvM σ n j) (hk : kyM σ i j = nI q) (hv : ¬ v = -1) (hne : ¬ nI (g j) = v) : shq σ n g i q := by
  rcases h with ⟨e, h1⟩ | ⟨x, hx, h1, h2, h3, h4⟩
  · exact absurd e hv
  · exact ⟨x, j, h1, hl, h2, hk, fun e => hne (by rw [h3, e])⟩
theorem shI_no {σ : Sg} {n : Nat} {g : Nat → Nat} {i q : Nat} {v : Int32} (h : shI σ n g i q n v) : ¬ shq σ n g i q := by
  rintro ⟨x, y, hx, hy, kx, ky, hne⟩
  rcases h with ⟨e, h1⟩ | ⟨z, hz, h1, h2, h3, h4⟩
  · exact h1 x hx.1 hx kx
  · exact hne ((h4 x hx.1 hx kx).trans (h4 y hy.1 hy ky).symm)
/-- the last day: the number that the loop over the records bears -/
def lsI (σ : Sg) (n : Nat) (g sn : Nat → Nat) (h j : Nat) (v : Int32) : Prop := (v = -1 ∧ ∀ r, r < j → ¬ mbM σ n g h r) ∨ (v = nI (mxq (mbM σ n g h) sn j) ∧ ∃ r, r < j ∧ mbM σ n g h r)
theorem lsI_skip {σ : Sg} {n : Nat} {g sn : Nat → Nat} {h j : Nat} {v : Int32} (hI : lsI σ n g sn h j v) (hn : ¬ mbM σ n g h j) : lsI σ n g sn h (j + 1) v := by
  rcases hI with ⟨e, h1⟩ | ⟨e, r, hr, h1⟩
  · exact Or.inl ⟨e, lt_s h1 hn⟩
  · exact Or.inr ⟨by rw [mxq_f hn]; exact e, r, by omega, h1⟩
theorem lsI_take {σ : Sg} {n : Nat} {g sn : Nat → Nat} {h j d L : Nat} {v : Int32} (hD : cDM σ n sn d L) (hj : j < n) (hI : lsI σ n g sn h j v) (hm : mbM σ n g h j) : lsI σ n g sn h (j + 1) (if v < nI (sn j) then nI (sn j) else v) := by
  refine Or.inr ⟨?_, j, by omega, hm⟩
  rw [mxq_t hm]
  have h1 := (hD.1 j hj).2
  have h2 := hD.2.2.1
  rcases hI with ⟨e, h3⟩ | ⟨e, -⟩
  · rw [mxq_none h3, e]
    have h4 : (-1 : Int32) < nI (sn j) := by
      have h5 : (nI 0).toInt ≤ (nI (sn j)).toInt := Int32.le_iff_toInt_le.mp ((nI_leI (by omega) (by omega)).mpr (Nat.zero_le _))
      have h6 : (nI 0).toInt = 0 := by decide
      have h7 : (-1 : Int32).toInt = -1 := by decide
      exact Int32.lt_iff_toInt_lt.mpr (by omega)
    rw [if_pos h4]
    congr 1
    try omega
  · rw [e]
    exact nI_max (by have : mxq (mbM σ n g h) sn j ≤ d := mxq_le (fun r hr => (hD.1 r (by omega)).2); omega) (by omega)
theorem k_X5_left (l : Launch) {σ : Sg} {n : Nat} (hI : mI σ n) : cMi l yX5_left cX5_left 3 .int 0 Lm [.ref 0] σ (pP σ (nI (cq (fun r => σ 6 r = 0) n))) := by
  have h24 := hI.2
  refine zMet_of (by decide +kernel) (Nat.le_of_ble_eq_true rfl) (fun D cT ad sz => ?_)
  show Wm (fun _ _ => True) l (rmh 0) RX5 cX5_left 3 (some .int) D cT ad Lm (zA ad Lm.length sz) (zZ (fun D cT ad L9 sz => zQi D cT ad L9 sz (pP σ (nI (cq (fun r => σ 6 r = 0) n)))) D cT ad Lm sz) [] 0 (lv_args 0 [.ref 0]) [] σ 0 0
  have lp : ∀ (q9 j : Nat), n - j = q9 → j ≤ n → True → Wm (fun _ _ => True) l (rmh 0) RX5 cX5_left 3 (some .int) D cT ad Lm (zA ad Lm.length sz) (zZ (fun D cT ad L9 sz => zQi D cT ad L9 sz (pP σ (nI (cq (fun r => σ 6 r = 0) n)))) D cT ad Lm sz) [] 4 [(0, .ref 0), (1, .int (nI (cq (fun r => σ 6 r = 0) j))), (2, .int (nI j))] [] σ 0 0 := by
    intro q9
    induction q9 using Nat.strongRecOn with
    | ind q9 ih =>
      intro j  hmj hjj hinv
      refine wm_iload_n 5 rfl dX5_left_4 rfl rfl ?_
      refine wm_aload_n 6 rfl dX5_left_5 rfl rfl ?_
      refine wm_getI 9 rfl dX5_left_6 gf_X5_56_4 rfl rfl ?_
      refine wm_icmp_ge 35 12 rfl (by decide) dX5_left_9 (fun c9 => ?_) (fun c9 => ?_)
      · rw [hI.1] at c9
        have gj : j = n := by have := le_of_nI c9 (by omega) (by omega); omega
        refine wm_iload_n 36 rfl dX5_left_35 rfl rfl ?_
        exact wm_iret dX5_left_36 (by first | rfl | exact zp_nar) ⟨rfl, by rw [gj]⟩
      · rw [hI.1] at c9
        have gj : j < n := lt_of_nnI c9 (by omega) (by omega)
        refine wm_iload_n 13 rfl dX5_left_12 rfl rfl ?_
        refine wm_aload_n 14 rfl dX5_left_13 rfl rfl ?_
        refine wm_getR 17 rfl dX5_left_14 gf_X5_27_4 rfl rfl ?_
        refine wm_iload_n 18 rfl dX5_left_17 rfl rfl ?_
        refine wm_baload 19 rfl dX5_left_18 rfl (vp_in_nI (by omega) (by omega)) ?_
        refine wm_if_eq 26 22 rfl (by decide) dX5_left_19 (fun c19 => ?_) (fun c19 => ?_)
        · rw [nI_clamp (by omega)] at c19
          refine wm_iconst (v := 1) 27 rfl dX5_left_26 (by decide) ?_
          refine wm_iadd 28 rfl dX5_left_27 ?_
          first
            | rw [show nI (cq (fun r => σ 6 r = 0) j) + 0 = nI (cq (fun r => σ 6 r = 0) (j + 1)) by rw [cq_f (P := (fun r => σ 6 r = 0)) (c19)]; exact Int32.add_zero _]
            | rw [show nI (cq (fun r => σ 6 r = 0) j) + 1 = nI (cq (fun r => σ 6 r = 0) (j + 1)) by rw [cq_t (P := (fun r => σ 6 r = 0)) (c19)]; exact nI_1 _]
          refine wm_istore_n (ls' := [(1, _), (0, _), (2, _)]) 29 rfl dX5_left_28 rfl (by decide) rfl ?_
          refine wm_iinc (ls' := [(2, _), (1, _), (0, _)]) 32 rfl dX5_left_29 rfl (nI_inc _) (by decide) rfl ?_
          refine wm_goto 4 (by decide) dX5_left_32 ?_
          refine wm_loc (ls2 := [(0, _), (1, _), (2, _)]) [2, 1, 0] rfl ?_
          exact ih (n - (j + 1)) (by omega) (j + 1) rfl (by omega) trivial
        · rw [nI_clamp (by omega)] at c19
          refine wm_iconst (v := 0) 23 rfl dX5_left_22 (by decide) ?_
          refine wm_goto 27 (by decide) dX5_left_23 ?_
          refine wm_iadd 28 rfl dX5_left_27 ?_
          first
            | rw [show nI (cq (fun r => σ 6 r = 0) j) + 0 = nI (cq (fun r => σ 6 r = 0) (j + 1)) by rw [cq_f (P := (fun r => σ 6 r = 0)) (c19)]; exact Int32.add_zero _]
            | rw [show nI (cq (fun r => σ 6 r = 0) j) + 1 = nI (cq (fun r => σ 6 r = 0) (j + 1)) by rw [cq_t (P := (fun r => σ 6 r = 0)) (c19)]; exact nI_1 _]
          refine wm_istore_n (ls' := [(1, _), (0, _), (2, _)]) 29 rfl dX5_left_28 rfl (by decide) rfl ?_
          refine wm_iinc (ls' := [(2, _), (1, _), (0, _)]) 32 rfl dX5_left_29 rfl (nI_inc _) (by decide) rfl ?_
          refine wm_goto 4 (by decide) dX5_left_32 ?_
          refine wm_loc (ls2 := [(0, _), (1, _), (2, _)]) [2, 1, 0] rfl ?_
          exact ih (n - (j + 1)) (by omega) (j + 1) rfl (by omega) trivial
  refine wm_iconst (v := 0) 1 rfl dX5_left_0 (by decide) ?_
  refine wm_istore_n (ls' := [(1, _), (0, _)]) 2 rfl dX5_left_1 rfl (by decide) rfl ?_
  refine wm_iconst (v := 0) 3 rfl dX5_left_2 (by decide) ?_
  refine wm_istore_n (ls' := [(2, _), (1, _), (0, _)]) 4 rfl dX5_left_3 rfl (by decide) rfl ?_
  refine wm_loc (ls2 := [(0, _), (1, _), (2, _)]) [2, 1, 0] rfl ?_
  exact lp n 0 rfl (Nat.zero_le _) trivial
theorem k_X5_countedPairs (l : Launch) {σ : Sg} {n p : Nat} (hn : n ≤ 24) (hP : mP σ p) (hQ : mQ σ n p) : cMi l yX5_countedPairs cX5_countedPairs 3 .int 0 Lm [.ref 0] σ (pP σ (nI (cq (cpM σ) p))) := by
  have h12 := hP.2
  refine zMet_of (by decide +kernel) (Nat.le_of_ble_eq_true rfl) (fun D cT ad sz => ?_)
  show Wm (fun _ _ => True) l (rmh 0) RX5 cX5_countedPairs 3 (some .int) D cT ad Lm (zA ad Lm.length sz) (zZ (fun D cT ad L9 sz => zQi D cT ad L9 sz (pP σ (nI (cq (cpM σ) p)))) D cT ad Lm sz) [] 0 (lv_args 0 [.ref 0]) [] σ 0 0
  have lp : ∀ (q9 j : Nat), p - j = q9 → j ≤ p → True → Wm (fun _ _ => True) l (rmh 0) RX5 cX5_countedPairs 3 (some .int) D cT ad Lm (zA ad Lm.length sz) (zZ (fun D cT ad L9 sz => zQi D cT ad L9 sz (pP σ (nI (cq (cpM σ) p)))) D cT ad Lm sz) [] 4 [(0, .ref 0), (1, .int (nI (cq (cpM σ) j))), (2, .int (nI j))] [] σ 0 0 := by
    intro q9
    induction q9 using Nat.strongRecOn with
    | ind q9 ih =>
      intro j  hmj hjj hinv
      refine wm_iload_n 5 rfl dX5_countedPairs_4 rfl rfl ?_
      refine wm_aload_n 6 rfl dX5_countedPairs_5 rfl rfl ?_
      refine wm_getI 9 rfl dX5_countedPairs_6 gf_X5_83_4 rfl rfl ?_
      refine wm_icmp_ge 54 12 rfl (by decide) dX5_countedPairs_9 (fun c9 => ?_) (fun c9 => ?_)
      · rw [hP.1] at c9
        have gj : j = p := by have := le_of_nI c9 (by omega) (by omega); omega
        refine wm_iload_n 55 rfl dX5_countedPairs_54 rfl rfl ?_
        exact wm_iret dX5_countedPairs_55 (by first | rfl | exact zp_nar) ⟨rfl, by rw [gj]⟩
      · rw [hP.1] at c9
        have gj : j < p := lt_of_nnI c9 (by omega) (by omega)
        refine wm_iload_n 13 rfl dX5_countedPairs_12 rfl rfl ?_
        refine wm_aload_n 14 rfl dX5_countedPairs_13 rfl rfl ?_
        refine wm_getR 17 rfl dX5_countedPairs_14 gf_X5_27_4 rfl rfl ?_
        refine wm_aload_n 18 rfl dX5_countedPairs_17 rfl rfl ?_
        refine wm_getR 21 rfl dX5_countedPairs_18 gf_X5_31_4 rfl rfl ?_
        refine wm_iload_n 22 rfl dX5_countedPairs_21 rfl rfl ?_
        refine wm_iaload 23 rfl dX5_countedPairs_22 rfl (vp_in_nI (by omega) (by omega)) ?_
        rw [nI_clamp (by omega)]
        obtain ⟨x, y, ex, ey, hx, hy, hxy⟩ := hQ j gj
        refine wm_baload 24 rfl dX5_countedPairs_23 rfl (by rw [ex]; exact in24 hx hn) ?_
        refine wm_if_ne 41 27 rfl (by decide) dX5_countedPairs_24 (fun c24 => ?_) (fun c24 => ?_)
        · refine wm_iconst (v := 0) 42 rfl dX5_countedPairs_41 (by decide) ?_
          refine wm_goto 46 (by decide) dX5_countedPairs_42 ?_
          refine wm_iadd 47 rfl dX5_countedPairs_46 ?_
          first
            | rw [show nI (cq (cpM σ) j) + 0 = nI (cq (cpM σ) (j + 1)) by rw [cq_f (P := (cpM σ)) (by first | exact fun q => c24 q.1 | exact fun q => c38 q.2)]; exact Int32.add_zero _]
            | rw [show nI (cq (cpM σ) j) + 1 = nI (cq (cpM σ) (j + 1)) by rw [cq_t (P := (cpM σ)) (⟨c24, c38⟩)]; exact nI_1 _]
          refine wm_istore_n (ls' := [(1, _), (0, _), (2, _)]) 48 rfl dX5_countedPairs_47 rfl (by decide) rfl ?_
          refine wm_iinc (ls' := [(2, _), (1, _), (0, _)]) 51 rfl dX5_countedPairs_48 rfl (nI_inc _) (by decide) rfl ?_
          refine wm_goto 4 (by decide) dX5_countedPairs_51 ?_
          refine wm_loc (ls2 := [(0, _), (1, _), (2, _)]) [2, 1, 0] rfl ?_
          exact ih (p - (j + 1)) (by omega) (j + 1) rfl (by omega) trivial
        · refine wm_aload_n 28 rfl dX5_countedPairs_27 rfl rfl ?_
          refine wm_getR 31 rfl dX5_countedPairs_28 gf_X5_27_4 rfl rfl ?_
          refine wm_aload_n 32 rfl dX5_countedPairs_31 rfl rfl ?_
          refine wm_getR 35 rfl dX5_countedPairs_32 gf_X5_34_4 rfl rfl ?_
          refine wm_iload_n 36 rfl dX5_countedPairs_35 rfl rfl ?_
          refine wm_iaload 37 rfl dX5_countedPairs_36 rfl (vp_in_nI (by omega) (by omega)) ?_
          rw [nI_clamp (by omega)]
          refine wm_baload 38 rfl dX5_countedPairs_37 rfl (by rw [ey]; exact in24 hy hn) ?_
          refine wm_if_eq 45 41 rfl (by decide) dX5_countedPairs_38 (fun c38 => ?_) (fun c38 => ?_)
          · refine wm_iconst (v := 1) 46 rfl dX5_countedPairs_45 (by decide) ?_
            refine wm_iadd 47 rfl dX5_countedPairs_46 ?_
            first
              | rw [show nI (cq (cpM σ) j) + 0 = nI (cq (cpM σ) (j + 1)) by rw [cq_f (P := (cpM σ)) (by first | exact fun q => c24 q.1 | exact fun q => c38 q.2)]; exact Int32.add_zero _]
              | rw [show nI (cq (cpM σ) j) + 1 = nI (cq (cpM σ) (j + 1)) by rw [cq_t (P := (cpM σ)) (⟨c24, c38⟩)]; exact nI_1 _]
            refine wm_istore_n (ls' := [(1, _), (0, _), (2, _)]) 48 rfl dX5_countedPairs_47 rfl (by decide) rfl ?_
            refine wm_iinc (ls' := [(2, _), (1, _), (0, _)]) 51 rfl dX5_countedPairs_48 rfl (nI_inc _) (by decide) rfl ?_
            refine wm_goto 4 (by decide) dX5_countedPairs_51 ?_
            refine wm_loc (ls2 := [(0, _), (1, _), (2, _)]) [2, 1, 0] rfl ?_
            exact ih (p - (j + 1)) (by omega) (j + 1) rfl (by omega) trivial
          · refine wm_iconst (v := 0) 42 rfl dX5_countedPairs_41 (by decide) ?_
            refine wm_goto 46 (by decide) dX5_countedPairs_42 ?_
            refine wm_iadd 47 rfl dX5_countedPairs_46 ?_
            first
              | rw [show nI (cq (cpM σ) j) + 0 = nI (cq (cpM σ) (j + 1)) by rw [cq_f (P := (cpM σ)) (by first | exact fun q => c24 q.1 | exact fun q => c38 q.2)]; exact Int32.add_zero _]
              | rw [show nI (cq (cpM σ) j) + 1 = nI (cq (cpM σ) (j + 1)) by rw [cq_t (P := (cpM σ)) (⟨c24, c38⟩)]; exact nI_1 _]
            refine wm_istore_n (ls' := [(1, _), (0, _), (2, _)]) 48 rfl dX5_countedPairs_47 rfl (by decide) rfl ?_
            refine wm_iinc (ls' := [(2, _), (1, _), (0, _)]) 51 rfl dX5_countedPairs_48 rfl (nI_inc _) (by decide) rfl ?_
            refine wm_goto 4 (by decide) dX5_countedPairs_51 ?_
            refine wm_loc (ls2 := [(0, _), (1, _), (2, _)]) [2, 1, 0] rfl ?_
            exact ih (p - (j + 1)) (by omega) (j + 1) rfl (by omega) trivial
  refine wm_iconst (v := 0) 1 rfl dX5_countedPairs_0 (by decide) ?_
  refine wm_istore_n (ls' := [(1, _), (0, _)]) 2 rfl dX5_countedPairs_1 rfl (by decide) rfl ?_
  refine wm_iconst (v := 0) 3 rfl dX5_countedPairs_2 (by decide) ?_
  refine wm_istore_n (ls' := [(2, _), (1, _), (0, _)]) 4 rfl dX5_countedPairs_3 rfl (by decide) rfl ?_
  refine wm_loc (ls2 := [(0, _), (1, _), (2, _)]) [2, 1, 0] rfl ?_
  exact lp p 0 rfl (Nat.zero_le _) trivial
theorem k_X5_thingMany (l : Launch) {σ τ : Sg} (hs : stM σ τ) {n p : Nat} (hI : mI σ n) (hP : mP σ p) (hQ : mQ σ n p) : cMi l yX5_thingMany cX5_thingMany 3 .int 4 Lm [.ref 0] τ (fun v σ1 => fM σ n p τ σ1 ∧ v = nI (cq (fun h => mbM σ n (gM σ n p 2) h h) n)) := by
  have h24 := hI.2
  refine zMet_of (by decide +kernel) (Nat.le_of_ble_eq_true rfl) (fun D cT ad sz => ?_)
  show Wm (fun _ _ => True) l (rmh 4) RX5 cX5_thingMany 3 (some .int) D cT ad Lm (zA ad Lm.length sz) (zZ (fun D cT ad L9 sz => zQi D cT ad L9 sz (fun v σ1 => fM σ n p τ σ1 ∧ v = nI (cq (fun h => mbM σ n (gM σ n p 2) h h) n))) D cT ad Lm sz) [] 0 (lv_args 0 [.ref 0]) [] τ 0 0
  refine wm_aload_n 1 rfl dX5_thingMany_0 rfl rfl ?_
  refine wm_iconst (v := 2) 2 rfl dX5_thingMany_1 (by decide) ?_
  refine wm_callVv 5 rfl dX5_thingMany_2 (k_finds2 l hs hI hP hQ) ca_X5_finds cv_X5_finds rfl aw_18_23 rfl rfl ⟨Nat.le_of_ble_eq_true rfl, Nat.le_of_ble_eq_true rfl⟩ (Nat.le_of_ble_eq_true rfl) ⟨Nat.zero_le _, Nat.zero_le _⟩ ?_
  rintro υ hF
  have hsυ := hF.2.1
  have hgυ := hF.2.2.2
  have hIυ := hsυ.mI hI
  refine wm_iconst (v := 0) 6 rfl dX5_thingMany_5 (by decide) ?_
  refine wm_istore_n (ls' := [(1, _), (0, _)]) 7 rfl dX5_thingMany_6 rfl (by decide) rfl ?_
  refine wm_iconst (v := 0) 8 rfl dX5_thingMany_7 (by decide) ?_
  refine wm_istore_n (ls' := [(2, _), (1, _), (0, _)]) 9 rfl dX5_thingMany_8 rfl (by decide) rfl ?_
  refine wm_loc (ls2 := [(0, _), (1, _), (2, _)]) [2, 1, 0] rfl ?_
  have lp : ∀ (q9 j : Nat), n - j = q9 → j ≤ n → True → Wm (fun _ _ => True) l (rmh 4) RX5 cX5_thingMany 3 (some .int) D cT ad Lm (zA ad Lm.length sz) (zZ (fun D cT ad L9 sz => zQi D cT ad L9 sz (fun v σ1 => fM σ n p τ σ1 ∧ v = nI (cq (fun h => mbM σ n (gM σ n p 2) h h) n))) D cT ad Lm sz) [] 9 [(0, .ref 0), (1, .int (nI (cq (fun h => mbM σ n (gM σ n p 2) h h) j))), (2, .int (nI j))] [] υ 0 0 := by
    intro q9
    induction q9 using Nat.strongRecOn with
    | ind q9 ih =>
      intro j  hmj hjj hinv
      refine wm_iload_n 10 rfl dX5_thingMany_9 rfl rfl ?_
      refine wm_aload_n 11 rfl dX5_thingMany_10 rfl rfl ?_
      refine wm_getI 14 rfl dX5_thingMany_11 gf_X5_56_4 rfl rfl ?_
      refine wm_icmp_ge 49 17 rfl (by decide) dX5_thingMany_14 (fun c14 => ?_) (fun c14 => ?_)
      · rw [hIυ.1] at c14
        have gj : j = n := by have := le_of_nI c14 (by omega) (by omega); omega
        refine wm_iload_n 50 rfl dX5_thingMany_49 rfl rfl ?_
        exact wm_iret dX5_thingMany_50 (by first | rfl | exact zp_nar) ⟨hF, by rw [gj]⟩
      · rw [hIυ.1] at c14
        have gj : j < n := lt_of_nnI c14 (by omega) (by omega)
        refine wm_iload_n 18 rfl dX5_thingMany_17 rfl rfl ?_
        refine wm_aload_n 19 rfl dX5_thingMany_18 rfl rfl ?_
        refine wm_iload_n 20 rfl dX5_thingMany_19 rfl rfl ?_
        refine wm_callVi (ty := .boolean) 23 rfl dX5_thingMany_20 (k_X5_counts l hsυ (r := j) (by omega)) ca_X5_counts cv_X5_counts rfl aw_19_11 rfl rfl ⟨Nat.le_of_ble_eq_true rfl, Nat.le_of_ble_eq_true rfl⟩ (Nat.le_of_ble_eq_true rfl) ⟨Nat.zero_le _, Nat.zero_le _⟩ ?_
        rintro r9 σ9 ⟨rfl, rfl⟩
        refine wm_if_eq 40 26 rfl (by decide) dX5_thingMany_23 (fun c23 => ?_) (fun c23 => ?_)
        · refine wm_iconst (v := 0) 41 rfl dX5_thingMany_40 (by decide) ?_
          refine wm_iadd 42 rfl dX5_thingMany_41 ?_
          first
            | rw [show nI (cq (fun h => mbM σ n (gM σ n p 2) h h) j) + 0 = nI (cq (fun h => mbM σ n (gM σ n p 2) h h) (j + 1)) by rw [cq_f (P := (fun h => mbM σ n (gM σ n p 2) h h)) (by first | exact fun q => zp_0.mp c23 q.1.2 | exact fun q => c33 (by rw [q.2]))]; exact Int32.add_zero _]
            | rw [show nI (cq (fun h => mbM σ n (gM σ n p 2) h h) j) + 1 = nI (cq (fun h => mbM σ n (gM σ n p 2) h h) (j + 1)) by rw [cq_t (P := (fun h => mbM σ n (gM σ n p 2) h h)) (⟨⟨gj, zp_n.mp c23⟩, eq_of_nI c33 (by omega) (by omega)⟩)]; exact nI_1 _]
          refine wm_istore_n (ls' := [(1, _), (0, _), (2, _)]) 43 rfl dX5_thingMany_42 rfl (by decide) rfl ?_
          refine wm_iinc (ls' := [(2, _), (1, _), (0, _)]) 46 rfl dX5_thingMany_43 rfl (nI_inc _) (by decide) rfl ?_
          refine wm_goto 9 (by decide) dX5_thingMany_46 ?_
          refine wm_loc (ls2 := [(0, _), (1, _), (2, _)]) [2, 1, 0] rfl ?_
          exact ih (n - (j + 1)) (by omega) (j + 1) rfl (by omega) trivial
        · refine wm_aload_n 27 rfl dX5_thingMany_26 rfl rfl ?_
          refine wm_getR 30 rfl dX5_thingMany_27 gf_X5_41_4 rfl rfl ?_
          refine wm_iload_n 31 rfl dX5_thingMany_30 rfl rfl ?_
          refine wm_iaload 32 rfl dX5_thingMany_31 rfl (in24 gj h24) ?_
          refine wm_iload_n 33 rfl dX5_thingMany_32 rfl rfl ?_
          refine wm_icmp_ne 40 36 rfl (by decide) dX5_thingMany_33 (fun c33 => ?_) (fun c33 => ?_)
          · have hgj := (hgυ j gj).2
            rw [nI_clamp (by omega), (hgυ j gj).1] at c33
            refine wm_iconst (v := 0) 41 rfl dX5_thingMany_40 (by decide) ?_
            refine wm_iadd 42 rfl dX5_thingMany_41 ?_
            first
              | rw [show nI (cq (fun h => mbM σ n (gM σ n p 2) h h) j) + 0 = nI (cq (fun h => mbM σ n (gM σ n p 2) h h) (j + 1)) by rw [cq_f (P := (fun h => mbM σ n (gM σ n p 2) h h)) (by first | exact fun q => zp_0.mp c23 q.1.2 | exact fun q => c33 (by rw [q.2]))]; exact Int32.add_zero _]
              | rw [show nI (cq (fun h => mbM σ n (gM σ n p 2) h h) j) + 1 = nI (cq (fun h => mbM σ n (gM σ n p 2) h h) (j + 1)) by rw [cq_t (P := (fun h => mbM σ n (gM σ n p 2) h h)) (⟨⟨gj, zp_n.mp c23⟩, eq_of_nI c33 (by omega) (by omega)⟩)]; exact nI_1 _]
            refine wm_istore_n (ls' := [(1, _), (0, _), (2, _)]) 43 rfl dX5_thingMany_42 rfl (by decide) rfl ?_
            refine wm_iinc (ls' := [(2, _), (1, _), (0, _)]) 46 rfl dX5_thingMany_43 rfl (nI_inc _) (by decide) rfl ?_
            refine wm_goto 9 (by decide) dX5_thingMany_46 ?_
            refine wm_loc (ls2 := [(0, _), (1, _), (2, _)]) [2, 1, 0] rfl ?_
            exact ih (n - (j + 1)) (by omega) (j + 1) rfl (by omega) trivial
          · have hgj := (hgυ j gj).2
            rw [nI_clamp (by omega), (hgυ j gj).1] at c33
            refine wm_iconst (v := 1) 37 rfl dX5_thingMany_36 (by decide) ?_
            refine wm_goto 41 (by decide) dX5_thingMany_37 ?_
            refine wm_iadd 42 rfl dX5_thingMany_41 ?_
            first
              | rw [show nI (cq (fun h => mbM σ n (gM σ n p 2) h h) j) + 0 = nI (cq (fun h => mbM σ n (gM σ n p 2) h h) (j + 1)) by rw [cq_f (P := (fun h => mbM σ n (gM σ n p 2) h h)) (by first | exact fun q => zp_0.mp c23 q.1.2 | exact fun q => c33 (by rw [q.2]))]; exact Int32.add_zero _]
              | rw [show nI (cq (fun h => mbM σ n (gM σ n p 2) h h) j) + 1 = nI (cq (fun h => mbM σ n (gM σ n p 2) h h) (j + 1)) by rw [cq_t (P := (fun h => mbM σ n (gM σ n p 2) h h)) (⟨⟨gj, zp_n.mp c23⟩, eq_of_nI c33 (by omega) (by omega)⟩)]; exact nI_1 _]
            refine wm_istore_n (ls' := [(1, _), (0, _), (2, _)]) 43 rfl dX5_thingMany_42 rfl (by decide) rfl ?_
            refine wm_iinc (ls' := [(2, _), (1, _), (0, _)]) 46 rfl dX5_thingMany_43 rfl (nI_inc _) (by decide) rfl ?_
            refine wm_goto 9 (by decide) dX5_thingMany_46 ?_
            refine wm_loc (ls2 := [(0, _), (1, _), (2, _)]) [2, 1, 0] rfl ?_
            exact ih (n - (j + 1)) (by omega) (j + 1) rfl (by omega) trivial
  exact lp n 0 rfl (Nat.zero_le _) trivial
theorem k_X5_lastOf (l : Launch) {σ τ : Sg} (hs : stM σ τ) {n : Nat} (hI : mI σ n) {g : Nat → Nat} (hg : lab τ 9 n g) {sn : Nat → Nat} {d L h : Nat} (hD : cDM σ n sn d L) (hh : h < n) (hm : ∃ r, r < n ∧ mbM σ n g h r) : cMi l yX5_lastOf cX5_lastOf 4 .int 2 Lm [.ref 0, .int (nI h)] τ (pP τ (nI (lsM σ n g sn h))) := by
  have h24 := hI.2
  refine zMet_of (by decide +kernel) (Nat.le_of_ble_eq_true rfl) (fun D cT ad sz => ?_)
  show Wm (fun _ _ => True) l (rmh 2) RX5 cX5_lastOf 4 (some .int) D cT ad Lm (zA ad Lm.length sz) (zZ (fun D cT ad L9 sz => zQi D cT ad L9 sz (pP τ (nI (lsM σ n g sn h)))) D cT ad Lm sz) [] 0 (lv_args 0 [.ref 0, .int (nI h)]) [] τ 0 0
  have lp : ∀ (q9 j : Nat) (v : Int32), n - j = q9 → j ≤ n → lsI σ n g sn h j v → Wm (fun _ _ => True) l (rmh 2) RX5 cX5_lastOf 4 (some .int) D cT ad Lm (zA ad Lm.length sz) (zZ (fun D cT ad L9 sz => zQi D cT ad L9 sz (pP τ (nI (lsM σ n g sn h)))) D cT ad Lm sz) [] 4 [(0, .ref 0), (1, .int (nI h)), (2, .int v), (3, .int (nI j))] [] τ 0 0 := by
    intro q9
    induction q9 using Nat.strongRecOn with
    | ind q9 ih =>
      intro j v hmj hjj hinv
      refine wm_iload_n 5 rfl dX5_lastOf_4 rfl rfl ?_
      refine wm_aload_n 6 rfl dX5_lastOf_5 rfl rfl ?_
      refine wm_getI 9 rfl dX5_lastOf_6 gf_X5_56_4 rfl rfl ?_
      refine wm_icmp_ge 42 12 rfl (by decide) dX5_lastOf_9 (fun c9 => ?_) (fun c9 => ?_)
      · rw [(hs.mI hI).1] at c9
        have gj : j = n := by have := le_of_nI c9 (by omega) (by omega); omega
        refine wm_iload_n 43 rfl dX5_lastOf_42 rfl rfl ?_
        exact wm_iret dX5_lastOf_43 (by first | rfl | exact zp_nar) (by
  subst gj
  obtain ⟨r, hr, h1⟩ := hm
  rcases hinv with ⟨-, q⟩ | ⟨q, -⟩
  · exact absurd h1 (q r hr)
  · exact ⟨rfl, q.symm⟩)
      · rw [(hs.mI hI).1] at c9
        have gj : j < n := lt_of_nnI c9 (by omega) (by omega)
        refine wm_aload_n 13 rfl dX5_lastOf_12 rfl rfl ?_
        refine wm_iload_n 14 rfl dX5_lastOf_13 rfl rfl ?_
        refine wm_iload_n 15 rfl dX5_lastOf_14 rfl rfl ?_
        refine wm_callVi (ty := .boolean) 18 rfl dX5_lastOf_15 (k_X5_isOf l hs h24 hg gj hh) ca_X5_isOf cv_X5_isOf rfl aw_22_7 rfl rfl ⟨Nat.le_of_ble_eq_true rfl, Nat.le_of_ble_eq_true rfl⟩ (Nat.le_of_ble_eq_true rfl) ⟨Nat.zero_le _, Nat.zero_le _⟩ ?_
        rintro r9 σ9 ⟨rfl, rfl⟩
        refine wm_if_eq 34 21 rfl (by decide) dX5_lastOf_18 (fun c18 => ?_) (fun c18 => ?_)
        · refine wm_iload_n 35 rfl dX5_lastOf_34 rfl rfl ?_
          refine wm_istore_n (ls' := [(2, _), (0, _), (1, _), (3, _)]) 36 rfl dX5_lastOf_35 rfl (by decide) rfl ?_
          refine wm_iinc (ls' := [(3, _), (2, _), (0, _), (1, _)]) 39 rfl dX5_lastOf_36 rfl (nI_inc _) (by decide) rfl ?_
          refine wm_goto 4 (by decide) dX5_lastOf_39 ?_
          refine wm_loc (ls2 := [(0, _), (1, _), (2, _), (3, _)]) [2, 3, 1, 0] rfl ?_
          first
            | exact ih (n - (j + 1)) (by omega) (j + 1) _ rfl (by omega) (lsI_skip hinv (zp_0.mp c18))
            | exact ih (n - (j + 1)) (by omega) (j + 1) _ rfl (by omega) (lsI_take hD gj hinv (zp_n.mp c18))
        · refine wm_iload_n 22 rfl dX5_lastOf_21 rfl rfl ?_
          refine wm_aload_n 23 rfl dX5_lastOf_22 rfl rfl ?_
          refine wm_getR 26 rfl dX5_lastOf_23 gf_X5_16_4 rfl rfl ?_
          refine wm_iload_n 27 rfl dX5_lastOf_26 rfl rfl ?_
          refine wm_iaload 28 rfl dX5_lastOf_27 rfl (in24 gj h24) ?_
          rw [nI_clamp (by omega), hs.row (a := 3) (by decide) (by decide) (by decide), (hD.1 j gj).1]
          refine wm_max 31 rfl dX5_lastOf_28 aw_32_7 aw_16_22 aw_16_19 aw_16_23 ⟨Nat.le_of_ble_eq_true rfl, Nat.le_of_ble_eq_true rfl⟩ (Nat.le_of_ble_eq_true rfl) ⟨Nat.zero_le _, Nat.zero_le _⟩ ?_
          refine wm_goto 35 (by decide) dX5_lastOf_31 ?_
          refine wm_istore_n (ls' := [(2, _), (0, _), (1, _), (3, _)]) 36 rfl dX5_lastOf_35 rfl (by decide) rfl ?_
          refine wm_iinc (ls' := [(3, _), (2, _), (0, _), (1, _)]) 39 rfl dX5_lastOf_36 rfl (nI_inc _) (by decide) rfl ?_
          refine wm_goto 4 (by decide) dX5_lastOf_39 ?_
          refine wm_loc (ls2 := [(0, _), (1, _), (2, _), (3, _)]) [2, 3, 1, 0] rfl ?_
          first
            | exact ih (n - (j + 1)) (by omega) (j + 1) _ rfl (by omega) (lsI_skip hinv (zp_0.mp c18))
            | exact ih (n - (j + 1)) (by omega) (j + 1) _ rfl (by omega) (lsI_take hD gj hinv (zp_n.mp c18))
  refine wm_iconst (v := (-1)) 1 rfl dX5_lastOf_0 (by decide) ?_
  refine wm_istore_n (ls' := [(2, _), (0, _), (1, _)]) 2 rfl dX5_lastOf_1 rfl (by decide) rfl ?_
  refine wm_iconst (v := 0) 3 rfl dX5_lastOf_2 (by decide) ?_
  refine wm_istore_n (ls' := [(3, _), (2, _), (0, _), (1, _)]) 4 rfl dX5_lastOf_3 rfl (by decide) rfl ?_
  refine wm_loc (ls2 := [(0, _), (1, _), (2, _), (3, _)]) [2, 3, 1, 0] rfl ?_
  exact lp n 0 (-1) rfl (Nat.zero_le _) (Or.inl ⟨rfl, fun r hr => absurd hr (Nat.not_lt_zero r)⟩)
theorem k_X5_weightOf (l : Launch) {σ τ : Sg} (hs : stM σ τ) {n : Nat} (h24 : n ≤ 24) (hS : sM σ n) {a : Nat} (ha : a < n) : cMi l yX5_weightOf cX5_weightOf 2 .int 0 Lm [.ref 0, .int (nI a)] τ (pP τ (wg (enM σ) a (σ 0 12))) := by
  refine zMet_of (by decide +kernel) (Nat.le_of_ble_eq_true rfl) (fun D cT ad sz => ?_)
  show Wm (fun _ _ => True) l (rmh 0) RX5 cX5_weightOf 2 (some .int) D cT ad Lm (zA ad Lm.length sz) (zZ (fun D cT ad L9 sz => zQi D cT ad L9 sz (pP τ (wg (enM σ) a (σ 0 12)))) D cT ad Lm sz) [] 0 (lv_args 0 [.ref 0, .int (nI a)]) [] τ 0 0
  refine wm_aload_n 1 rfl dX5_weightOf_0 rfl rfl ?_
  refine wm_getR 4 rfl dX5_weightOf_1 gf_X5_9_4 rfl rfl ?_
  refine wm_aload_n 5 rfl dX5_weightOf_4 rfl rfl ?_
  refine wm_getR 8 rfl dX5_weightOf_5 gf_X5_13_4 rfl rfl ?_
  refine wm_iload_n 9 rfl dX5_weightOf_8 rfl rfl ?_
  refine wm_iaload 10 rfl dX5_weightOf_9 rfl (in24 ha h24) ?_
  rw [nI_clamp (by omega), hs.row (a := 2) (by decide) (by decide) (by decide)]
  obtain ⟨s, hs4, es⟩ : ∃ s, s < 4 ∧ σ 2 a = nI s := hS a ha
  refine wm_iaload 11 rfl dX5_weightOf_10 rfl (by rw [es]; exact vp_in_nI hs4 (by omega)) ?_
  refine wm_aload_n 12 rfl dX5_weightOf_11 rfl rfl ?_
  refine wm_getI 15 rfl dX5_weightOf_12 gf_X5_73_4 rfl rfl ?_
  refine wm_aload_n 16 rfl dX5_weightOf_15 rfl rfl ?_
  refine wm_getR 19 rfl dX5_weightOf_16 gf_X5_16_4 rfl rfl ?_
  refine wm_iload_n 20 rfl dX5_weightOf_19 rfl rfl ?_
  refine wm_iaload 21 rfl dX5_weightOf_20 rfl (in24 ha h24) ?_
  rw [nI_clamp (by omega)]
  refine wm_isub 22 rfl dX5_weightOf_21 ?_
  refine wm_bipush (v := 10) 24 rfl dX5_weightOf_22 (by decide) ?_
  refine wm_idiv 25 rfl dX5_weightOf_24 (by decide) ?_
  refine wm_isub 26 rfl dX5_weightOf_25 ?_
  exact wm_iret dX5_weightOf_26 (by first | rfl | exact zp_nar) ⟨rfl, by rw [hs.row (a := 1) (by decide) (by decide) (by decide), hs.row (a := 3) (by decide) (by decide) (by decide), hs 0 12 (by decide) (by decide) (fun _ => by decide)]; rfl⟩
theorem k_X5_isAhead (l : Launch) {σ τ : Sg} (hs : stM σ τ) {n : Nat} (h24 : n ≤ 24) (hS : sM σ n) {a b : Nat} (ha : a < n) (hb : b < n) : cMi l yX5_isAhead cX5_isAhead 3 .boolean 1 Lm [.ref 0, .int (nI a), .int (nI b)] τ (pP τ (zp (ahM σ a b))) := by
  refine zMet_of (by decide +kernel) (Nat.le_of_ble_eq_true rfl) (fun D cT ad sz => ?_)
  show Wm (fun _ _ => True) l (rmh 1) RX5 cX5_isAhead 3 (some .boolean) D cT ad Lm (zA ad Lm.length sz) (zZ (fun D cT ad L9 sz => zQi D cT ad L9 sz (pP τ (zp (ahM σ a b)))) D cT ad Lm sz) [] 0 (lv_args 0 [.ref 0, .int (nI a), .int (nI b)]) [] τ 0 0
  refine wm_aload_n 1 rfl dX5_isAhead_0 rfl rfl ?_
  refine wm_iload_n 2 rfl dX5_isAhead_1 rfl rfl ?_
  refine wm_callVi (ty := .int) 5 rfl dX5_isAhead_2 (k_X5_weightOf l hs h24 hS ha) ca_X5_weightOf cv_X5_weightOf rfl aw_27_7 rfl rfl ⟨Nat.le_of_ble_eq_true rfl, Nat.le_of_ble_eq_true rfl⟩ (Nat.le_of_ble_eq_true rfl) ⟨Nat.zero_le _, Nat.zero_le _⟩ ?_
  rintro r9 σ9 ⟨rfl, rfl⟩
  refine wm_aload_n 6 rfl dX5_isAhead_5 rfl rfl ?_
  refine wm_iload_n 7 rfl dX5_isAhead_6 rfl rfl ?_
  refine wm_callVi (ty := .int) 10 rfl dX5_isAhead_7 (k_X5_weightOf l hs h24 hS hb) ca_X5_weightOf cv_X5_weightOf rfl aw_27_7 rfl rfl ⟨Nat.le_of_ble_eq_true rfl, Nat.le_of_ble_eq_true rfl⟩ (Nat.le_of_ble_eq_true rfl) ⟨Nat.zero_le _, Nat.zero_le _⟩ ?_
  rintro r9 σ9 ⟨rfl, rfl⟩
  refine wm_icmp_eq 32 13 rfl (by decide) dX5_isAhead_10 (fun c10 => ?_) (fun c10 => ?_)
  · refine wm_aload_n 33 rfl dX5_isAhead_32 rfl rfl ?_
    refine wm_getR 36 rfl dX5_isAhead_33 gf_X5_16_4 rfl rfl ?_
    refine wm_iload_n 37 rfl dX5_isAhead_36 rfl rfl ?_
    refine wm_iaload 38 rfl dX5_isAhead_37 rfl (in24 ha h24) ?_
    refine wm_aload_n 39 rfl dX5_isAhead_38 rfl rfl ?_
    refine wm_getR 42 rfl dX5_isAhead_39 gf_X5_16_4 rfl rfl ?_
    refine wm_iload_n 43 rfl dX5_isAhead_42 rfl rfl ?_
    refine wm_iaload 44 rfl dX5_isAhead_43 rfl (in24 hb h24) ?_
    refine wm_icmp_eq 70 47 rfl (by decide) dX5_isAhead_44 (fun c44 => ?_) (fun c44 => ?_)
    · rw [nI_clamp (by omega), nI_clamp (by omega), hs.row (a := 3) (by decide) (by decide) (by decide)] at c44
      refine wm_iload_n 71 rfl dX5_isAhead_70 rfl rfl ?_
      refine wm_iload_n 72 rfl dX5_isAhead_71 rfl rfl ?_
      refine wm_icmp_le 79 75 rfl (by decide) dX5_isAhead_72 (fun c72 => ?_) (fun c72 => ?_)
      · refine wm_iconst (v := 0) 80 rfl dX5_isAhead_79 (by decide) ?_
        exact wm_iret dX5_isAhead_80 (by first | rfl | exact zp_nar) (pP_i (zp_f (by have := le_of_nI c72 (by omega) (by omega); rintro (⟨h, -⟩ | ⟨-, ⟨h, -⟩ | ⟨-, h⟩⟩) <;> first | exact h c10 | exact h c44 | omega)))
      · refine wm_iconst (v := 1) 76 rfl dX5_isAhead_75 (by decide) ?_
        refine wm_goto 80 (by decide) dX5_isAhead_76 ?_
        exact wm_iret dX5_isAhead_80 (by first | rfl | exact zp_nar) (pP_i (zp_t (Or.inr ⟨c10, Or.inr ⟨c44, lt_of_nnI c72 (by omega) (by omega)⟩⟩)))
    · rw [nI_clamp (by omega), nI_clamp (by omega), hs.row (a := 3) (by decide) (by decide) (by decide)] at c44
      refine wm_aload_n 48 rfl dX5_isAhead_47 rfl rfl ?_
      refine wm_getR 51 rfl dX5_isAhead_48 gf_X5_16_4 rfl rfl ?_
      refine wm_iload_n 52 rfl dX5_isAhead_51 rfl rfl ?_
      refine wm_iaload 53 rfl dX5_isAhead_52 rfl (in24 ha h24) ?_
      refine wm_aload_n 54 rfl dX5_isAhead_53 rfl rfl ?_
      refine wm_getR 57 rfl dX5_isAhead_54 gf_X5_16_4 rfl rfl ?_
      refine wm_iload_n 58 rfl dX5_isAhead_57 rfl rfl ?_
      refine wm_iaload 59 rfl dX5_isAhead_58 rfl (in24 hb h24) ?_
      refine wm_icmp_le 66 62 rfl (by decide) dX5_isAhead_59 (fun c59 => ?_) (fun c59 => ?_)
      · rw [nI_clamp (by omega), nI_clamp (by omega), hs.row (a := 3) (by decide) (by decide) (by decide)] at c59
        refine wm_iconst (v := 0) 67 rfl dX5_isAhead_66 (by decide) ?_
        refine wm_goto 80 (by decide) dX5_isAhead_67 ?_
        exact wm_iret dX5_isAhead_80 (by first | rfl | exact zp_nar) (pP_i (zp_f (by rintro (⟨h, -⟩ | ⟨-, ⟨-, h⟩ | ⟨h, -⟩⟩) <;> first | exact h c10 | exact fa_nle c59 h | exact c44 h)))
      · rw [nI_clamp (by omega), nI_clamp (by omega), hs.row (a := 3) (by decide) (by decide) (by decide)] at c59
        refine wm_iconst (v := 1) 63 rfl dX5_isAhead_62 (by decide) ?_
        refine wm_goto 80 (by decide) dX5_isAhead_63 ?_
        exact wm_iret dX5_isAhead_80 (by first | rfl | exact zp_nar) (pP_i (zp_t (Or.inr ⟨c10, Or.inl ⟨c44, fa_nlt c59⟩⟩)))
  · refine wm_aload_n 14 rfl dX5_isAhead_13 rfl rfl ?_
    refine wm_iload_n 15 rfl dX5_isAhead_14 rfl rfl ?_
    refine wm_callVi (ty := .int) 18 rfl dX5_isAhead_15 (k_X5_weightOf l hs h24 hS ha) ca_X5_weightOf cv_X5_weightOf rfl aw_27_7 rfl rfl ⟨Nat.le_of_ble_eq_true rfl, Nat.le_of_ble_eq_true rfl⟩ (Nat.le_of_ble_eq_true rfl) ⟨Nat.zero_le _, Nat.zero_le _⟩ ?_
    rintro r9 σ9 ⟨rfl, rfl⟩
    refine wm_aload_n 19 rfl dX5_isAhead_18 rfl rfl ?_
    refine wm_iload_n 20 rfl dX5_isAhead_19 rfl rfl ?_
    refine wm_callVi (ty := .int) 23 rfl dX5_isAhead_20 (k_X5_weightOf l hs h24 hS hb) ca_X5_weightOf cv_X5_weightOf rfl aw_27_7 rfl rfl ⟨Nat.le_of_ble_eq_true rfl, Nat.le_of_ble_eq_true rfl⟩ (Nat.le_of_ble_eq_true rfl) ⟨Nat.zero_le _, Nat.zero_le _⟩ ?_
    rintro r9 σ9 ⟨rfl, rfl⟩
    refine wm_icmp_le 30 26 rfl (by decide) dX5_isAhead_23 (fun c23 => ?_) (fun c23 => ?_)
    · refine wm_iconst (v := 0) 31 rfl dX5_isAhead_30 (by decide) ?_
      exact wm_iret dX5_isAhead_31 (by first | rfl | exact zp_nar) (pP_i (zp_f (by rintro (⟨-, h⟩ | ⟨h, -⟩) <;> first | exact fa_nle c23 h | exact c10 h)))
    · refine wm_iconst (v := 1) 27 rfl dX5_isAhead_26 (by decide) ?_
      refine wm_goto 31 (by decide) dX5_isAhead_27 ?_
      exact wm_iret dX5_isAhead_31 (by first | rfl | exact zp_nar) (pP_i (zp_t (Or.inl ⟨c10, fa_nlt c23⟩)))
theorem k_X5_isShared (l : Launch) {σ τ : Sg} (hs : stM σ τ) {n : Nat} (hI : mI σ n) {g : Nat → Nat} (hg : lab τ 9 n g) {i q : Nat} (hi : i < 3) (hq : q < 100) : cMi l yX5_isShared cX5_isShared 5 .boolean 1 Lm [.ref 0, .int (nI i), .int (nI q)] τ (pP τ (zp (shq σ n g i q))) := by
  have h24 := hI.2
  refine zMet_of (by decide +kernel) (Nat.le_of_ble_eq_true rfl) (fun D cT ad sz => ?_)
  show Wm (fun _ _ => True) l (rmh 1) RX5 cX5_isShared 5 (some .boolean) D cT ad Lm (zA ad Lm.length sz) (zZ (fun D cT ad L9 sz => zQi D cT ad L9 sz (pP τ (zp (shq σ n g i q)))) D cT ad Lm sz) [] 0 (lv_args 0 [.ref 0, .int (nI i), .int (nI q)]) [] τ 0 0
  have lp : ∀ (q9 j : Nat) (v : Int32), n - j = q9 → j ≤ n → shI σ n g i q j v → Wm (fun _ _ => True) l (rmh 1) RX5 cX5_isShared 5 (some .boolean) D cT ad Lm (zA ad Lm.length sz) (zZ (fun D cT ad L9 sz => zQi D cT ad L9 sz (pP τ (zp (shq σ n g i q)))) D cT ad Lm sz) [] 5 [(0, .ref 0), (1, .int (nI i)), (2, .int (nI q)), (3, .int v), (4, .int (nI j))] [] τ 0 0 := by
    intro q9
    induction q9 using Nat.strongRecOn with
    | ind q9 ih =>
      intro j v hmj hjj hinv
      refine wm_iload 7 rfl dX5_isShared_5 rfl ?_
      refine wm_aload_n 8 rfl dX5_isShared_7 rfl rfl ?_
      refine wm_getI 11 rfl dX5_isShared_8 gf_X5_56_4 rfl rfl ?_
      refine wm_icmp_ge 68 14 rfl (by decide) dX5_isShared_11 (fun c11 => ?_) (fun c11 => ?_)
      · rw [(hs.mI hI).1] at c11
        have gj : j = n := by have := le_of_nI c11 (by omega) (by omega); omega
        refine wm_iconst (v := 0) 69 rfl dX5_isShared_68 (by decide) ?_
        exact wm_iret dX5_isShared_69 (by first | rfl | exact zp_nar) (pP_i (zp_f (by subst gj; exact shI_no hinv)))
      · rw [(hs.mI hI).1] at c11
        have gj : j < n := lt_of_nnI c11 (by omega) (by omega)
        refine wm_aload_n 15 rfl dX5_isShared_14 rfl rfl ?_
        refine wm_iload 17 rfl dX5_isShared_15 rfl ?_
        refine wm_callVi (ty := .boolean) 20 rfl dX5_isShared_17 (k_X5_counts l hs (r := j) (by omega)) ca_X5_counts cv_X5_counts rfl aw_19_11 rfl rfl ⟨Nat.le_of_ble_eq_true rfl, Nat.le_of_ble_eq_true rfl⟩ (Nat.le_of_ble_eq_true rfl) ⟨Nat.zero_le _, Nat.zero_le _⟩ ?_
        rintro r9 σ9 ⟨rfl, rfl⟩
        refine wm_if_eq 62 23 rfl (by decide) dX5_isShared_20 (fun c20 => ?_) (fun c20 => ?_)
        · refine wm_iinc (ls' := [(4, _), (0, _), (1, _), (2, _), (3, _)]) 65 rfl dX5_isShared_62 rfl (nI_inc _) (by decide) rfl ?_
          refine wm_goto 5 (by decide) dX5_isShared_65 ?_
          refine wm_loc (ls2 := [(0, _), (1, _), (2, _), (3, _), (4, _)]) [1, 2, 3, 4, 0] rfl ?_
          first
            | exact ih (n - (j + 1)) (by omega) (j + 1) _ rfl (by omega) (shI_skip hinv (fun q1 _ => absurd q1.2 (zp_0.mp c20)))
            | exact ih (n - (j + 1)) (by omega) (j + 1) _ rfl (by omega) (shI_skip hinv (fun _ q2 => c33 q2))
            | exact ih (n - (j + 1)) (by omega) (j + 1) _ rfl (by omega) (shI_take (fun x hx => by have := (hg x hx).2; omega) hinv ⟨gj, zp_n.mp c20⟩ c33 (Or.inl c38))
            | exact ih (n - (j + 1)) (by omega) (j + 1) _ rfl (by omega) (shI_take (fun x hx => by have := (hg x hx).2; omega) hinv ⟨gj, zp_n.mp c20⟩ c33 (Or.inr c49))
        · refine wm_aload_n 24 rfl dX5_isShared_23 rfl rfl ?_
          refine wm_getR 27 rfl dX5_isShared_24 gf_X5_21_4 rfl rfl ?_
          refine wm_iload 29 rfl dX5_isShared_27 rfl ?_
          refine wm_aaload (r := 11 + j) 30 rfl dX5_isShared_29 rfl (vp_in_nI (by omega) (by omega)) (by rw [nI_clamp (by omega)]) ?_
          refine wm_iload_n 31 rfl dX5_isShared_30 rfl rfl ?_
          refine wm_iaload 32 rfl dX5_isShared_31 (Lm_row (by omega) (by omega)) (vp_in_nI (by omega) (by omega)) ?_
          refine wm_iload_n 33 rfl dX5_isShared_32 rfl rfl ?_
          refine wm_icmp_ne 62 36 rfl (by decide) dX5_isShared_33 (fun c33 => ?_) (fun c33 => ?_)
          · rw [nI_clamp (by omega), hs.row (a := 11 + j) (by omega) (by omega) (by omega)] at c33
            refine wm_iinc (ls' := [(4, _), (0, _), (1, _), (2, _), (3, _)]) 65 rfl dX5_isShared_62 rfl (nI_inc _) (by decide) rfl ?_
            refine wm_goto 5 (by decide) dX5_isShared_65 ?_
            refine wm_loc (ls2 := [(0, _), (1, _), (2, _), (3, _), (4, _)]) [1, 2, 3, 4, 0] rfl ?_
            first
              | exact ih (n - (j + 1)) (by omega) (j + 1) _ rfl (by omega) (shI_skip hinv (fun q1 _ => absurd q1.2 (zp_0.mp c20)))
              | exact ih (n - (j + 1)) (by omega) (j + 1) _ rfl (by omega) (shI_skip hinv (fun _ q2 => c33 q2))
              | exact ih (n - (j + 1)) (by omega) (j + 1) _ rfl (by omega) (shI_take (fun x hx => by have := (hg x hx).2; omega) hinv ⟨gj, zp_n.mp c20⟩ c33 (Or.inl c38))
              | exact ih (n - (j + 1)) (by omega) (j + 1) _ rfl (by omega) (shI_take (fun x hx => by have := (hg x hx).2; omega) hinv ⟨gj, zp_n.mp c20⟩ c33 (Or.inr c49))
          · rw [nI_clamp (by omega), hs.row (a := 11 + j) (by omega) (by omega) (by omega)] at c33
            refine wm_iload_n 37 rfl dX5_isShared_36 rfl rfl ?_
            refine wm_iconst (v := (-1)) 38 rfl dX5_isShared_37 (by decide) ?_
            refine wm_icmp_eq 54 41 rfl (by decide) dX5_isShared_38 (fun c38 => ?_) (fun c38 => ?_)
            · refine wm_aload_n 55 rfl dX5_isShared_54 rfl rfl ?_
              refine wm_getR 58 rfl dX5_isShared_55 gf_X5_41_4 rfl rfl ?_
              refine wm_iload 60 rfl dX5_isShared_58 rfl ?_
              refine wm_iaload 61 rfl dX5_isShared_60 rfl (in24 gj h24) ?_
              rw [nI_clamp (by omega), (hg j gj).1]
              refine wm_istore_n (ls' := [(3, _), (0, _), (1, _), (2, _), (4, _)]) 62 rfl dX5_isShared_61 rfl (by decide) rfl ?_
              refine wm_iinc (ls' := [(4, _), (3, _), (0, _), (1, _), (2, _)]) 65 rfl dX5_isShared_62 rfl (nI_inc _) (by decide) rfl ?_
              refine wm_goto 5 (by decide) dX5_isShared_65 ?_
              refine wm_loc (ls2 := [(0, _), (1, _), (2, _), (3, _), (4, _)]) [2, 3, 4, 1, 0] rfl ?_
              first
                | exact ih (n - (j + 1)) (by omega) (j + 1) _ rfl (by omega) (shI_skip hinv (fun q1 _ => absurd q1.2 (zp_0.mp c20)))
                | exact ih (n - (j + 1)) (by omega) (j + 1) _ rfl (by omega) (shI_skip hinv (fun _ q2 => c33 q2))
                | exact ih (n - (j + 1)) (by omega) (j + 1) _ rfl (by omega) (shI_take (fun x hx => by have := (hg x hx).2; omega) hinv ⟨gj, zp_n.mp c20⟩ c33 (Or.inl c38))
                | exact ih (n - (j + 1)) (by omega) (j + 1) _ rfl (by omega) (shI_take (fun x hx => by have := (hg x hx).2; omega) hinv ⟨gj, zp_n.mp c20⟩ c33 (Or.inr c49))
            · refine wm_aload_n 42 rfl dX5_isShared_41 rfl rfl ?_
              refine wm_getR 45 rfl dX5_isShared_42 gf_X5_41_4 rfl rfl ?_
              refine wm_iload 47 rfl dX5_isShared_45 rfl ?_
              refine wm_iaload 48 rfl dX5_isShared_47 rfl (in24 gj h24) ?_
              refine wm_iload_n 49 rfl dX5_isShared_48 rfl rfl ?_
              refine wm_icmp_eq 54 52 rfl (by decide) dX5_isShared_49 (fun c49 => ?_) (fun c49 => ?_)
              · rw [nI_clamp (by omega), (hg j gj).1] at c49
                refine wm_aload_n 55 rfl dX5_isShared_54 rfl rfl ?_
                refine wm_getR 58 rfl dX5_isShared_55 gf_X5_41_4 rfl rfl ?_
                refine wm_iload 60 rfl dX5_isShared_58 rfl ?_
                refine wm_iaload 61 rfl dX5_isShared_60 rfl (in24 gj h24) ?_
                rw [nI_clamp (by omega), (hg j gj).1]
                refine wm_istore_n (ls' := [(3, _), (0, _), (1, _), (2, _), (4, _)]) 62 rfl dX5_isShared_61 rfl (by decide) rfl ?_
                refine wm_iinc (ls' := [(4, _), (3, _), (0, _), (1, _), (2, _)]) 65 rfl dX5_isShared_62 rfl (nI_inc _) (by decide) rfl ?_
                refine wm_goto 5 (by decide) dX5_isShared_65 ?_
                refine wm_loc (ls2 := [(0, _), (1, _), (2, _), (3, _), (4, _)]) [2, 3, 4, 1, 0] rfl ?_
                first
                  | exact ih (n - (j + 1)) (by omega) (j + 1) _ rfl (by omega) (shI_skip hinv (fun q1 _ => absurd q1.2 (zp_0.mp c20)))
                  | exact ih (n - (j + 1)) (by omega) (j + 1) _ rfl (by omega) (shI_skip hinv (fun _ q2 => c33 q2))
                  | exact ih (n - (j + 1)) (by omega) (j + 1) _ rfl (by omega) (shI_take (fun x hx => by have := (hg x hx).2; omega) hinv ⟨gj, zp_n.mp c20⟩ c33 (Or.inl c38))
                  | exact ih (n - (j + 1)) (by omega) (j + 1) _ rfl (by omega) (shI_take (fun x hx => by have := (hg x hx).2; omega) hinv ⟨gj, zp_n.mp c20⟩ c33 (Or.inr c49))
              · rw [nI_clamp (by omega), (hg j gj).1] at c49
                refine wm_iconst (v := 1) 53 rfl dX5_isShared_52 (by decide) ?_
                exact wm_iret dX5_isShared_53 (by first | rfl | exact zp_nar) (pP_i (zp_t (shI_yes hinv ⟨gj, zp_n.mp c20⟩ c33 c38 c49)))
  refine wm_iconst (v := (-1)) 1 rfl dX5_isShared_0 (by decide) ?_
  refine wm_istore_n (ls' := [(3, _), (0, _), (1, _), (2, _)]) 2 rfl dX5_isShared_1 rfl (by decide) rfl ?_
  refine wm_iconst (v := 0) 3 rfl dX5_isShared_2 (by decide) ?_
  refine wm_istore (ls' := [(4, _), (3, _), (0, _), (1, _), (2, _)]) 5 rfl dX5_isShared_3 (by decide) rfl ?_
  refine wm_loc (ls2 := [(0, _), (1, _), (2, _), (3, _), (4, _)]) [2, 3, 4, 1, 0] rfl ?_
  exact lp n 0 (-1) rfl (Nat.zero_le _) (Or.inl ⟨rfl, fun r hr => absurd hr (Nat.not_lt_zero r)⟩)
