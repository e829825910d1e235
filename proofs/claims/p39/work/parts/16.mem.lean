theorem gf_X4_12_3 : zGF RX4 12 3 0 := ⟨RX4, TX4, 6, "Assetmerge", rfl, zin_X4, by decide, aw_1_18, Or.inl rfl⟩
theorem gf_X4_19_3 : zGF RX4 19 3 1 := ⟨RX4, TX4, 6, "Assetmerge", rfl, zin_X4, by decide, aw_1_22, Or.inl rfl⟩
theorem gf_X4_152_1 : zGF RX4 152 1 0 := ⟨RX2, TX2, 2, "Assetmerge$Joining", rfl, zin_X2, by decide, aw_8_16, Or.inr aw_8_17⟩
theorem ca_X4_isMember : zCal yX4_isMember cX4_isMember 3 (some .boolean) 2 := ⟨aw_8_15, aw_1_2, by decide +kernel, by decide +kernel, by decide +kernel⟩
theorem cv_X4_isMember : zCaV RX4 yX4_isMember := ⟨aw_8_13, aw_8_14⟩
theorem gf_X4_63_0 : zGF RX4 63 0 8 := ⟨RX1, TX1, 10, "Assetmerge$Inventory", rfl, zin_X1, by decide, aw_4_20, Or.inl rfl⟩
theorem gf_X4_88_0 : zGF RX4 88 0 4 := ⟨RX1, TX1, 10, "Assetmerge$Inventory", rfl, zin_X1, by decide, aw_14_6, Or.inl rfl⟩
theorem gf_X4_30_3 : zGF RX4 30 3 3 := ⟨RX4, TX4, 6, "Assetmerge", rfl, zin_X4, by decide, aw_2_4, Or.inl rfl⟩
theorem gf_X4_68_3 : zGF RX4 68 3 4 := ⟨RX4, TX4, 6, "Assetmerge", rfl, zin_X4, by decide, aw_9_11, Or.inl rfl⟩
theorem ca_X1_isAhead : zCal yX1_isAhead cX1_isAhead 6 (some .boolean) 3 := ⟨aw_14_21, aw_1_17, by decide +kernel, by decide +kernel, by decide +kernel⟩
theorem cv_X1_isAhead : zCaV RX1 yX1_isAhead := ⟨aw_14_19, aw_14_20⟩
theorem ca_X4_orderMembers : zCal yX4_orderMembers cX4_orderMembers 5 (some .int) 1 := ⟨aw_14_17, aw_1_2, by decide +kernel, by decide +kernel, by decide +kernel⟩
theorem cv_X4_orderMembers : zCaV RX4 yX4_orderMembers := ⟨aw_14_15, aw_14_16⟩
theorem ca_X4_tellsFact : zCal yX4_tellsFact cX4_tellsFact 4 (some .boolean) 3 := ⟨aw_15_13, aw_1_2, by decide +kernel, by decide +kernel, by decide +kernel⟩
theorem cv_X4_tellsFact : zCaV RX4 yX4_tellsFact := ⟨aw_15_11, aw_15_12⟩
theorem ca_X4_isBeaten : zCal yX4_isBeaten cX4_isBeaten 5 (some .boolean) 3 := ⟨aw_15_17, aw_1_2, by decide +kernel, by decide +kernel, by decide +kernel⟩
theorem cv_X4_isBeaten : zCaV RX4 yX4_isBeaten := ⟨aw_15_15, aw_15_16⟩
theorem vp03 : vp_in 0 3 := vp_in_nI (n := 0) (by decide) (by decide)
theorem vp13 : vp_in 1 3 := vp_in_nI (n := 1) (by decide) (by decide)
theorem vp23 : vp_in 2 3 := vp_in_nI (n := 2) (by decide) (by decide)
/-! MEMBERS: with g the things' numbers that the last step left -/
def mbr (σ : Sg) (n : Nat) (g : Nat → Nat) (h r : Nat) : Prop := hd σ n r ∧ g r = h
noncomputable def sq (P : Nat → Prop) (f : Nat → Nat) : Nat → Nat
  | 0 => 0
  | n + 1 => sq P f n + (if dP (P n) then f n else 0)
theorem sq_t {P : Nat → Prop} {f : Nat → Nat} {n : Nat} (h : P n) : sq P f (n + 1) = sq P f n + f n := by simp [sq, dP_t.mpr h]
theorem dP_f {P : Prop} (h : ¬ P) : dP P = false := by
  cases e : dP P with
  | true => exact absurd (dP_t.mp e) h
  | false => rfl
theorem sq_f {P : Nat → Prop} {f : Nat → Nat} {n : Nat} (h : ¬ P n) : sq P f (n + 1) = sq P f n := by simp [sq, dP_f h]
theorem sq_cong {P Q : Nat → Prop} {f f' : Nat → Nat} : ∀ {n : Nat}, (∀ r, r < n → (P r ↔ Q r)) → (∀ r, r < n → Q r → f r = f' r) → sq P f n = sq Q f' n
  | 0, _, _ => rfl
  | n + 1, h, hf => by
    have ih := sq_cong (P := P) (Q := Q) (f := f) (f' := f') (n := n) (fun r hr => h r (by omega)) (fun r hr => hf r (by omega))
    by_cases hp : P n
    · rw [sq_t hp, sq_t ((h n (by omega)).mp hp), ih, hf n (by omega) ((h n (by omega)).mp hp)]
    · rw [sq_f hp, sq_f (fun q => hp ((h n (by omega)).mpr q)), ih]
noncomputable def mxq (P : Nat → Prop) (f : Nat → Nat) : Nat → Nat
  | 0 => 0
  | n + 1 => if dP (P n) then max (mxq P f n) (f n) else mxq P f n
theorem mxq_t {P : Nat → Prop} {f : Nat → Nat} {n : Nat} (h : P n) : mxq P f (n + 1) = max (mxq P f n) (f n) := by simp [mxq, dP_t.mpr h]
theorem mxq_f {P : Nat → Prop} {f : Nat → Nat} {n : Nat} (h : ¬ P n) : mxq P f (n + 1) = mxq P f n := by simp [mxq, dP_f h]
theorem mxq_le {P : Nat → Prop} {f : Nat → Nat} {d : Nat} : ∀ {n : Nat}, (∀ r, r < n → f r ≤ d) → mxq P f n ≤ d
  | 0, _ => Nat.zero_le _
  | n + 1, h => by
    have ih := mxq_le (P := P) (f := f) (d := d) (n := n) (fun r hr => h r (by omega))
    have := h n (by omega)
    by_cases hp : P n
    · rw [mxq_t hp]; omega
    · rw [mxq_f hp]; exact ih
theorem mxq_cong {P Q : Nat → Prop} {f f' : Nat → Nat} : ∀ {n : Nat}, (∀ r, r < n → (P r ↔ Q r)) → (∀ r, r < n → f r = f' r) → mxq P f n = mxq Q f' n
  | 0, _, _ => rfl
  | n + 1, h, hf => by
    have ih := mxq_cong (P := P) (Q := Q) (f := f) (f' := f') (n := n) (fun r hr => h r (by omega)) (fun r hr => hf r (by omega))
    by_cases hp : P n
    · rw [mxq_t hp, mxq_t ((h n (by omega)).mp hp), ih, hf n (by omega)]
    · rw [mxq_f hp, mxq_f (fun q => hp ((h n (by omega)).mpr q)), ih]
/-- who goes first -/
def ah (σ : Sg) (a b : Nat) : Prop := ahP (wg σ a (σ 0 4)) (wg σ b (σ 0 4)) (σ 4 a) (σ 4 b) a b
theorem i32_tri (a b : Int32) (h : a ≠ b) : a < b ∨ b < a := by
  by_cases q : a ≤ b
  · left
    refine Int32.lt_iff_toInt_lt.mpr ?_
    have h1 := Int32.le_iff_toInt_le.mp q
    have h2 : a.toInt ≠ b.toInt := fun e => h (Int32.toInt_inj.mp e)
    omega
  · exact Or.inr (fa_nlt q)
theorem ah_total {σ : Sg} {a b : Nat} (h : a ≠ b) : ah σ a b ∨ ah σ b a := by
  unfold ah ahP
  by_cases e1 : wg σ a (σ 0 4) = wg σ b (σ 0 4)
  · by_cases e2 : σ 4 a = σ 4 b
    · rcases Nat.lt_or_gt_of_ne h with q | q
      · exact Or.inr (Or.inr ⟨e1.symm, Or.inr ⟨e2.symm, q⟩⟩)
      · exact Or.inl (Or.inr ⟨e1, Or.inr ⟨e2, q⟩⟩)
    · rcases i32_tri _ _ e2 with q | q
      · exact Or.inr (Or.inr ⟨e1.symm, Or.inl ⟨fun e => e2 e.symm, q⟩⟩)
      · exact Or.inl (Or.inr ⟨e1, Or.inl ⟨e2, q⟩⟩)
  · rcases i32_tri _ _ e1 with q | q
    · exact Or.inr (Or.inl ⟨fun e => e1 e.symm, q⟩)
    · exact Or.inl (Or.inl ⟨e1, q⟩)
theorem i32_lt_tr {a b c : Int32} (h1 : a < b) (h2 : b < c) : a < c := Int32.lt_iff_toInt_lt.mpr (by have := Int32.lt_iff_toInt_lt.mp h1; have := Int32.lt_iff_toInt_lt.mp h2; omega)
theorem i32_lt_ne {a b : Int32} (h1 : a < b) : b ≠ a := fun e => by have := Int32.lt_iff_toInt_lt.mp h1; rw [e] at this; omega
theorem ah_trans {σ : Sg} {a b c : Nat} (h1 : ah σ a b) (h2 : ah σ b c) : ah σ a c := by
  unfold ah ahP at *
  rcases h1 with ⟨p1, p2⟩ | ⟨p1, p2⟩
  · rcases h2 with ⟨q1, q2⟩ | ⟨q1, -⟩
    · have := i32_lt_tr q2 p2
      exact Or.inl ⟨i32_lt_ne this, this⟩
    · rw [q1] at p1 p2; exact Or.inl ⟨p1, p2⟩
  · rcases h2 with ⟨q1, q2⟩ | ⟨q1, q2⟩
    · rw [← p1] at q1 q2; exact Or.inl ⟨q1, q2⟩
    · refine Or.inr ⟨p1.trans q1, ?_⟩
      rcases p2 with ⟨a1, a2⟩ | ⟨a1, a2⟩
      · rcases q2 with ⟨b1, b2⟩ | ⟨b1, -⟩
        · have := i32_lt_tr b2 a2
          exact Or.inl ⟨i32_lt_ne this, this⟩
        · rw [b1] at a1 a2; exact Or.inl ⟨a1, a2⟩
      · rcases q2 with ⟨b1, b2⟩ | ⟨b1, b2⟩
        · rw [← a1] at b1 b2; exact Or.inl ⟨b1, b2⟩
        · exact Or.inr ⟨a1.trans b1, by omega⟩
theorem ah_asym {σ : Sg} {a b : Nat} (h1 : ah σ a b) (h2 : ah σ b a) : False := by
  have h := ah_trans h1 h2
  unfold ah ahP at h
  rcases h with ⟨h, -⟩ | ⟨-, ⟨h, -⟩ | ⟨-, h⟩⟩
  · exact h rfl
  · exact h rfl
  · omega
theorem ah_ag {σ τ : Sg} (a b : Nat) (h2 : τ 2 = σ 2) (h3 : τ 3 = σ 3) (h4 : τ 4 = σ 4) (h0 : τ 0 = σ 0) : ah τ a b ↔ ah σ a b := by unfold ah wg; rw [h2, h3, h4, h0]
def tf (σ : Sg) (n : Nat) (g : Nat → Nat) (h f r : Nat) : Prop := mbr σ n g h r ∧ σ (10 + f) r ≠ -1
def bst (σ : Sg) (n : Nat) (g : Nat → Nat) (h f r : Nat) : Prop := tf σ n g h f r ∧ ∀ x, x < n → tf σ n g h f x → x ≠ r → ah σ r x
def bsI (σ : Sg) (n : Nat) (g : Nat → Nat) (h f : Nat) (v : Int32) : Prop := (∃ r, r < n ∧ bst σ n g h f r ∧ v = nI r) ∨ (v = -1 ∧ ∀ r, r < n → ¬ tf σ n g h f r)
/-- the members sorted into the row 14 -/
def OI (σ : Sg) (n : Nat) (g : Nat → Nat) (h j cnt : Nat) (τ : Sg) : Prop := agb 14 σ τ ∧ cnt ≤ j ∧ ∃ p : Nat → Nat, (∀ i, i < cnt → τ 14 i = nI (p i) ∧ p i < j ∧ mbr σ n g h (p i)) ∧ (∀ r, r < j → mbr σ n g h r → ∃ i, i < cnt ∧ p i = r) ∧ ∀ i i2, i < i2 → i2 < cnt → ah σ (p i) (p i2)
def OJ (σ : Sg) (n : Nat) (g : Nat → Nat) (h j cnt q : Nat) (p : Nat → Nat) (τ : Sg) : Prop := agb 14 σ τ ∧ (∀ i, i < q → τ 14 i = nI (p i)) ∧ (∀ i, q ≤ i → i < cnt → τ 14 (i + 1) = nI (p i)) ∧ ∀ i, q ≤ i → i < cnt → ah σ j (p i)
theorem OJ_shift {σ τ : Sg} {n : Nat} {g : Nat → Nat} {h j cnt q : Nat} {p : Nat → Nat} (hJ : OJ σ n g h j cnt (q + 1) p τ) (hq : q < cnt) (ha : ah σ j (p q)) : OJ σ n g h j cnt q p (zu τ 14 (q + 1) (τ 14 q)) := by
  obtain ⟨h0, h1, h2, h3⟩ := hJ
  refine ⟨fun a ha => by rw [zu_ne _ _ _ ha]; exact h0 a ha, fun i hi => ?_, fun i hi hc => ?_, fun i hi hc => ?_⟩
  · rw [zu_at]; simp only [upd]; rw [if_neg (by omega)]; exact h1 i (by omega)
  · rw [zu_at]; simp only [upd]
    by_cases e : i = q
    · subst e; rw [if_pos rfl]; exact h1 i (by omega)
    · rw [if_neg (by omega)]; exact h2 i (by omega) hc
  · by_cases e : i = q
    · subst e; exact ha
    · exact h3 i (by omega) hc
theorem OJ_put {σ τ τ0 : Sg} {n : Nat} {g : Nat → Nat} {h j cnt q : Nat} {p : Nat → Nat} (hJ : OJ σ n g h j cnt q p τ) (hq : q ≤ cnt) (hcj : cnt ≤ j) (hm : mbr σ n g h j)
    (hp : (∀ i, i < cnt → τ0 14 i = nI (p i) ∧ p i < j ∧ mbr σ n g h (p i)) ∧ (∀ r, r < j → mbr σ n g h r → ∃ i, i < cnt ∧ p i = r) ∧ ∀ i i2, i < i2 → i2 < cnt → ah σ (p i) (p i2)) (hx : q = 0 ∨ ¬ ah σ j (p (q - 1))) : OI σ n g h (j + 1) (cnt + 1) (zu τ 14 q (nI j)) := by
  obtain ⟨h0, h1, h2, h3⟩ := hJ
  obtain ⟨p1, p2, p3⟩ := hp
  have hlow : ∀ i, i < q → ah σ (p i) j := by
    intro i hi
    rcases hx with hx | hx
    · omega
    · have hl : ah σ (p (q - 1)) j := by
        have hne : p (q - 1) ≠ j := by have := (p1 (q - 1) (by omega)).2.1; omega
        rcases ah_total (σ := σ) hne with e | e
        · exact e
        · exact absurd e hx
      by_cases e : i = q - 1
      · rw [e]; exact hl
      · exact ah_trans (p3 i (q - 1) (by omega) (by omega)) hl
  refine ⟨fun a ha => by rw [zu_ne _ _ _ ha]; exact h0 a ha, by omega, fun i => if i < q then p i else if i = q then j else p (i - 1), fun i hi => ?_, fun r hr hmr => ?_, fun i i2 hi hi2 => ?_⟩
  · rw [zu_at]
    simp only [upd]
    by_cases e1 : i < q
    · have := p1 i (by omega)
      rw [if_neg (by omega), if_pos e1]
      exact ⟨h1 i e1, by omega, this.2.2⟩
    · rw [if_neg e1]
      by_cases e2 : i = q
      · rw [if_pos e2, if_pos e2]; exact ⟨rfl, by omega, hm⟩
      · have := p1 (i - 1) (by omega)
        have h9 := h2 (i - 1) (by omega) (by omega)
        rw [show i - 1 + 1 = i by omega] at h9
        rw [if_neg e2, if_neg e2]
        exact ⟨h9, by omega, this.2.2⟩
  · by_cases e : r = j
    · exact ⟨q, by omega, by simp [e]⟩
    · obtain ⟨i, hi, rfl⟩ := p2 r (by omega) hmr
      by_cases e1 : i < q
      · exact ⟨i, by omega, by simp [e1]⟩
      · refine ⟨i + 1, by omega, ?_⟩
        show (if i + 1 < q then _ else if i + 1 = q then _ else p (i + 1 - 1)) = _
        rw [if_neg (by omega), if_neg (by omega)]; rfl
  · show ah σ (if i < q then p i else if i = q then j else p (i - 1)) (if i2 < q then p i2 else if i2 = q then j else p (i2 - 1))
    by_cases e1 : i < q
    · rw [if_pos e1]
      by_cases f1 : i2 < q
      · rw [if_pos f1]; exact p3 i i2 hi (by omega)
      · rw [if_neg f1]
        by_cases f2 : i2 = q
        · rw [if_pos f2]; exact hlow i e1
        · rw [if_neg f2]; exact p3 i (i2 - 1) (by omega) (by omega)
    · rw [if_neg e1, if_neg (show ¬ i2 < q by omega), if_neg (show ¬ i2 = q by omega)]
      by_cases e2 : i = q
      · rw [if_pos e2]; exact h3 (i2 - 1) (by omega) (by omega)
      · rw [if_neg e2]; exact p3 (i - 1) (i2 - 1) (by omega) (by omega)
theorem OI_skip {σ τ : Sg} {n : Nat} {g : Nat → Nat} {h j cnt : Nat} (hO : OI σ n g h j cnt τ) (hm : ¬ mbr σ n g h j) : OI σ n g h (j + 1) cnt τ := by
  obtain ⟨h0, hc, p, p1, p2, p3⟩ := hO
  refine ⟨h0, by omega, p, fun i hi => ⟨(p1 i hi).1, by have := (p1 i hi).2.1; omega, (p1 i hi).2.2⟩, fun r hr hmr => ?_, p3⟩
  by_cases e : r = j
  · subst e; exact absurd hmr hm
  · exact p2 r (by omega) hmr
theorem nI_dec (n : Nat) : nI (n + 1) + Int32.ofInt (-1) = nI n := pk_m1 n
/-- first, of those with a fact, in the sorted row -/
theorem OI_first {σ τ : Sg} {n : Nat} {g : Nat → Nat} {h f cnt i : Nat} {p : Nat → Nat} (p1 : ∀ i, i < cnt → τ 14 i = nI (p i) ∧ p i < n ∧ mbr σ n g h (p i)) (p2 : ∀ r, r < n → mbr σ n g h r → ∃ i, i < cnt ∧ p i = r) (p3 : ∀ i i2, i < i2 → i2 < cnt → ah σ (p i) (p i2)) (hi : i < cnt) (hf : σ (10 + f) (p i) ≠ -1) (hno : ∀ j, j < i → σ (10 + f) (p j) = -1) : bst σ n g h f (p i) := by
  refine ⟨⟨(p1 i hi).2.2, hf⟩, fun x hx ht hne => ?_⟩
  obtain ⟨i2, hi2, rfl⟩ := p2 x hx ht.1
  rcases Nat.lt_trichotomy i i2 with q | q | q
  · exact p3 i i2 q hi2
  · subst q; exact absurd rfl hne
  · exact absurd (hno i2 q) ht.2
theorem k_X4_isMember (l : Launch) {σ : Sg} {n : Nat} (hI : cI σ n) {g : Nat → Nat} (hg : lab σ 19 n g) {r h : Nat} (hr : r < n) (hh : h < 2 ^ 31) : cMi l yX4_isMember cX4_isMember 3 .boolean 2 Lc [.ref 0, .int (nI r), .int (nI h)] σ (pP σ (zp (mbr σ n g h r))) := by
  have h24 := hI.2
  refine zMet_of (by decide +kernel) (Nat.le_of_ble_eq_true rfl) (fun D cT ad sz => ?_)
  show Wm (fun _ _ => True) l (rmh 2) RX4 cX4_isMember 3 (some .boolean) D cT ad Lc (zA ad Lc.length sz) (zZ (fun D cT ad L sz => zQi D cT ad L sz (pP σ (zp (mbr σ n g h r)))) D cT ad Lc sz) [] 0 (lv_args 0 [.ref 0, .int (nI r), .int (nI h)]) [] σ 0 0
  refine wm_aload_n 1 rfl dX4_isMember_0 rfl rfl ?_
  refine wm_getR 4 rfl dX4_isMember_1 gf_X4_12_3 rfl rfl ?_
  refine wm_iload_n 5 rfl dX4_isMember_4 rfl rfl ?_
  refine wm_callVi (ty := .boolean) 8 rfl dX4_isMember_5 (k_holds l hI r (by omega)) ca_X1_holds cv_X1_holds rfl aw_8_18 rfl rfl ⟨Nat.le_of_ble_eq_true rfl, Nat.le_of_ble_eq_true rfl⟩ (Nat.le_of_ble_eq_true rfl) ⟨Nat.zero_le _, Nat.zero_le _⟩ ?_
  rintro r9 σ9 ⟨rfl, rfl⟩
  refine wm_if_eq 30 11 rfl (by decide) dX4_isMember_8 (fun c8 => ?_) (fun c8 => ?_)
  · refine wm_iconst (v := 0) 31 rfl dX4_isMember_30 (by decide) ?_
    exact wm_iret dX4_isMember_31 (by first | rfl | exact zp_nar) (pP_i (zp_f (fun h9 => (zp_0.mp c8) h9.1)))
  · refine wm_aload_n 12 rfl dX4_isMember_11 rfl rfl ?_
    refine wm_getR 15 rfl dX4_isMember_12 gf_X4_19_3 rfl rfl ?_
    refine wm_getR 18 rfl dX4_isMember_15 gf_X4_152_1 rfl rfl ?_
    refine wm_iconst (v := 2) 19 rfl dX4_isMember_18 (by decide) ?_
    refine wm_aaload (r := 19) 20 rfl dX4_isMember_19 rfl vp23 rfl ?_
    refine wm_iload_n 21 rfl dX4_isMember_20 rfl rfl ?_
    refine wm_iaload 22 rfl dX4_isMember_21 rfl (in24 hr h24) ?_
    refine wm_iload_n 23 rfl dX4_isMember_22 rfl rfl ?_
    refine wm_icmp_ne 30 26 rfl (by decide) dX4_isMember_23 (fun c23 => ?_) (fun c23 => ?_)
    · rw [nI_clamp (by omega), (hg r hr).1] at c23
      refine wm_iconst (v := 0) 31 rfl dX4_isMember_30 (by decide) ?_
      exact wm_iret dX4_isMember_31 (by first | rfl | exact zp_nar) (pP_i (zp_f (fun h9 => c23 (by rw [h9.2]))))
    · rw [nI_clamp (by omega), (hg r hr).1] at c23
      refine wm_iconst (v := 1) 27 rfl dX4_isMember_26 (by decide) ?_
      refine wm_goto 31 (by decide) dX4_isMember_27 ?_
      exact wm_iret dX4_isMember_31 (by first | rfl | exact zp_nar) (pP_i (zp_t ⟨zp_n.mp c8, eq_of_nI c23 (by have := (hg r hr).2; omega) hh⟩))
theorem k_X4_isThing (l : Launch) {σ : Sg} {n : Nat} (hI : cI σ n) {g : Nat → Nat} (hg : lab σ 19 n g) {h : Nat} (hh : h < n) : cMi l yX4_isThing cX4_isThing 2 .boolean 3 Lc [.ref 0, .int (nI h)] σ (pP σ (zp (mbr σ n g h h))) := by
  have h24 := hI.2
  refine zMet_of (by decide +kernel) (Nat.le_of_ble_eq_true rfl) (fun D cT ad sz => ?_)
  show Wm (fun _ _ => True) l (rmh 3) RX4 cX4_isThing 2 (some .boolean) D cT ad Lc (zA ad Lc.length sz) (zZ (fun D cT ad L sz => zQi D cT ad L sz (pP σ (zp (mbr σ n g h h)))) D cT ad Lc sz) [] 0 (lv_args 0 [.ref 0, .int (nI h)]) [] σ 0 0
  refine wm_aload_n 1 rfl dX4_isThing_0 rfl rfl ?_
  refine wm_iload_n 2 rfl dX4_isThing_1 rfl rfl ?_
  refine wm_iload_n 3 rfl dX4_isThing_2 rfl rfl ?_
  refine wm_callVi (ty := .boolean) 6 rfl dX4_isThing_3 (k_X4_isMember l hI hg hh (by omega)) ca_X4_isMember cv_X4_isMember rfl aw_8_12 rfl rfl ⟨Nat.le_of_ble_eq_true rfl, Nat.le_of_ble_eq_true rfl⟩ (Nat.le_of_ble_eq_true rfl) ⟨Nat.zero_le _, Nat.zero_le _⟩ ?_
  rintro r9 σ9 ⟨rfl, rfl⟩
  exact wm_iret dX4_isThing_6 (by first | rfl | exact zp_nar) ⟨rfl, rfl⟩
theorem k_X4_countMembers (l : Launch) {σ : Sg} {n : Nat} (hI : cI σ n) {g : Nat → Nat} (hg : lab σ 19 n g) {h : Nat} (hh : h < n) : cMi l yX4_countMembers cX4_countMembers 4 .int 3 Lc [.ref 0, .int (nI h)] σ (pP σ (nI (cq (mbr σ n g h) n))) := by
  have h24 := hI.2
  refine zMet_of (by decide +kernel) (Nat.le_of_ble_eq_true rfl) (fun D cT ad sz => ?_)
  show Wm (fun _ _ => True) l (rmh 3) RX4 cX4_countMembers 4 (some .int) D cT ad Lc (zA ad Lc.length sz) (zZ (fun D cT ad L sz => zQi D cT ad L sz (pP σ (nI (cq (mbr σ n g h) n)))) D cT ad Lc sz) [] 0 (lv_args 0 [.ref 0, .int (nI h)]) [] σ 0 0
  have lp : ∀ (q9 j : Nat), n - j = q9 → j ≤ n → True → Wm (fun _ _ => True) l (rmh 3) RX4 cX4_countMembers 4 (some .int) D cT ad Lc (zA ad Lc.length sz) (zZ (fun D cT ad L sz => zQi D cT ad L sz (pP σ (nI (cq (mbr σ n g h) n)))) D cT ad Lc sz) [] 4 [(0, .ref 0), (1, .int (nI h)), (2, .int (nI (cq (mbr σ n g h) j))), (3, .int (nI j))] [] σ 0 0 := by
    intro q9
    induction q9 using Nat.strongRecOn with
    | ind q9 ih =>
      intro j  hmj hjj hinv
      refine wm_iload_n 5 rfl dX4_countMembers_4 rfl rfl ?_
      refine wm_aload_n 6 rfl dX4_countMembers_5 rfl rfl ?_
      refine wm_getR 9 rfl dX4_countMembers_6 gf_X4_12_3 rfl rfl ?_
      refine wm_getI 12 rfl dX4_countMembers_9 gf_X4_63_0 rfl rfl ?_
      refine wm_icmp_ge 33 15 rfl (by decide) dX4_countMembers_12 (fun c12 => ?_) (fun c12 => ?_)
      · rw [hI.1] at c12
        have gj : j = n := by have := le_of_nI c12 (by omega) (by omega); omega
        refine wm_iload_n 34 rfl dX4_countMembers_33 rfl rfl ?_
        exact wm_iret dX4_countMembers_34 (by first | rfl | exact zp_nar) ⟨rfl, by rw [gj]⟩
      · rw [hI.1] at c12
        have gj : j < n := lt_of_nnI c12 (by omega) (by omega)
        refine wm_aload_n 16 rfl dX4_countMembers_15 rfl rfl ?_
        refine wm_iload_n 17 rfl dX4_countMembers_16 rfl rfl ?_
        refine wm_iload_n 18 rfl dX4_countMembers_17 rfl rfl ?_
        refine wm_callVi (ty := .boolean) 21 rfl dX4_countMembers_18 (k_X4_isMember l hI hg gj (by omega)) ca_X4_isMember cv_X4_isMember rfl aw_8_12 rfl rfl ⟨Nat.le_of_ble_eq_true rfl, Nat.le_of_ble_eq_true rfl⟩ (Nat.le_of_ble_eq_true rfl) ⟨Nat.zero_le _, Nat.zero_le _⟩ ?_
        rintro r9 σ9 ⟨rfl, rfl⟩
        refine wm_if_eq 27 24 rfl (by decide) dX4_countMembers_21 (fun c21 => ?_) (fun c21 => ?_)
        · rw [← cq_f (zp_0.mp c21)]
          refine wm_iinc (ls' := [(3, _), (0, _), (1, _), (2, _)]) 30 rfl dX4_countMembers_27 rfl (nI_inc _) (by decide) rfl ?_
          refine wm_goto 4 (by decide) dX4_countMembers_30 ?_
          refine wm_loc (ls2 := [(0, _), (1, _), (2, _), (3, _)]) [1, 2, 3, 0] rfl ?_
          exact ih (n - (j + 1)) (by omega) (j + 1) rfl (by omega) trivial
        · refine wm_iinc (ls' := [(2, _), (0, _), (1, _), (3, _)]) 27 rfl dX4_countMembers_24 rfl (by rw [nI_inc, ← cq_t (zp_n.mp c21)]) (by decide) rfl ?_
          refine wm_iinc (ls' := [(3, _), (2, _), (0, _), (1, _)]) 30 rfl dX4_countMembers_27 rfl (nI_inc _) (by decide) rfl ?_
          refine wm_goto 4 (by decide) dX4_countMembers_30 ?_
          refine wm_loc (ls2 := [(0, _), (1, _), (2, _), (3, _)]) [2, 3, 1, 0] rfl ?_
          exact ih (n - (j + 1)) (by omega) (j + 1) rfl (by omega) trivial
  refine wm_iconst (v := 0) 1 rfl dX4_countMembers_0 (by decide) ?_
  refine wm_istore_n (ls' := [(2, _), (0, _), (1, _)]) 2 rfl dX4_countMembers_1 rfl (by decide) rfl ?_
  refine wm_iconst (v := 0) 3 rfl dX4_countMembers_2 (by decide) ?_
  refine wm_istore_n (ls' := [(3, _), (2, _), (0, _), (1, _)]) 4 rfl dX4_countMembers_3 rfl (by decide) rfl ?_
  refine wm_loc (ls2 := [(0, _), (1, _), (2, _), (3, _)]) [2, 3, 1, 0] rfl ?_
  exact lp n 0 rfl (Nat.zero_le _) trivial
theorem k_X4_sumMembers (l : Launch) {σ : Sg} {n : Nat} (hI : cI σ n) {g : Nat → Nat} (hg : lab σ 19 n g) {h : Nat} (hh : h < n) : cMi l yX4_sumMembers cX4_sumMembers 4 .int 3 Lc [.ref 0, .int (nI h)] σ (pP σ (nI (sq (mbr σ n g h) (fun r => r) n))) := by
  have h24 := hI.2
  refine zMet_of (by decide +kernel) (Nat.le_of_ble_eq_true rfl) (fun D cT ad sz => ?_)
  show Wm (fun _ _ => True) l (rmh 3) RX4 cX4_sumMembers 4 (some .int) D cT ad Lc (zA ad Lc.length sz) (zZ (fun D cT ad L sz => zQi D cT ad L sz (pP σ (nI (sq (mbr σ n g h) (fun r => r) n)))) D cT ad Lc sz) [] 0 (lv_args 0 [.ref 0, .int (nI h)]) [] σ 0 0
  have lp : ∀ (q9 j : Nat), n - j = q9 → j ≤ n → True → Wm (fun _ _ => True) l (rmh 3) RX4 cX4_sumMembers 4 (some .int) D cT ad Lc (zA ad Lc.length sz) (zZ (fun D cT ad L sz => zQi D cT ad L sz (pP σ (nI (sq (mbr σ n g h) (fun r => r) n)))) D cT ad Lc sz) [] 4 [(0, .ref 0), (1, .int (nI h)), (2, .int (nI (sq (mbr σ n g h) (fun r => r) j))), (3, .int (nI j))] [] σ 0 0 := by
    intro q9
    induction q9 using Nat.strongRecOn with
    | ind q9 ih =>
      intro j  hmj hjj hinv
      refine wm_iload_n 5 rfl dX4_sumMembers_4 rfl rfl ?_
      refine wm_aload_n 6 rfl dX4_sumMembers_5 rfl rfl ?_
      refine wm_getR 9 rfl dX4_sumMembers_6 gf_X4_12_3 rfl rfl ?_
      refine wm_getI 12 rfl dX4_sumMembers_9 gf_X4_63_0 rfl rfl ?_
      refine wm_icmp_ge 34 15 rfl (by decide) dX4_sumMembers_12 (fun c12 => ?_) (fun c12 => ?_)
      · rw [hI.1] at c12
        have gj : j = n := by have := le_of_nI c12 (by omega) (by omega); omega
        refine wm_iload_n 35 rfl dX4_sumMembers_34 rfl rfl ?_
        exact wm_iret dX4_sumMembers_35 (by first | rfl | exact zp_nar) ⟨rfl, by rw [gj]⟩
      · rw [hI.1] at c12
        have gj : j < n := lt_of_nnI c12 (by omega) (by omega)
        refine wm_aload_n 16 rfl dX4_sumMembers_15 rfl rfl ?_
        refine wm_iload_n 17 rfl dX4_sumMembers_16 rfl rfl ?_
        refine wm_iload_n 18 rfl dX4_sumMembers_17 rfl rfl ?_
        refine wm_callVi (ty := .boolean) 21 rfl dX4_sumMembers_18 (k_X4_isMember l hI hg gj (by omega)) ca_X4_isMember cv_X4_isMember rfl aw_8_12 rfl rfl ⟨Nat.le_of_ble_eq_true rfl, Nat.le_of_ble_eq_true rfl⟩ (Nat.le_of_ble_eq_true rfl) ⟨Nat.zero_le _, Nat.zero_le _⟩ ?_
        rintro r9 σ9 ⟨rfl, rfl⟩
        refine wm_if_eq 28 24 rfl (by decide) dX4_sumMembers_21 (fun c21 => ?_) (fun c21 => ?_)
        · rw [← sq_f (f := fun r => r) (zp_0.mp c21)]
          refine wm_iinc (ls' := [(3, _), (0, _), (1, _), (2, _)]) 31 rfl dX4_sumMembers_28 rfl (nI_inc _) (by decide) rfl ?_
          refine wm_goto 4 (by decide) dX4_sumMembers_31 ?_
          refine wm_loc (ls2 := [(0, _), (1, _), (2, _), (3, _)]) [1, 2, 3, 0] rfl ?_
          exact ih (n - (j + 1)) (by omega) (j + 1) rfl (by omega) trivial
        · refine wm_iload_n 25 rfl dX4_sumMembers_24 rfl rfl ?_
          refine wm_iload_n 26 rfl dX4_sumMembers_25 rfl rfl ?_
          refine wm_iadd 27 rfl dX4_sumMembers_26 ?_
          rw [nI_add, show sq (mbr σ n g h) (fun r => r) j + j = sq (mbr σ n g h) (fun r => r) (j + 1) from (sq_t (f := fun r => r) (zp_n.mp c21)).symm]
          refine wm_istore_n (ls' := [(2, _), (0, _), (1, _), (3, _)]) 28 rfl dX4_sumMembers_27 rfl (by decide) rfl ?_
          refine wm_iinc (ls' := [(3, _), (2, _), (0, _), (1, _)]) 31 rfl dX4_sumMembers_28 rfl (nI_inc _) (by decide) rfl ?_
          refine wm_goto 4 (by decide) dX4_sumMembers_31 ?_
          refine wm_loc (ls2 := [(0, _), (1, _), (2, _), (3, _)]) [2, 3, 1, 0] rfl ?_
          exact ih (n - (j + 1)) (by omega) (j + 1) rfl (by omega) trivial
  refine wm_iconst (v := 0) 1 rfl dX4_sumMembers_0 (by decide) ?_
  refine wm_istore_n (ls' := [(2, _), (0, _), (1, _)]) 2 rfl dX4_sumMembers_1 rfl (by decide) rfl ?_
  refine wm_iconst (v := 0) 3 rfl dX4_sumMembers_2 (by decide) ?_
  refine wm_istore_n (ls' := [(3, _), (2, _), (0, _), (1, _)]) 4 rfl dX4_sumMembers_3 rfl (by decide) rfl ?_
  refine wm_loc (ls2 := [(0, _), (1, _), (2, _), (3, _)]) [2, 3, 1, 0] rfl ?_
  exact lp n 0 rfl (Nat.zero_le _) trivial
theorem k_X4_findMember (l : Launch) {σ : Sg} {n : Nat} (hI : cI σ n) {g : Nat → Nat} (hg : lab σ 19 n g) {h : Nat} (hh : h < n) (ix : Int32) : cMi l yX4_findMember cX4_findMember 5 .int 3 Lc [.ref 0, .int (nI h), .int ix] σ (fun v σ1 => σ = σ1 ∧ ((∃ r, r < n ∧ mbr σ n g h r ∧ ix = nI (cq (mbr σ n g h) r) ∧ v = nI r) ∨ (v = -1 ∧ ∀ r, r < n → mbr σ n g h r → ix ≠ nI (cq (mbr σ n g h) r)))) := by
  have h24 := hI.2
  refine zMet_of (by decide +kernel) (Nat.le_of_ble_eq_true rfl) (fun D cT ad sz => ?_)
  show Wm (fun _ _ => True) l (rmh 3) RX4 cX4_findMember 5 (some .int) D cT ad Lc (zA ad Lc.length sz) (zZ (fun D cT ad L sz => zQi D cT ad L sz (fun v σ1 => σ = σ1 ∧ ((∃ r, r < n ∧ mbr σ n g h r ∧ ix = nI (cq (mbr σ n g h) r) ∧ v = nI r) ∨ (v = -1 ∧ ∀ r, r < n → mbr σ n g h r → ix ≠ nI (cq (mbr σ n g h) r))))) D cT ad Lc sz) [] 0 (lv_args 0 [.ref 0, .int (nI h), .int ix]) [] σ 0 0
  have lp : ∀ (q9 j : Nat), n - j = q9 → j ≤ n → (∀ r, r < j → mbr σ n g h r → ix ≠ nI (cq (mbr σ n g h) r)) → Wm (fun _ _ => True) l (rmh 3) RX4 cX4_findMember 5 (some .int) D cT ad Lc (zA ad Lc.length sz) (zZ (fun D cT ad L sz => zQi D cT ad L sz (fun v σ1 => σ = σ1 ∧ ((∃ r, r < n ∧ mbr σ n g h r ∧ ix = nI (cq (mbr σ n g h) r) ∧ v = nI r) ∨ (v = -1 ∧ ∀ r, r < n → mbr σ n g h r → ix ≠ nI (cq (mbr σ n g h) r))))) D cT ad Lc sz) [] 5 [(0, .ref 0), (1, .int (nI h)), (2, .int ix), (3, .int (nI (cq (mbr σ n g h) j))), (4, .int (nI j))] [] σ 0 0 := by
    intro q9
    induction q9 using Nat.strongRecOn with
    | ind q9 ih =>
      intro j  hmj hjj hinv
      refine wm_iload 7 rfl dX4_findMember_5 rfl ?_
      refine wm_aload_n 8 rfl dX4_findMember_7 rfl rfl ?_
      refine wm_getR 11 rfl dX4_findMember_8 gf_X4_12_3 rfl rfl ?_
      refine wm_getI 14 rfl dX4_findMember_11 gf_X4_63_0 rfl rfl ?_
      refine wm_icmp_ge 44 17 rfl (by decide) dX4_findMember_14 (fun c14 => ?_) (fun c14 => ?_)
      · rw [hI.1] at c14
        have gj : j = n := by have := le_of_nI c14 (by omega) (by omega); omega
        refine wm_iconst (v := (-1)) 45 rfl dX4_findMember_44 (by decide) ?_
        exact wm_iret dX4_findMember_45 (by first | rfl | exact zp_nar) ⟨rfl, Or.inr ⟨rfl, by subst gj; exact hinv⟩⟩
      · rw [hI.1] at c14
        have gj : j < n := lt_of_nnI c14 (by omega) (by omega)
        refine wm_aload_n 18 rfl dX4_findMember_17 rfl rfl ?_
        refine wm_iload 20 rfl dX4_findMember_18 rfl ?_
        refine wm_iload_n 21 rfl dX4_findMember_20 rfl rfl ?_
        refine wm_callVi (ty := .boolean) 24 rfl dX4_findMember_21 (k_X4_isMember l hI hg gj (by omega)) ca_X4_isMember cv_X4_isMember rfl aw_8_12 rfl rfl ⟨Nat.le_of_ble_eq_true rfl, Nat.le_of_ble_eq_true rfl⟩ (Nat.le_of_ble_eq_true rfl) ⟨Nat.zero_le _, Nat.zero_le _⟩ ?_
        rintro r9 σ9 ⟨rfl, rfl⟩
        refine wm_if_eq 38 27 rfl (by decide) dX4_findMember_24 (fun c24 => ?_) (fun c24 => ?_)
        · rw [← cq_f (zp_0.mp c24)]
          refine wm_iinc (ls' := [(4, _), (0, _), (1, _), (2, _), (3, _)]) 41 rfl dX4_findMember_38 rfl (nI_inc _) (by decide) rfl ?_
          refine wm_goto 5 (by decide) dX4_findMember_41 ?_
          refine wm_loc (ls2 := [(0, _), (1, _), (2, _), (3, _), (4, _)]) [1, 2, 3, 4, 0] rfl ?_
          refine ih (n - (j + 1)) (by omega) (j + 1) rfl (by omega) (lt_s hinv ?_)
          first
            | exact fun q => absurd q (zp_0.mp c24)
            | exact fun _ e => c29 e.symm
        · refine wm_iload_n 28 rfl dX4_findMember_27 rfl rfl ?_
          refine wm_iload_n 29 rfl dX4_findMember_28 rfl rfl ?_
          refine wm_icmp_ne 35 32 rfl (by decide) dX4_findMember_29 (fun c29 => ?_) (fun c29 => ?_)
          · refine wm_iinc (ls' := [(3, _), (0, _), (1, _), (2, _), (4, _)]) 38 rfl dX4_findMember_35 rfl (by rw [nI_inc, ← cq_t (zp_n.mp c24)]) (by decide) rfl ?_
            refine wm_iinc (ls' := [(4, _), (3, _), (0, _), (1, _), (2, _)]) 41 rfl dX4_findMember_38 rfl (nI_inc _) (by decide) rfl ?_
            refine wm_goto 5 (by decide) dX4_findMember_41 ?_
            refine wm_loc (ls2 := [(0, _), (1, _), (2, _), (3, _), (4, _)]) [2, 3, 4, 1, 0] rfl ?_
            refine ih (n - (j + 1)) (by omega) (j + 1) rfl (by omega) (lt_s hinv ?_)
            first
              | exact fun q => absurd q (zp_0.mp c24)
              | exact fun _ e => c29 e.symm
          · refine wm_iload 34 rfl dX4_findMember_32 rfl ?_
            exact wm_iret dX4_findMember_34 (by first | rfl | exact zp_nar) ⟨rfl, Or.inl ⟨j, gj, zp_n.mp c24, c29.symm, rfl⟩⟩
  refine wm_iconst (v := 0) 1 rfl dX4_findMember_0 (by decide) ?_
  refine wm_istore_n (ls' := [(3, _), (0, _), (1, _), (2, _)]) 2 rfl dX4_findMember_1 rfl (by decide) rfl ?_
  refine wm_iconst (v := 0) 3 rfl dX4_findMember_2 (by decide) ?_
  refine wm_istore (ls' := [(4, _), (3, _), (0, _), (1, _), (2, _)]) 5 rfl dX4_findMember_3 (by decide) rfl ?_
  refine wm_loc (ls2 := [(0, _), (1, _), (2, _), (3, _), (4, _)]) [2, 3, 4, 1, 0] rfl ?_
  exact lp n 0 rfl (Nat.zero_le _) (fun r hr => absurd hr (Nat.not_lt_zero r))
theorem k_X4_isKeyElsewhere (l : Launch) {σ : Sg} {n : Nat} (hI : cI σ n) {g : Nat → Nat} (hg : lab σ 19 n g) {a k : Nat} (ha : a < n) (hk : k < 3) : cMi l yX4_isKeyElsewhere cX4_isKeyElsewhere 5 .boolean 3 Lc [.ref 0, .int (nI a), .int (nI k)] σ (pP σ (zp (∃ o, o < n ∧ smK σ n k a o ∧ g o ≠ g a))) := by
  have h24 := hI.2
  refine zMet_of (by decide +kernel) (Nat.le_of_ble_eq_true rfl) (fun D cT ad sz => ?_)
  show Wm (fun _ _ => True) l (rmh 3) RX4 cX4_isKeyElsewhere 5 (some .boolean) D cT ad Lc (zA ad Lc.length sz) (zZ (fun D cT ad L sz => zQi D cT ad L sz (pP σ (zp (∃ o, o < n ∧ smK σ n k a o ∧ g o ≠ g a)))) D cT ad Lc sz) [] 0 (lv_args 0 [.ref 0, .int (nI a), .int (nI k)]) [] σ 0 0
  have lp : ∀ (q9 j : Nat), n - j = q9 → j ≤ n → (∀ o, o < j → ¬ (smK σ n k a o ∧ g o ≠ g a)) → Wm (fun _ _ => True) l (rmh 3) RX4 cX4_isKeyElsewhere 5 (some .boolean) D cT ad Lc (zA ad Lc.length sz) (zZ (fun D cT ad L sz => zQi D cT ad L sz (pP σ (zp (∃ o, o < n ∧ smK σ n k a o ∧ g o ≠ g a)))) D cT ad Lc sz) [] 15 [(0, .ref 0), (1, .int (nI a)), (2, .int (nI k)), (3, .int (nI (g a))), (4, .int (nI j))] [] σ 0 0 := by
    intro q9
    induction q9 using Nat.strongRecOn with
    | ind q9 ih =>
      intro j  hmj hjj hinv
      refine wm_iload 17 rfl dX4_isKeyElsewhere_15 rfl ?_
      refine wm_aload_n 18 rfl dX4_isKeyElsewhere_17 rfl rfl ?_
      refine wm_getR 21 rfl dX4_isKeyElsewhere_18 gf_X4_12_3 rfl rfl ?_
      refine wm_getI 24 rfl dX4_isKeyElsewhere_21 gf_X4_63_0 rfl rfl ?_
      refine wm_icmp_ge 65 27 rfl (by decide) dX4_isKeyElsewhere_24 (fun c24 => ?_) (fun c24 => ?_)
      · rw [hI.1] at c24
        have gj : j = n := by have := le_of_nI c24 (by omega) (by omega); omega
        refine wm_iconst (v := 0) 66 rfl dX4_isKeyElsewhere_65 (by decide) ?_
        exact wm_iret dX4_isKeyElsewhere_66 (by first | rfl | exact zp_nar) (pP_i (zp_f (by subst gj; rintro ⟨o, ho, h9⟩; exact hinv o ho h9)))
      · rw [hI.1] at c24
        have gj : j < n := lt_of_nnI c24 (by omega) (by omega)
        refine wm_aload_n 28 rfl dX4_isKeyElsewhere_27 rfl rfl ?_
        refine wm_getR 31 rfl dX4_isKeyElsewhere_28 gf_X4_12_3 rfl rfl ?_
        refine wm_iload_n 32 rfl dX4_isKeyElsewhere_31 rfl rfl ?_
        refine wm_iload 34 rfl dX4_isKeyElsewhere_32 rfl ?_
        refine wm_iload_n 35 rfl dX4_isKeyElsewhere_34 rfl rfl ?_
        refine wm_callVi (ty := .boolean) 38 rfl dX4_isKeyElsewhere_35 (k_X1_haveSameKey l hI a j k ha gj hk) ca_X1_haveSameKey cv_X1_haveSameKey rfl aw_22_10 rfl rfl ⟨Nat.le_of_ble_eq_true rfl, Nat.le_of_ble_eq_true rfl⟩ (Nat.le_of_ble_eq_true rfl) ⟨Nat.zero_le _, Nat.zero_le _⟩ ?_
        rintro r9 σ9 ⟨rfl, rfl⟩
        refine wm_if_eq 59 41 rfl (by decide) dX4_isKeyElsewhere_38 (fun c38 => ?_) (fun c38 => ?_)
        · refine wm_iinc (ls' := [(4, _), (0, _), (1, _), (2, _), (3, _)]) 62 rfl dX4_isKeyElsewhere_59 rfl (nI_inc _) (by decide) rfl ?_
          refine wm_goto 15 (by decide) dX4_isKeyElsewhere_62 ?_
          refine wm_loc (ls2 := [(0, _), (1, _), (2, _), (3, _), (4, _)]) [1, 2, 3, 4, 0] rfl ?_
          refine ih (n - (j + 1)) (by omega) (j + 1) rfl (by omega) (lt_s hinv ?_)
          first
            | exact fun q => (zp_0.mp c38) q.1
            | exact fun q => q.2 e54
        · refine wm_aload_n 42 rfl dX4_isKeyElsewhere_41 rfl rfl ?_
          refine wm_getR 45 rfl dX4_isKeyElsewhere_42 gf_X4_19_3 rfl rfl ?_
          refine wm_getR 48 rfl dX4_isKeyElsewhere_45 gf_X4_152_1 rfl rfl ?_
          refine wm_iconst (v := 2) 49 rfl dX4_isKeyElsewhere_48 (by decide) ?_
          refine wm_aaload (r := 19) 50 rfl dX4_isKeyElsewhere_49 rfl vp23 rfl ?_
          refine wm_iload 52 rfl dX4_isKeyElsewhere_50 rfl ?_
          refine wm_iaload 53 rfl dX4_isKeyElsewhere_52 rfl (in24 gj h24) ?_
          refine wm_iload_n 54 rfl dX4_isKeyElsewhere_53 rfl rfl ?_
          refine wm_icmp_eq 59 57 rfl (by decide) dX4_isKeyElsewhere_54 (fun c54 => ?_) (fun c54 => ?_)
          · rw [nI_clamp (by omega), (hg j gj).1] at c54
            have := (hg j gj).2
            have := (hg a ha).2
            have e54 := eq_of_nI c54 (by omega) (by omega)
            refine wm_iinc (ls' := [(4, _), (0, _), (1, _), (2, _), (3, _)]) 62 rfl dX4_isKeyElsewhere_59 rfl (nI_inc _) (by decide) rfl ?_
            refine wm_goto 15 (by decide) dX4_isKeyElsewhere_62 ?_
            refine wm_loc (ls2 := [(0, _), (1, _), (2, _), (3, _), (4, _)]) [1, 2, 3, 4, 0] rfl ?_
            refine ih (n - (j + 1)) (by omega) (j + 1) rfl (by omega) (lt_s hinv ?_)
            first
              | exact fun q => (zp_0.mp c38) q.1
              | exact fun q => q.2 e54
          · rw [nI_clamp (by omega), (hg j gj).1] at c54
            refine wm_iconst (v := 1) 58 rfl dX4_isKeyElsewhere_57 (by decide) ?_
            exact wm_iret dX4_isKeyElsewhere_58 (by first | rfl | exact zp_nar) (pP_i (zp_t ⟨j, gj, zp_n.mp c38, ne_of_nnI c54⟩))
  refine wm_aload_n 1 rfl dX4_isKeyElsewhere_0 rfl rfl ?_
  refine wm_getR 4 rfl dX4_isKeyElsewhere_1 gf_X4_19_3 rfl rfl ?_
  refine wm_getR 7 rfl dX4_isKeyElsewhere_4 gf_X4_152_1 rfl rfl ?_
  refine wm_iconst (v := 2) 8 rfl dX4_isKeyElsewhere_7 (by decide) ?_
  refine wm_aaload (r := 19) 9 rfl dX4_isKeyElsewhere_8 rfl vp23 rfl ?_
  refine wm_iload_n 10 rfl dX4_isKeyElsewhere_9 rfl rfl ?_
  refine wm_iaload 11 rfl dX4_isKeyElsewhere_10 rfl (in24 ha h24) ?_
  rw [nI_clamp (by omega), (hg a ha).1]
  refine wm_istore_n (ls' := [(3, _), (0, _), (1, _), (2, _)]) 12 rfl dX4_isKeyElsewhere_11 rfl (by decide) rfl ?_
  refine wm_iconst (v := 0) 13 rfl dX4_isKeyElsewhere_12 (by decide) ?_
  refine wm_istore (ls' := [(4, _), (3, _), (0, _), (1, _), (2, _)]) 15 rfl dX4_isKeyElsewhere_13 (by decide) rfl ?_
  refine wm_loc (ls2 := [(0, _), (1, _), (2, _), (3, _), (4, _)]) [2, 3, 4, 1, 0] rfl ?_
  exact lp n 0 rfl (Nat.zero_le _) (fun r hr => absurd hr (Nat.not_lt_zero r))
theorem k_X4_tellsFact (l : Launch) {σ : Sg} {n : Nat} (hI : cI σ n) {g : Nat → Nat} (hg : lab σ 19 n g) {r h f : Nat} (hr : r < n) (hh : h < 2 ^ 31) (hf : f < 3) : cMi l yX4_tellsFact cX4_tellsFact 4 .boolean 3 Lc [.ref 0, .int (nI r), .int (nI h), .int (nI f)] σ (pP σ (zp (tf σ n g h f r))) := by
  have h24 := hI.2
  refine zMet_of (by decide +kernel) (Nat.le_of_ble_eq_true rfl) (fun D cT ad sz => ?_)
  show Wm (fun _ _ => True) l (rmh 3) RX4 cX4_tellsFact 4 (some .boolean) D cT ad Lc (zA ad Lc.length sz) (zZ (fun D cT ad L sz => zQi D cT ad L sz (pP σ (zp (tf σ n g h f r)))) D cT ad Lc sz) [] 0 (lv_args 0 [.ref 0, .int (nI r), .int (nI h), .int (nI f)]) [] σ 0 0
  refine wm_aload_n 1 rfl dX4_tellsFact_0 rfl rfl ?_
  refine wm_iload_n 2 rfl dX4_tellsFact_1 rfl rfl ?_
  refine wm_iload_n 3 rfl dX4_tellsFact_2 rfl rfl ?_
  refine wm_callVi (ty := .boolean) 6 rfl dX4_tellsFact_3 (k_X4_isMember l hI hg hr hh) ca_X4_isMember cv_X4_isMember rfl aw_8_12 rfl rfl ⟨Nat.le_of_ble_eq_true rfl, Nat.le_of_ble_eq_true rfl⟩ (Nat.le_of_ble_eq_true rfl) ⟨Nat.zero_le _, Nat.zero_le _⟩ ?_
  rintro r9 σ9 ⟨rfl, rfl⟩
  refine wm_if_eq 28 9 rfl (by decide) dX4_tellsFact_6 (fun c6 => ?_) (fun c6 => ?_)
  · refine wm_iconst (v := 0) 29 rfl dX4_tellsFact_28 (by decide) ?_
    exact wm_iret dX4_tellsFact_29 (by first | rfl | exact zp_nar) (pP_i (zp_f (fun h9 => (zp_0.mp c6) h9.1)))
  · refine wm_aload_n 10 rfl dX4_tellsFact_9 rfl rfl ?_
    refine wm_getR 13 rfl dX4_tellsFact_10 gf_X4_12_3 rfl rfl ?_
    refine wm_getR 16 rfl dX4_tellsFact_13 gf_X4_88_0 rfl rfl ?_
    refine wm_iload_n 17 rfl dX4_tellsFact_16 rfl rfl ?_
    refine wm_aaload (r := 10 + f) 18 rfl dX4_tellsFact_17 rfl (vp_in_nI hf (by omega)) (by rw [nI_clamp (by omega)]) ?_
    refine wm_iload_n 19 rfl dX4_tellsFact_18 rfl rfl ?_
    refine wm_iaload 20 rfl dX4_tellsFact_19 (Lc_fact hf) (in24 hr h24) ?_
    refine wm_iconst (v := (-1)) 21 rfl dX4_tellsFact_20 (by decide) ?_
    refine wm_icmp_eq 28 24 rfl (by decide) dX4_tellsFact_21 (fun c21 => ?_) (fun c21 => ?_)
    · rw [nI_clamp (by omega)] at c21
      refine wm_iconst (v := 0) 29 rfl dX4_tellsFact_28 (by decide) ?_
      exact wm_iret dX4_tellsFact_29 (by first | rfl | exact zp_nar) (pP_i (zp_f (fun h9 => h9.2 c21)))
    · rw [nI_clamp (by omega)] at c21
      refine wm_iconst (v := 1) 25 rfl dX4_tellsFact_24 (by decide) ?_
      refine wm_goto 29 (by decide) dX4_tellsFact_25 ?_
      exact wm_iret dX4_tellsFact_29 (by first | rfl | exact zp_nar) (pP_i (zp_t ⟨zp_n.mp c6, c21⟩))
theorem k_X4_orderMembers (l : Launch) {σ : Sg} {n : Nat} (hI : cI σ n) {g : Nat → Nat} (hg : lab σ 19 n g) (hS : cS σ n) {h : Nat} (hh : h < n) : cMi l yX4_orderMembers cX4_orderMembers 5 .int 3 Lc [.ref 0, .int (nI h)] σ (fun v σ1 => ∃ cnt, v = nI cnt ∧ OI σ n g h n cnt σ1) := by
  have h24 := hI.2
  refine zMet_of (by decide +kernel) (Nat.le_of_ble_eq_true rfl) (fun D cT ad sz => ?_)
  show Wm (fun _ _ => True) l (rmh 3) RX4 cX4_orderMembers 5 (some .int) D cT ad Lc (zA ad Lc.length sz) (zZ (fun D cT ad L sz => zQi D cT ad L sz (fun v σ1 => ∃ cnt, v = nI cnt ∧ OI σ n g h n cnt σ1)) D cT ad Lc sz) [] 0 (lv_args 0 [.ref 0, .int (nI h)]) [] σ 0 0
  have lp : ∀ (q9 j : Nat) (cnt : Nat) (τ : Sg), n - j = q9 → j ≤ n → OI σ n g h j cnt τ → Wm (fun _ _ => True) l (rmh 3) RX4 cX4_orderMembers 5 (some .int) D cT ad Lc (zA ad Lc.length sz) (zZ (fun D cT ad L sz => zQi D cT ad L sz (fun v σ1 => ∃ cnt, v = nI cnt ∧ OI σ n g h n cnt σ1)) D cT ad Lc sz) [] 4 [(0, .ref 0), (1, .int (nI h)), (2, .int (nI cnt)), (3, .int (nI j))] [] τ 0 0 := by
    intro q9
    induction q9 using Nat.strongRecOn with
    | ind q9 ih =>
      intro j cnt τ hmj hjj hinv0
      obtain ⟨ha0, hcj, p, hp⟩ := id hinv0
      have lpi : ∀ (q : Nat) (τ2 : Sg), q ≤ cnt → j < n → mbr σ n g h j → OJ σ n g h j cnt q p τ2 → Wm (fun _ _ => True) l (rmh 3) RX4 cX4_orderMembers 5 (some .int) D cT ad Lc (zA ad Lc.length sz) (zZ (fun D cT ad L sz => zQi D cT ad L sz (fun v σ1 => ∃ cnt, v = nI cnt ∧ OI σ n g h n cnt σ1)) D cT ad Lc sz) [] 27 [(0, .ref 0), (1, .int (nI h)), (2, .int (nI cnt)), (3, .int (nI j)), (4, .int (nI q))] [] τ2 0 0 := by
        intro q
        induction q using Nat.strongRecOn with
        | ind q ih2 =>
          intro τ2 hq gj hm hJ
          have h1 : τ2 1 = σ 1 := hJ.1 1 (by omega)
          have hah : ∀ b, ah τ2 j b ↔ ah σ j b := fun b => ah_ag j b (hJ.1 2 (by omega)) (hJ.1 3 (by omega)) (hJ.1 4 (by omega)) (hJ.1 0 (by omega))
          have hS2 : cS τ2 n := fun a ha => by rw [hJ.1 3 (by omega)]; exact hS a ha
          refine wm_iload 29 rfl dX4_orderMembers_27 rfl ?_
          refine wm_if_le 78 32 rfl (by decide) dX4_orderMembers_29 (fun c29 => ?_) (fun c29 => ?_)
          · have q0 : q = 0 := by have := le_of_nI (b := 0) c29 (by omega) (by omega); omega
            refine wm_aload_n 79 rfl dX4_orderMembers_78 rfl rfl ?_
            refine wm_getR 82 rfl dX4_orderMembers_79 gf_X4_30_3 rfl rfl ?_
            refine wm_iload 84 rfl dX4_orderMembers_82 rfl ?_
            refine wm_iload_n 85 rfl dX4_orderMembers_84 rfl rfl ?_
            refine wm_iastore 86 rfl dX4_orderMembers_85 rfl (in24 (by omega) (Nat.le_refl _)) ?_
            rw [nI_clamp (by omega)]
            refine wm_iinc (ls' := [(2, _), (0, _), (1, _), (3, _), (4, _)]) 89 rfl dX4_orderMembers_86 rfl (nI_inc _) (by decide) rfl ?_
            refine wm_iinc (ls' := [(3, _), (2, _), (0, _), (1, _), (4, _)]) 92 rfl dX4_orderMembers_89 rfl (nI_inc _) (by decide) rfl ?_
            refine wm_goto 4 (by decide) dX4_orderMembers_92 ?_
            refine wm_loc (ls2 := [(0, _), (1, _), (2, _), (3, _)]) [2, 3, 1, 0] rfl ?_
            first
              | exact ih (n - (j + 1)) (by omega) (j + 1) (cnt + 1) _ rfl (by omega) (OJ_put (τ0 := τ) hJ hq hcj hm hp (Or.inl q0))
              | exact ih (n - (j + 1)) (by omega) (j + 1) (cnt + 1) _ rfl (by omega) (OJ_put (τ0 := τ) hJ hq hcj hm hp (Or.inr (fun e => (zp_0.mp c53) ((hah _).mpr e))))
          · obtain ⟨q', rfl⟩ : ∃ q', q = q' + 1 := ⟨q - 1, by have := lt_of_nnI (b := 0) c29 (by omega) (by omega); omega⟩
            refine wm_aload_n 33 rfl dX4_orderMembers_32 rfl rfl ?_
            refine wm_getR 36 rfl dX4_orderMembers_33 gf_X4_12_3 rfl rfl ?_
            refine wm_iload_n 37 rfl dX4_orderMembers_36 rfl rfl ?_
            refine wm_aload_n 38 rfl dX4_orderMembers_37 rfl rfl ?_
            refine wm_getR 41 rfl dX4_orderMembers_38 gf_X4_30_3 rfl rfl ?_
            refine wm_iload 43 rfl dX4_orderMembers_41 rfl ?_
            refine wm_iconst (v := 1) 44 rfl dX4_orderMembers_43 (by decide) ?_
            refine wm_isub 45 rfl dX4_orderMembers_44 ?_
            rw [show nI (q' + 1) - 1 = nI q' from nI_pred q']
            refine wm_iaload 46 rfl dX4_orderMembers_45 rfl (in24 (by omega) (Nat.le_refl _)) ?_
            rw [nI_clamp (by omega), hJ.2.1 q' (by omega)]
            refine wm_aload_n 47 rfl dX4_orderMembers_46 rfl rfl ?_
            refine wm_getI 50 rfl dX4_orderMembers_47 gf_X4_68_3 rfl rfl ?_
            refine wm_callVi (ty := .boolean) 53 rfl dX4_orderMembers_50 (k_X1_isAhead l h24 hS2 gj (b := p q') (by have := (hp.1 q' (by omega)).2.1; omega) (τ2 0 4)) ca_X1_isAhead cv_X1_isAhead rfl aw_14_18 rfl rfl ⟨Nat.le_of_ble_eq_true rfl, Nat.le_of_ble_eq_true rfl⟩ (Nat.le_of_ble_eq_true rfl) ⟨Nat.zero_le _, Nat.zero_le _⟩ ?_
            rintro r9 σ9 ⟨rfl, rfl⟩
            refine wm_if_eq 78 56 rfl (by decide) dX4_orderMembers_53 (fun c53 => ?_) (fun c53 => ?_)
            · refine wm_aload_n 79 rfl dX4_orderMembers_78 rfl rfl ?_
              refine wm_getR 82 rfl dX4_orderMembers_79 gf_X4_30_3 rfl rfl ?_
              refine wm_iload 84 rfl dX4_orderMembers_82 rfl ?_
              refine wm_iload_n 85 rfl dX4_orderMembers_84 rfl rfl ?_
              refine wm_iastore 86 rfl dX4_orderMembers_85 rfl (in24 (by omega) (Nat.le_refl _)) ?_
              rw [nI_clamp (by omega)]
              refine wm_iinc (ls' := [(2, _), (0, _), (1, _), (3, _), (4, _)]) 89 rfl dX4_orderMembers_86 rfl (nI_inc _) (by decide) rfl ?_
              refine wm_iinc (ls' := [(3, _), (2, _), (0, _), (1, _), (4, _)]) 92 rfl dX4_orderMembers_89 rfl (nI_inc _) (by decide) rfl ?_
              refine wm_goto 4 (by decide) dX4_orderMembers_92 ?_
              refine wm_loc (ls2 := [(0, _), (1, _), (2, _), (3, _)]) [2, 3, 1, 0] rfl ?_
              first
                | exact ih (n - (j + 1)) (by omega) (j + 1) (cnt + 1) _ rfl (by omega) (OJ_put (τ0 := τ) hJ hq hcj hm hp (Or.inl q0))
                | exact ih (n - (j + 1)) (by omega) (j + 1) (cnt + 1) _ rfl (by omega) (OJ_put (τ0 := τ) hJ hq hcj hm hp (Or.inr (fun e => (zp_0.mp c53) ((hah _).mpr e))))
            · refine wm_aload_n 57 rfl dX4_orderMembers_56 rfl rfl ?_
              refine wm_getR 60 rfl dX4_orderMembers_57 gf_X4_30_3 rfl rfl ?_
              refine wm_iload 62 rfl dX4_orderMembers_60 rfl ?_
              refine wm_aload_n 63 rfl dX4_orderMembers_62 rfl rfl ?_
              refine wm_getR 66 rfl dX4_orderMembers_63 gf_X4_30_3 rfl rfl ?_
              refine wm_iload 68 rfl dX4_orderMembers_66 rfl ?_
              refine wm_iconst (v := 1) 69 rfl dX4_orderMembers_68 (by decide) ?_
              refine wm_isub 70 rfl dX4_orderMembers_69 ?_
              rw [show nI (q' + 1) - 1 = nI q' from nI_pred q']
              refine wm_iaload 71 rfl dX4_orderMembers_70 rfl (in24 (by omega) (Nat.le_refl _)) ?_
              refine wm_iastore 72 rfl dX4_orderMembers_71 rfl (in24 (by omega) (Nat.le_refl _)) ?_
              rw [nI_clamp (by omega), nI_clamp (by omega)]
              refine wm_iinc (ls' := [(4, _), (0, _), (1, _), (2, _), (3, _)]) 75 rfl dX4_orderMembers_72 rfl (nI_dec _) (by decide) rfl ?_
              refine wm_goto 27 (by decide) dX4_orderMembers_75 ?_
              refine wm_loc (ls2 := [(0, _), (1, _), (2, _), (3, _), (4, _)]) [1, 2, 3, 4, 0] rfl ?_
              exact ih2 q' (by omega) _ (by omega) gj hm (OJ_shift hJ (by omega) ((hah _).mp (zp_n.mp c53)))
      have h1 : τ 1 = σ 1 := ha0 1 (by omega)
      have hI2 : cI τ n := cI_ag h1 hI
      have hg2 : lab τ 19 n g := lab_ag hg (ha0 19 (by omega))
      have hmb : mbr τ n g h j ↔ mbr σ n g h j := by unfold mbr; rw [hd_ag n j h1]
      refine wm_iload_n 5 rfl dX4_orderMembers_4 rfl rfl ?_
      refine wm_aload_n 6 rfl dX4_orderMembers_5 rfl rfl ?_
      refine wm_getR 9 rfl dX4_orderMembers_6 gf_X4_12_3 rfl rfl ?_
      refine wm_getI 12 rfl dX4_orderMembers_9 gf_X4_63_0 rfl rfl ?_
      refine wm_icmp_ge 95 15 rfl (by decide) dX4_orderMembers_12 (fun c12 => ?_) (fun c12 => ?_)
      · rw [h1, hI.1] at c12
        have gj : j = n := by have := le_of_nI c12 (by omega) (by omega); omega
        refine wm_iload_n 96 rfl dX4_orderMembers_95 rfl rfl ?_
        exact wm_iret dX4_orderMembers_96 (by first | rfl | exact zp_nar) ⟨cnt, rfl, by subst gj; exact hinv0⟩
      · rw [h1, hI.1] at c12
        have gj : j < n := lt_of_nnI c12 (by omega) (by omega)
        refine wm_aload_n 16 rfl dX4_orderMembers_15 rfl rfl ?_
        refine wm_iload_n 17 rfl dX4_orderMembers_16 rfl rfl ?_
        refine wm_iload_n 18 rfl dX4_orderMembers_17 rfl rfl ?_
        refine wm_callVi (ty := .boolean) 21 rfl dX4_orderMembers_18 (k_X4_isMember l hI2 hg2 gj (by omega)) ca_X4_isMember cv_X4_isMember rfl aw_8_12 rfl rfl ⟨Nat.le_of_ble_eq_true rfl, Nat.le_of_ble_eq_true rfl⟩ (Nat.le_of_ble_eq_true rfl) ⟨Nat.zero_le _, Nat.zero_le _⟩ ?_
        rintro r9 σ9 ⟨rfl, rfl⟩
        refine wm_if_eq 89 24 rfl (by decide) dX4_orderMembers_21 (fun c21 => ?_) (fun c21 => ?_)
        · refine wm_iinc (ls' := [(3, _), (0, _), (1, _), (2, _)]) 92 rfl dX4_orderMembers_89 rfl (nI_inc _) (by decide) rfl ?_
          refine wm_goto 4 (by decide) dX4_orderMembers_92 ?_
          refine wm_loc (ls2 := [(0, _), (1, _), (2, _), (3, _)]) [1, 2, 3, 0] rfl ?_
          exact ih (n - (j + 1)) (by omega) (j + 1) cnt _ rfl (by omega) (OI_skip hinv0 (fun q => (zp_0.mp c21) (hmb.mpr q)))
        · refine wm_iload_n 25 rfl dX4_orderMembers_24 rfl rfl ?_
          refine wm_istore (ls' := [(4, _), (0, _), (1, _), (2, _), (3, _)]) 27 rfl dX4_orderMembers_25 (by decide) rfl ?_
          refine wm_loc (ls2 := [(0, _), (1, _), (2, _), (3, _), (4, _)]) [1, 2, 3, 4, 0] rfl ?_
          exact lpi cnt τ (Nat.le_refl _) gj (hmb.mp (zp_n.mp c21)) ⟨ha0, fun i hi => (hp.1 i hi).1, fun i h1 h2 => by omega, fun i h1 h2 => by omega⟩
  refine wm_iconst (v := 0) 1 rfl dX4_orderMembers_0 (by decide) ?_
  refine wm_istore_n (ls' := [(2, _), (0, _), (1, _)]) 2 rfl dX4_orderMembers_1 rfl (by decide) rfl ?_
  refine wm_iconst (v := 0) 3 rfl dX4_orderMembers_2 (by decide) ?_
  refine wm_istore_n (ls' := [(3, _), (2, _), (0, _), (1, _)]) 4 rfl dX4_orderMembers_3 rfl (by decide) rfl ?_
  refine wm_loc (ls2 := [(0, _), (1, _), (2, _), (3, _)]) [2, 3, 1, 0] rfl ?_
  exact lp n 0 0 σ rfl (Nat.zero_le _) ⟨fun _ _ => rfl, Nat.le_refl _, fun r => r, fun i hi => absurd hi (Nat.not_lt_zero i), fun r hr => absurd hr (Nat.not_lt_zero r), fun i i2 _ h2 => absurd h2 (Nat.not_lt_zero i2)⟩
theorem k_X4_findFirstByOrder (l : Launch) {σ : Sg} {n : Nat} (hI : cI σ n) {g : Nat → Nat} (hg : lab σ 19 n g) (hS : cS σ n) {h f : Nat} (hh : h < n) (hf : f < 3) : cMi l yX4_findFirstByOrder cX4_findFirstByOrder 5 .int 4 Lc [.ref 0, .int (nI h), .int (nI f)] σ (fun v σ1 => agb 14 σ σ1 ∧ bsI σ n g h f v) := by
  have h24 := hI.2
  refine zMet_of (by decide +kernel) (Nat.le_of_ble_eq_true rfl) (fun D cT ad sz => ?_)
  show Wm (fun _ _ => True) l (rmh 4) RX4 cX4_findFirstByOrder 5 (some .int) D cT ad Lc (zA ad Lc.length sz) (zZ (fun D cT ad L sz => zQi D cT ad L sz (fun v σ1 => agb 14 σ σ1 ∧ bsI σ n g h f v)) D cT ad Lc sz) [] 0 (lv_args 0 [.ref 0, .int (nI h), .int (nI f)]) [] σ 0 0
  have lp : ∀ (cnt : Nat) (τ : Sg) (p : Nat → Nat), agb 14 σ τ → cnt ≤ n → (∀ i, i < cnt → τ 14 i = nI (p i) ∧ p i < n ∧ mbr σ n g h (p i)) → (∀ r, r < n → mbr σ n g h r → ∃ i, i < cnt ∧ p i = r) → (∀ i i2, i < i2 → i2 < cnt → ah σ (p i) (p i2)) → ∀ (q9 j : Nat), cnt - j = q9 → j ≤ cnt → (∀ i, i < j → σ (10 + f) (p i) = -1) → Wm (fun _ _ => True) l (rmh 4) RX4 cX4_findFirstByOrder 5 (some .int) D cT ad Lc (zA ad Lc.length sz) (zZ (fun D cT ad L sz => zQi D cT ad L sz (fun v σ1 => agb 14 σ σ1 ∧ bsI σ n g h f v)) D cT ad Lc sz) [] 9 [(0, .ref 0), (1, .int (nI h)), (2, .int (nI f)), (3, .int (nI cnt)), (4, .int (nI j))] [] τ 0 0 := by
    intro cnt τ p ha0 hcn p1 p2 p3 q9
    induction q9 using Nat.strongRecOn with
    | ind q9 ih =>
      intro j hmj hjj hinv
      refine wm_iload 11 rfl dX4_findFirstByOrder_9 rfl ?_
      refine wm_iload_n 12 rfl dX4_findFirstByOrder_11 rfl rfl ?_
      refine wm_icmp_ge 50 15 rfl (by decide) dX4_findFirstByOrder_12 (fun c12 => ?_) (fun c12 => ?_)
      · have gj : j = cnt := by have := le_of_nI c12 (by omega) (by omega); omega
        refine wm_iconst (v := (-1)) 51 rfl dX4_findFirstByOrder_50 (by decide) ?_
        exact wm_iret dX4_findFirstByOrder_51 (by first | rfl | exact zp_nar) ⟨ha0, Or.inr ⟨rfl, fun r hr ht => by obtain ⟨i, hi, rfl⟩ := p2 r hr ht.1; exact ht.2 (hinv i (by omega))⟩⟩
      · have gj : j < cnt := lt_of_nnI c12 (by omega) (by omega)
        refine wm_aload_n 16 rfl dX4_findFirstByOrder_15 rfl rfl ?_
        refine wm_getR 19 rfl dX4_findFirstByOrder_16 gf_X4_12_3 rfl rfl ?_
        refine wm_getR 22 rfl dX4_findFirstByOrder_19 gf_X4_88_0 rfl rfl ?_
        refine wm_iload_n 23 rfl dX4_findFirstByOrder_22 rfl rfl ?_
        refine wm_aaload (r := 10 + f) 24 rfl dX4_findFirstByOrder_23 rfl (vp_in_nI hf (by omega)) (by rw [nI_clamp (by omega)]) ?_
        refine wm_aload_n 25 rfl dX4_findFirstByOrder_24 rfl rfl ?_
        refine wm_getR 28 rfl dX4_findFirstByOrder_25 gf_X4_30_3 rfl rfl ?_
        refine wm_iload 30 rfl dX4_findFirstByOrder_28 rfl ?_
        refine wm_iaload 31 rfl dX4_findFirstByOrder_30 rfl (in24 (by omega) (Nat.le_refl _)) ?_
        rw [nI_clamp (by omega), (p1 j gj).1]
        have hpj := (p1 j gj).2.1
        refine wm_iaload 32 rfl dX4_findFirstByOrder_31 (Lc_fact hf) (in24 hpj h24) ?_
        refine wm_iconst (v := (-1)) 33 rfl dX4_findFirstByOrder_32 (by decide) ?_
        refine wm_icmp_eq 44 36 rfl (by decide) dX4_findFirstByOrder_33 (fun c33 => ?_) (fun c33 => ?_)
        · rw [nI_clamp (by omega), ha0 (10 + f) (by omega)] at c33
          refine wm_iinc (ls' := [(4, _), (0, _), (1, _), (2, _), (3, _)]) 47 rfl dX4_findFirstByOrder_44 rfl (nI_inc _) (by decide) rfl ?_
          refine wm_goto 9 (by decide) dX4_findFirstByOrder_47 ?_
          refine wm_loc (ls2 := [(0, _), (1, _), (2, _), (3, _), (4, _)]) [1, 2, 3, 4, 0] rfl ?_
          exact ih (cnt - (j + 1)) (by omega) (j + 1) rfl (by omega) (lt_s hinv c33)
        · rw [nI_clamp (by omega), ha0 (10 + f) (by omega)] at c33
          refine wm_aload_n 37 rfl dX4_findFirstByOrder_36 rfl rfl ?_
          refine wm_getR 40 rfl dX4_findFirstByOrder_37 gf_X4_30_3 rfl rfl ?_
          refine wm_iload 42 rfl dX4_findFirstByOrder_40 rfl ?_
          refine wm_iaload 43 rfl dX4_findFirstByOrder_42 rfl (in24 (by omega) (Nat.le_refl _)) ?_
          exact wm_iret dX4_findFirstByOrder_43 (by first | rfl | exact zp_nar) ⟨ha0, Or.inl ⟨p j, hpj, OI_first p1 p2 p3 gj c33 hinv, by rw [nI_clamp (by omega), (p1 j gj).1]⟩⟩
  refine wm_aload_n 1 rfl dX4_findFirstByOrder_0 rfl rfl ?_
  refine wm_iload_n 2 rfl dX4_findFirstByOrder_1 rfl rfl ?_
  refine wm_callVi (ty := .int) 5 rfl dX4_findFirstByOrder_2 (k_X4_orderMembers l hI hg hS hh) ca_X4_orderMembers cv_X4_orderMembers rfl aw_14_14 rfl rfl ⟨Nat.le_of_ble_eq_true rfl, Nat.le_of_ble_eq_true rfl⟩ (Nat.le_of_ble_eq_true rfl) ⟨Nat.zero_le _, Nat.zero_le _⟩ ?_
  rintro r9 τ ⟨cnt, rfl, ha0, hcn, p, p1, p2, p3⟩
  refine wm_istore_n (ls' := [(3, _), (0, _), (1, _), (2, _)]) 6 rfl dX4_findFirstByOrder_5 rfl (by decide) rfl ?_
  refine wm_iconst (v := 0) 7 rfl dX4_findFirstByOrder_6 (by decide) ?_
  refine wm_istore (ls' := [(4, _), (3, _), (0, _), (1, _), (2, _)]) 9 rfl dX4_findFirstByOrder_7 (by decide) rfl ?_
  refine wm_loc (ls2 := [(0, _), (1, _), (2, _), (3, _), (4, _)]) [2, 3, 4, 1, 0] rfl ?_
  exact lp cnt τ p ha0 hcn p1 p2 p3 cnt 0 rfl (Nat.zero_le _) (fun i hi => absurd hi (Nat.not_lt_zero i))
theorem k_X4_isBeaten (l : Launch) {σ : Sg} {n : Nat} (hI : cI σ n) {g : Nat → Nat} (hg : lab σ 19 n g) (hS : cS σ n) {r h f : Nat} (hr : r < n) (hh : h < n) (hf : f < 3) : cMi l yX4_isBeaten cX4_isBeaten 5 .boolean 4 Lc [.ref 0, .int (nI r), .int (nI h), .int (nI f)] σ (pP σ (zp (∃ o, o < n ∧ o ≠ r ∧ tf σ n g h f o ∧ ah σ o r))) := by
  have h24 := hI.2
  refine zMet_of (by decide +kernel) (Nat.le_of_ble_eq_true rfl) (fun D cT ad sz => ?_)
  show Wm (fun _ _ => True) l (rmh 4) RX4 cX4_isBeaten 5 (some .boolean) D cT ad Lc (zA ad Lc.length sz) (zZ (fun D cT ad L sz => zQi D cT ad L sz (pP σ (zp (∃ o, o < n ∧ o ≠ r ∧ tf σ n g h f o ∧ ah σ o r)))) D cT ad Lc sz) [] 0 (lv_args 0 [.ref 0, .int (nI r), .int (nI h), .int (nI f)]) [] σ 0 0
  have lp : ∀ (q9 j : Nat), n - j = q9 → j ≤ n → (∀ o, o < j → ¬ (o ≠ r ∧ tf σ n g h f o ∧ ah σ o r)) → Wm (fun _ _ => True) l (rmh 4) RX4 cX4_isBeaten 5 (some .boolean) D cT ad Lc (zA ad Lc.length sz) (zZ (fun D cT ad L sz => zQi D cT ad L sz (pP σ (zp (∃ o, o < n ∧ o ≠ r ∧ tf σ n g h f o ∧ ah σ o r)))) D cT ad Lc sz) [] 3 [(0, .ref 0), (1, .int (nI r)), (2, .int (nI h)), (3, .int (nI f)), (4, .int (nI j))] [] σ 0 0 := by
    intro q9
    induction q9 using Nat.strongRecOn with
    | ind q9 ih =>
      intro j  hmj hjj hinv
      refine wm_iload 5 rfl dX4_isBeaten_3 rfl ?_
      refine wm_aload_n 6 rfl dX4_isBeaten_5 rfl rfl ?_
      refine wm_getR 9 rfl dX4_isBeaten_6 gf_X4_12_3 rfl rfl ?_
      refine wm_getI 12 rfl dX4_isBeaten_9 gf_X4_63_0 rfl rfl ?_
      refine wm_icmp_ge 57 15 rfl (by decide) dX4_isBeaten_12 (fun c12 => ?_) (fun c12 => ?_)
      · rw [hI.1] at c12
        have gj : j = n := by have := le_of_nI c12 (by omega) (by omega); omega
        refine wm_iconst (v := 0) 58 rfl dX4_isBeaten_57 (by decide) ?_
        exact wm_iret dX4_isBeaten_58 (by first | rfl | exact zp_nar) (pP_i (zp_f (by subst gj; rintro ⟨o, ho, h9⟩; exact hinv o ho h9)))
      · rw [hI.1] at c12
        have gj : j < n := lt_of_nnI c12 (by omega) (by omega)
        refine wm_iload 17 rfl dX4_isBeaten_15 rfl ?_
        refine wm_iload_n 18 rfl dX4_isBeaten_17 rfl rfl ?_
        refine wm_icmp_eq 51 21 rfl (by decide) dX4_isBeaten_18 (fun c18 => ?_) (fun c18 => ?_)
        · refine wm_iinc (ls' := [(4, _), (0, _), (1, _), (2, _), (3, _)]) 54 rfl dX4_isBeaten_51 rfl (nI_inc _) (by decide) rfl ?_
          refine wm_goto 3 (by decide) dX4_isBeaten_54 ?_
          refine wm_loc (ls2 := [(0, _), (1, _), (2, _), (3, _), (4, _)]) [1, 2, 3, 4, 0] rfl ?_
          refine ih (n - (j + 1)) (by omega) (j + 1) rfl (by omega) (lt_s hinv ?_)
          first
            | exact fun q => (zp_0.mp c46) q.2.2
            | exact fun q => (zp_0.mp c29) q.2.1
            | exact fun q => q.1 (eq_of_nI c18 (by omega) (by omega))
        · refine wm_aload_n 22 rfl dX4_isBeaten_21 rfl rfl ?_
          refine wm_iload 24 rfl dX4_isBeaten_22 rfl ?_
          refine wm_iload_n 25 rfl dX4_isBeaten_24 rfl rfl ?_
          refine wm_iload_n 26 rfl dX4_isBeaten_25 rfl rfl ?_
          refine wm_callVi (ty := .boolean) 29 rfl dX4_isBeaten_26 (k_X4_tellsFact l hI hg gj (by omega) hf) ca_X4_tellsFact cv_X4_tellsFact rfl aw_15_10 rfl rfl ⟨Nat.le_of_ble_eq_true rfl, Nat.le_of_ble_eq_true rfl⟩ (Nat.le_of_ble_eq_true rfl) ⟨Nat.zero_le _, Nat.zero_le _⟩ ?_
          rintro r9 σ9 ⟨rfl, rfl⟩
          refine wm_if_eq 51 32 rfl (by decide) dX4_isBeaten_29 (fun c29 => ?_) (fun c29 => ?_)
          · refine wm_iinc (ls' := [(4, _), (0, _), (1, _), (2, _), (3, _)]) 54 rfl dX4_isBeaten_51 rfl (nI_inc _) (by decide) rfl ?_
            refine wm_goto 3 (by decide) dX4_isBeaten_54 ?_
            refine wm_loc (ls2 := [(0, _), (1, _), (2, _), (3, _), (4, _)]) [1, 2, 3, 4, 0] rfl ?_
            refine ih (n - (j + 1)) (by omega) (j + 1) rfl (by omega) (lt_s hinv ?_)
            first
              | exact fun q => (zp_0.mp c46) q.2.2
              | exact fun q => (zp_0.mp c29) q.2.1
              | exact fun q => q.1 (eq_of_nI c18 (by omega) (by omega))
          · refine wm_aload_n 33 rfl dX4_isBeaten_32 rfl rfl ?_
            refine wm_getR 36 rfl dX4_isBeaten_33 gf_X4_12_3 rfl rfl ?_
            refine wm_iload 38 rfl dX4_isBeaten_36 rfl ?_
            refine wm_iload_n 39 rfl dX4_isBeaten_38 rfl rfl ?_
            refine wm_aload_n 40 rfl dX4_isBeaten_39 rfl rfl ?_
            refine wm_getI 43 rfl dX4_isBeaten_40 gf_X4_68_3 rfl rfl ?_
            refine wm_callVi (ty := .boolean) 46 rfl dX4_isBeaten_43 (k_X1_isAhead l h24 hS gj hr (σ 0 4)) ca_X1_isAhead cv_X1_isAhead rfl aw_14_18 rfl rfl ⟨Nat.le_of_ble_eq_true rfl, Nat.le_of_ble_eq_true rfl⟩ (Nat.le_of_ble_eq_true rfl) ⟨Nat.zero_le _, Nat.zero_le _⟩ ?_
            rintro r9 σ9 ⟨rfl, rfl⟩
            refine wm_if_eq 51 49 rfl (by decide) dX4_isBeaten_46 (fun c46 => ?_) (fun c46 => ?_)
            · refine wm_iinc (ls' := [(4, _), (0, _), (1, _), (2, _), (3, _)]) 54 rfl dX4_isBeaten_51 rfl (nI_inc _) (by decide) rfl ?_
              refine wm_goto 3 (by decide) dX4_isBeaten_54 ?_
              refine wm_loc (ls2 := [(0, _), (1, _), (2, _), (3, _), (4, _)]) [1, 2, 3, 4, 0] rfl ?_
              refine ih (n - (j + 1)) (by omega) (j + 1) rfl (by omega) (lt_s hinv ?_)
              first
                | exact fun q => (zp_0.mp c46) q.2.2
                | exact fun q => (zp_0.mp c29) q.2.1
                | exact fun q => q.1 (eq_of_nI c18 (by omega) (by omega))
            · refine wm_iconst (v := 1) 50 rfl dX4_isBeaten_49 (by decide) ?_
              exact wm_iret dX4_isBeaten_50 (by first | rfl | exact zp_nar) (pP_i (zp_t ⟨j, gj, ne_of_nnI c18, zp_n.mp c29, zp_n.mp c46⟩))
  refine wm_iconst (v := 0) 1 rfl dX4_isBeaten_0 (by decide) ?_
  refine wm_istore (ls' := [(4, _), (0, _), (1, _), (2, _), (3, _)]) 3 rfl dX4_isBeaten_1 (by decide) rfl ?_
  refine wm_loc (ls2 := [(0, _), (1, _), (2, _), (3, _), (4, _)]) [1, 2, 3, 4, 0] rfl ?_
  exact lp n 0 rfl (Nat.zero_le _) (fun r hr => absurd hr (Nat.not_lt_zero r))
/-- among those below m that have a fact, one goes first -/
theorem bst_upto {σ : Sg} {n : Nat} {g : Nat → Nat} {h f : Nat} : ∀ m, (∃ r, r < m ∧ tf σ n g h f r) → ∃ r, r < m ∧ tf σ n g h f r ∧ ∀ x, x < m → tf σ n g h f x → x ≠ r → ah σ r x
  | 0, ⟨r, hr, _⟩ => absurd hr (Nat.not_lt_zero r)
  | m + 1, ⟨r, hr, ht⟩ => by
    by_cases hm : ∃ r, r < m ∧ tf σ n g h f r
    · obtain ⟨b, hb, h1, h2⟩ := bst_upto m hm
      by_cases hx : tf σ n g h f m
      · rcases ah_total (σ := σ) (show m ≠ b by omega) with e | e
        · refine ⟨m, by omega, hx, fun x hx2 ht2 hne => ?_⟩
          by_cases e2 : x = b
          · rw [e2]; exact e
          · exact ah_trans e (h2 x (by omega) ht2 e2)
        · refine ⟨b, by omega, h1, fun x hx2 ht2 hne => ?_⟩
          by_cases e2 : x = m
          · rw [e2]; exact e
          · exact h2 x (by omega) ht2 hne
      · refine ⟨b, by omega, h1, fun x hx2 ht2 hne => ?_⟩
        by_cases e2 : x = m
        · subst e2; exact absurd ht2 hx
        · exact h2 x (by omega) ht2 hne
    · have e : r = m := Nat.le_antisymm (by omega) (Nat.le_of_not_lt fun q => hm ⟨r, q, ht⟩)
      subst e
      exact ⟨r, by omega, ht, fun x hx ht2 hne => absurd ⟨x, by omega, ht2⟩ hm⟩
theorem bst_none {σ : Sg} {n : Nat} {g : Nat → Nat} {h f : Nat} (hno : ∀ r, r < n → ¬ bst σ n g h f r) : ∀ r, r < n → ¬ tf σ n g h f r := by
  intro r hr ht
  obtain ⟨b, hb, h1, h2⟩ := bst_upto n ⟨r, hr, ht⟩
  exact hno b hb ⟨h1, h2⟩
theorem k_X4_findFirstByPairs (l : Launch) {σ : Sg} {n : Nat} (hI : cI σ n) {g : Nat → Nat} (hg : lab σ 19 n g) (hS : cS σ n) {h f : Nat} (hh : h < n) (hf : f < 3) : cMi l yX4_findFirstByPairs cX4_findFirstByPairs 4 .int 5 Lc [.ref 0, .int (nI h), .int (nI f)] σ (fun v σ1 => σ = σ1 ∧ bsI σ n g h f v) := by
  have h24 := hI.2
  refine zMet_of (by decide +kernel) (Nat.le_of_ble_eq_true rfl) (fun D cT ad sz => ?_)
  show Wm (fun _ _ => True) l (rmh 5) RX4 cX4_findFirstByPairs 4 (some .int) D cT ad Lc (zA ad Lc.length sz) (zZ (fun D cT ad L sz => zQi D cT ad L sz (fun v σ1 => σ = σ1 ∧ bsI σ n g h f v)) D cT ad Lc sz) [] 0 (lv_args 0 [.ref 0, .int (nI h), .int (nI f)]) [] σ 0 0
  have lp : ∀ (q9 j : Nat), n - j = q9 → j ≤ n → (∀ r, r < j → ¬ bst σ n g h f r) → Wm (fun _ _ => True) l (rmh 5) RX4 cX4_findFirstByPairs 4 (some .int) D cT ad Lc (zA ad Lc.length sz) (zZ (fun D cT ad L sz => zQi D cT ad L sz (fun v σ1 => σ = σ1 ∧ bsI σ n g h f v)) D cT ad Lc sz) [] 2 [(0, .ref 0), (1, .int (nI h)), (2, .int (nI f)), (3, .int (nI j))] [] σ 0 0 := by
    intro q9
    induction q9 using Nat.strongRecOn with
    | ind q9 ih =>
      intro j  hmj hjj hinv
      refine wm_iload_n 3 rfl dX4_findFirstByPairs_2 rfl rfl ?_
      refine wm_aload_n 4 rfl dX4_findFirstByPairs_3 rfl rfl ?_
      refine wm_getR 7 rfl dX4_findFirstByPairs_4 gf_X4_12_3 rfl rfl ?_
      refine wm_getI 10 rfl dX4_findFirstByPairs_7 gf_X4_63_0 rfl rfl ?_
      refine wm_icmp_ge 41 13 rfl (by decide) dX4_findFirstByPairs_10 (fun c10 => ?_) (fun c10 => ?_)
      · rw [hI.1] at c10
        have gj : j = n := by have := le_of_nI c10 (by omega) (by omega); omega
        refine wm_iconst (v := (-1)) 42 rfl dX4_findFirstByPairs_41 (by decide) ?_
        exact wm_iret dX4_findFirstByPairs_42 (by first | rfl | exact zp_nar) ⟨rfl, Or.inr ⟨rfl, by subst gj; exact bst_none hinv⟩⟩
      · rw [hI.1] at c10
        have gj : j < n := lt_of_nnI c10 (by omega) (by omega)
        refine wm_aload_n 14 rfl dX4_findFirstByPairs_13 rfl rfl ?_
        refine wm_iload_n 15 rfl dX4_findFirstByPairs_14 rfl rfl ?_
        refine wm_iload_n 16 rfl dX4_findFirstByPairs_15 rfl rfl ?_
        refine wm_iload_n 17 rfl dX4_findFirstByPairs_16 rfl rfl ?_
        refine wm_callVi (ty := .boolean) 20 rfl dX4_findFirstByPairs_17 (k_X4_tellsFact l hI hg gj (by omega) hf) ca_X4_tellsFact cv_X4_tellsFact rfl aw_15_10 rfl rfl ⟨Nat.le_of_ble_eq_true rfl, Nat.le_of_ble_eq_true rfl⟩ (Nat.le_of_ble_eq_true rfl) ⟨Nat.zero_le _, Nat.zero_le _⟩ ?_
        rintro r9 σ9 ⟨rfl, rfl⟩
        refine wm_if_eq 35 23 rfl (by decide) dX4_findFirstByPairs_20 (fun c20 => ?_) (fun c20 => ?_)
        · refine wm_iinc (ls' := [(3, _), (0, _), (1, _), (2, _)]) 38 rfl dX4_findFirstByPairs_35 rfl (nI_inc _) (by decide) rfl ?_
          refine wm_goto 2 (by decide) dX4_findFirstByPairs_38 ?_
          refine wm_loc (ls2 := [(0, _), (1, _), (2, _), (3, _)]) [1, 2, 3, 0] rfl ?_
          refine ih (n - (j + 1)) (by omega) (j + 1) rfl (by omega) (lt_s hinv ?_)
          first
            | exact fun q => (zp_0.mp c20) q.1
            | exact fun q => by obtain ⟨o, ho, hne, ht, e⟩ := zp_n.mp c30; exact ah_asym e (q.2 o ho ht hne)
        · refine wm_aload_n 24 rfl dX4_findFirstByPairs_23 rfl rfl ?_
          refine wm_iload_n 25 rfl dX4_findFirstByPairs_24 rfl rfl ?_
          refine wm_iload_n 26 rfl dX4_findFirstByPairs_25 rfl rfl ?_
          refine wm_iload_n 27 rfl dX4_findFirstByPairs_26 rfl rfl ?_
          refine wm_callVi (ty := .boolean) 30 rfl dX4_findFirstByPairs_27 (k_X4_isBeaten l hI hg hS gj hh hf) ca_X4_isBeaten cv_X4_isBeaten rfl aw_15_14 rfl rfl ⟨Nat.le_of_ble_eq_true rfl, Nat.le_of_ble_eq_true rfl⟩ (Nat.le_of_ble_eq_true rfl) ⟨Nat.zero_le _, Nat.zero_le _⟩ ?_
          rintro r9 σ9 ⟨rfl, rfl⟩
          refine wm_if_ne 35 33 rfl (by decide) dX4_findFirstByPairs_30 (fun c30 => ?_) (fun c30 => ?_)
          · refine wm_iinc (ls' := [(3, _), (0, _), (1, _), (2, _)]) 38 rfl dX4_findFirstByPairs_35 rfl (nI_inc _) (by decide) rfl ?_
            refine wm_goto 2 (by decide) dX4_findFirstByPairs_38 ?_
            refine wm_loc (ls2 := [(0, _), (1, _), (2, _), (3, _)]) [1, 2, 3, 0] rfl ?_
            refine ih (n - (j + 1)) (by omega) (j + 1) rfl (by omega) (lt_s hinv ?_)
            first
              | exact fun q => (zp_0.mp c20) q.1
              | exact fun q => by obtain ⟨o, ho, hne, ht, e⟩ := zp_n.mp c30; exact ah_asym e (q.2 o ho ht hne)
          · refine wm_iload_n 34 rfl dX4_findFirstByPairs_33 rfl rfl ?_
            exact wm_iret dX4_findFirstByPairs_34 (by first | rfl | exact zp_nar) ⟨rfl, Or.inl ⟨j, gj, ⟨zp_n.mp c20, fun x hx ht hne => by rcases ah_total (σ := σ) (Ne.symm hne) with e | e; exact e; exact absurd ⟨x, hx, hne, ht, e⟩ (zp_0.mp c30)⟩, rfl⟩⟩
  refine wm_iconst (v := 0) 1 rfl dX4_findFirstByPairs_0 (by decide) ?_
  refine wm_istore_n (ls' := [(3, _), (0, _), (1, _), (2, _)]) 2 rfl dX4_findFirstByPairs_1 rfl (by decide) rfl ?_
  refine wm_loc (ls2 := [(0, _), (1, _), (2, _), (3, _)]) [1, 2, 3, 0] rfl ?_
  exact lp n 0 rfl (Nat.zero_le _) (fun r hr => absurd hr (Nat.not_lt_zero r))
