/-! EACH CALL, both sides: writing calls -/
theorem tb_up {σ : Sg} {a b : Nat} (hab : a ≠ b) (ha : a < 32) (hb : b < 32) {x y : Nat} (hy : y < 32) : tb (upM σ a b 13 x) y = (tb (σ 13 x) y && !(decide (x = a) && decide (y = b) || decide (x = b) && decide (y = a))) := by
  unfold upM
  rw [zu_at]
  by_cases e1 : x = b
  · subst e1
    simp only [upd, if_true]
    rw [tb_clear _ ha hy, zu_at]
    simp only [upd]
    rw [if_neg (fun q => hab q.symm)]
    simp [fun q => hab (Eq.symm q), Ne.symm hab]
  · simp only [upd, if_neg e1]
    rw [zu_at]
    by_cases e2 : x = a
    · subst e2
      simp only [upd, if_true]
      rw [tb_clear _ hb hy]
      simp [hab]
    · simp only [upd, if_neg e2]
      simp [e1, e2]
theorem tb_pt {σ : Sg} {a b : Nat} (hab : a ≠ b) (ha : a < 32) (hb : b < 32) {x y : Nat} : tb (ptM σ a b 13 x) y = (tb (σ 13 x) y || (decide (x = a) && decide (y = b) || decide (x = b) && decide (y = a))) := by
  unfold ptM
  rw [zu_at]
  by_cases e1 : x = b
  · subst e1
    simp only [upd, if_true]
    rw [tb_set _ ha, zu_at]
    simp only [upd]
    rw [if_neg (fun q => hab q.symm)]
    simp [Ne.symm hab]
  · simp only [upd, if_neg e1]
    rw [zu_at]
    by_cases e2 : x = a
    · subst e2
      simp only [upd, if_true]
      rw [tb_set _ hb]
      simp [hab]
    · simp only [upd, if_neg e2]
      simp [e1, e2]
section U
variable {σ μ : Sg} {n m p d L : Nat} {sn : Nat → Nat}
theorem u_addSource (hC : Cpl σ μ n m p d L sn) (hm : m < 4) (t : Int32) : Cpl (zu (zu σ 2 m t) 1 7 (nI (m + 1))) (zu (zu μ 1 m t) 0 1 (nI (m + 1))) n (m + 1) p d L sn := by
  obtain ⟨hN, hT, hS, hSe, hK, hF, hL, hP, hZ⟩ := hC
  refine ⟨⟨hN.1, ⟨rfl, rfl, by omega⟩, hN.2.2⟩, ?_, hS, hSe, ?_, ?_, hL, hP, hZ⟩
  · funext b
    show (if b = m then t else σ 2 b) = (if b = m then t else μ 1 b)
    rw [hT]
  · refine ⟨fun s r hs hr => ?_, fun s r hs hr => ?_⟩
    · rw [zu_ne _ _ _ (by omega), zu_ne _ _ _ (by omega), zu_ne _ _ _ (by omega), zu_ne _ _ _ (by omega)]; exact hK.1 s r hs hr
    · rw [zu_ne _ _ _ (by omega), zu_ne _ _ _ (by omega)]; exact hK.2 s r hs hr
  · intro f r hf hr
    rw [zu_ne _ _ _ (by omega), zu_ne _ _ _ (by omega), zu_ne _ _ _ (by omega), zu_ne _ _ _ (by omega)]; exact hF f r hf hr
theorem u_setTrust (hC : Cpl σ μ n m p d L sn) (i : Nat) (t : Int32) : Cpl (zu σ 2 i t) (zu μ 1 i t) n m p d L sn := by
  obtain ⟨hN, hT, hS, hSe, hK, hF, hL, hP, hZ⟩ := hC
  refine ⟨hN, ?_, hS, hSe, ?_, ?_, hL, hP, hZ⟩
  · funext b
    show (if b = i then t else σ 2 b) = (if b = i then t else μ 1 b)
    rw [hT]
  · refine ⟨fun s r hs hr => ?_, fun s r hs hr => ?_⟩
    · rw [zu_ne _ _ _ (by omega), zu_ne _ _ _ (by omega)]; exact hK.1 s r hs hr
    · rw [zu_ne _ _ _ (by omega)]; exact hK.2 s r hs hr
  · intro f r hf hr
    rw [zu_ne _ _ _ (by omega), zu_ne _ _ _ (by omega)]; exact hF f r hf hr
theorem u_setLimit (hC : Cpl σ μ n m p d L sn) {t : Nat} (h1 : 1 ≤ t) (h2 : t ≤ 99) : Cpl (zu σ 0 5 (nI t)) (zu μ 0 11 (nI t)) n m p d t sn := by
  obtain ⟨hN, hT, hS, hSe, hK, hF, hL, hP, hZ⟩ := hC
  refine ⟨⟨hN.1, hN.2.1, hN.2.2.1, hN.2.2.2.1, rfl, rfl, h1, h2⟩, hT, hS, hSe, ?_, ?_, hL, hP, hZ⟩
  · refine ⟨fun s r hs hr => ?_, fun s r hs hr => ?_⟩
    · rw [zu_ne _ _ _ (by omega), zu_ne _ _ _ (by omega)]; exact hK.1 s r hs hr
    · rw [zu_ne _ _ _ (by omega)]; exact hK.2 s r hs hr
  · intro f r hf hr
    rw [zu_ne _ _ _ (by omega), zu_ne _ _ _ (by omega)]; exact hF f r hf hr
theorem u_pass (hC : Cpl σ μ n m p d L sn) {t : Nat} (h1 : d ≤ t) (h2 : t ≤ 999) : Cpl (zu σ 0 4 (nI t)) (zu μ 0 12 (nI t)) n m p t L sn := by
  obtain ⟨hN, hT, hS, hSe, hK, hF, hL, hP, hZ⟩ := hC
  refine ⟨⟨hN.1, hN.2.1, hN.2.2.1, ⟨rfl, rfl, h2⟩, hN.2.2.2.2⟩, hT, hS, ⟨hSe.1, fun r hr => ⟨(hSe.2 r hr).1, Nat.le_trans (hSe.2 r hr).2 h1⟩⟩, ?_, ?_, hL, hP, hZ⟩
  · refine ⟨fun s r hs hr => ?_, fun s r hs hr => ?_⟩
    · rw [zu_ne _ _ _ (by omega), zu_ne _ _ _ (by omega)]; exact hK.1 s r hs hr
    · rw [zu_ne _ _ _ (by omega)]; exact hK.2 s r hs hr
  · intro f r hf hr
    rw [zu_ne _ _ _ (by omega), zu_ne _ _ _ (by omega)]; exact hF f r hf hr
theorem u_see (hC : Cpl σ μ n m p d L sn) (a : Nat) : Cpl (zu σ 4 a (nI d)) (zu μ 3 a (nI d)) n m p d L (fun r => if r = a then d else sn r) := by
  obtain ⟨hN, hT, hS, hSe, hK, hF, hL, hP, hZ⟩ := hC
  refine ⟨hN, hT, hS, ⟨?_, fun r hr => ?_⟩, ?_, ?_, hL, hP, hZ⟩
  · funext b
    show (if b = a then nI d else σ 4 b) = (if b = a then nI d else μ 3 b)
    rw [hSe.1]
  · show (if r = a then nI d else σ 4 r) = nI (if r = a then d else sn r) ∧ (if r = a then d else sn r) ≤ d
    by_cases e : r = a
    · simp [e]
    · simp only [if_neg e]; exact hSe.2 r hr
  · refine ⟨fun s r hs hr => ?_, fun s r hs hr => ?_⟩
    · rw [zu_ne _ _ _ (by omega), zu_ne _ _ _ (by omega)]; exact hK.1 s r hs hr
    · rw [zu_ne _ _ _ (by omega)]; exact hK.2 s r hs hr
  · intro f r hf hr
    rw [zu_ne _ _ _ (by omega), zu_ne _ _ _ (by omega)]; exact hF f r hf hr
theorem u_setKey (hC : Cpl σ μ n m p d L sn) {a i : Nat} (ha : a < n) (hi : i < 3) {v : Int32} (hv : rg v (-1) 99) : Cpl (zu σ (7 + i) a v) (zu μ (11 + a) i v) n m p d L sn := by
  obtain ⟨hN, hT, hS, hSe, hK, hF, hL, hP, hZ⟩ := hC
  have h24 := hN.1.2.2
  have r : ∀ c, c ≠ 7 + i → zu σ (7 + i) a v c = σ c := fun c hc => zu_ne _ _ _ hc
  have w : ∀ c, c ≠ 11 + a → zu μ (11 + a) i v c = μ c := fun c hc => zu_ne _ _ _ hc
  have kv : ∀ s x, s < 3 → zu σ (7 + i) a v (7 + s) x = if s = i ∧ x = a then v else σ (7 + s) x := by
    intro s x hs
    unfold zu
    by_cases e : s = i
    · subst e; by_cases e2 : x = a <;> simp [e2]
    · rw [if_neg (by omega), if_neg (fun q => e q.1)]
  refine ⟨?_, ?_, ?_, ?_, ⟨fun s x hs hx => ?_, fun s x hs hx => ?_⟩, fun f x hf hx => ?_, ?_, ?_, ?_⟩
  · unfold cNu; rw [r 1 (by omega), r 0 (by omega), w 0 (by omega)]; exact hN
  · rw [r 2 (by omega), w 1 (by omega)]; exact hT
  · unfold cSo; rw [r 3 (by omega), w 2 (by omega)]; exact hS
  · unfold cSe; rw [r 4 (by omega), w 3 (by omega)]; exact hSe
  · rw [kv s x hs]
    unfold zu
    by_cases e : s = i ∧ x = a
    · rw [if_pos e, if_pos (by omega), if_pos e.1]
    · rw [if_neg e]
      by_cases e2 : 11 + x = 11 + a
      · rw [if_pos e2, if_neg (fun q => e ⟨q, by omega⟩)]
        rw [hK.1 s x hs hx, e2]
      · rw [if_neg e2]; exact hK.1 s x hs hx
  · rw [kv s x hs]
    by_cases e : s = i ∧ x = a
    · rw [if_pos e]; exact hv
    · rw [if_neg e]; exact hK.2 s x hs hx
  · rw [r (10 + f) (by omega), w (35 + x) (by omega)]; exact hF f x hf hx
  · unfold cLi; rw [r 1 (by omega), w 6 (by omega)]; exact hL
  · unfold cPa mQ mtc; rw [r 13 (by omega), w 7 (by omega), w 8 (by omega)]; exact hP
  · rw [w 0 (by omega)]; exact hZ
theorem u_setFact (hC : Cpl σ μ n m p d L sn) {a i : Nat} (ha : a < n) (hi : i < 3) (v : Int32) : Cpl (zu σ (10 + i) a v) (zu μ (35 + a) i v) n m p d L sn := by
  obtain ⟨hN, hT, hS, hSe, hK, hF, hL, hP, hZ⟩ := hC
  have h24 := hN.1.2.2
  have r : ∀ c, c ≠ 10 + i → zu σ (10 + i) a v c = σ c := fun c hc => zu_ne _ _ _ hc
  have w : ∀ c, c ≠ 35 + a → zu μ (35 + a) i v c = μ c := fun c hc => zu_ne _ _ _ hc
  refine ⟨?_, ?_, ?_, ?_, ⟨fun s x hs hx => ?_, fun s x hs hx => ?_⟩, fun f x hf hx => ?_, ?_, ?_, ?_⟩
  · unfold cNu; rw [r 1 (by omega), r 0 (by omega), w 0 (by omega)]; exact hN
  · rw [r 2 (by omega), w 1 (by omega)]; exact hT
  · unfold cSo; rw [r 3 (by omega), w 2 (by omega)]; exact hS
  · unfold cSe; rw [r 4 (by omega), w 3 (by omega)]; exact hSe
  · rw [r (7 + s) (by omega), w (11 + x) (by omega)]; exact hK.1 s x hs hx
  · rw [r (7 + s) (by omega)]; exact hK.2 s x hs hx
  · unfold zu
    by_cases e : f = i ∧ x = a
    · rw [if_pos (by omega), if_pos e.2, if_pos (by omega), if_pos e.1]
    · by_cases e1 : 10 + f = 10 + i
      · rw [if_pos e1, if_neg (fun q => e ⟨by omega, q⟩), if_neg (fun q => e ⟨by omega, by omega⟩)]
        exact hF f x hf hx
      · rw [if_neg e1]
        by_cases e2 : 35 + x = 35 + a
        · rw [if_pos e2, if_neg (fun q => e1 (by omega))]; exact hF f x hf hx
        · rw [if_neg e2]; exact hF f x hf hx
  · unfold cLi; rw [r 1 (by omega), w 6 (by omega)]; exact hL
  · unfold cPa mQ mtc; rw [r 13 (by omega), w 7 (by omega), w 8 (by omega)]; exact hP
  · rw [w 0 (by omega)]; exact hZ
theorem u_drop (hC : Cpl σ μ n m p d L sn) {a : Nat} (ha : a < n) : Cpl (zu σ 1 6 (σ 1 6 &&& (((1 : Int32) <<< (nI a &&& 31)) ^^^ (-1)))) (zu μ 6 a 1) n m p d L sn := by
  obtain ⟨hN, hT, hS, hSe, hK, hF, hL, hP, hZ⟩ := hC
  have h24 := hN.1.2.2
  refine ⟨hN, hT, hS, hSe, ?_, ?_, ⟨fun r hr => ?_, fun r hr => ?_⟩, hP, hZ⟩
  · refine ⟨fun s r hs hr => ?_, fun s r hs hr => ?_⟩
    · rw [zu_ne _ _ _ (by omega), zu_ne _ _ _ (by omega)]; exact hK.1 s r hs hr
    · rw [zu_ne _ _ _ (by omega)]; exact hK.2 s r hs hr
  · intro f r hf hr
    rw [zu_ne _ _ _ (by omega), zu_ne _ _ _ (by omega)]; exact hF f r hf hr
  · show tb (σ 1 6 &&& (((1 : Int32) <<< (nI a &&& 31)) ^^^ (-1))) r = true ↔ r < n ∧ (if r = a then (1 : Int32) else μ 6 r) = 0
    rw [tb_clear _ (by omega) hr]
    by_cases e : r = a
    · simp [e]
    · simp only [e, decide_false, Bool.not_false, Bool.and_true, if_false]; exact hL.1 r hr
  · show (if r = a then (1 : Int32) else μ 6 r) = 0
    rw [if_neg (by omega)]; exact hL.2 r hr
theorem u_forbid (hC : Cpl σ μ n m p d L sn) (hp : p < 12) {a b : Nat} (ha : a < n) (hb : b < n) (hab : a ≠ b) (hno : ¬ tb (σ 13 a) b = true) : Cpl (zu (ptM σ a b) 1 9 (nI (p + 1))) (zu (zu (zu μ 7 p (nI a)) 8 p (nI b)) 0 10 (nI (p + 1))) n m (p + 1) d L sn := by
  have hQ9 := hC.mQ
  obtain ⟨hN, hT, hS, hSe, hK, hF, hL, hP, hZ⟩ := hC
  have h24 := hN.1.2.2
  have r : ∀ c, c ≠ 13 → ptM σ a b c = σ c := fun c hc => ptM_o σ a b hc
  have e7 : ∀ i, zu (zu (zu μ 7 p (nI a)) 8 p (nI b)) 0 10 (nI (p + 1)) 7 i = if i = p then nI a else μ 7 i := fun _ => rfl
  have e8 : ∀ i, zu (zu (zu μ 7 p (nI a)) 8 p (nI b)) 0 10 (nI (p + 1)) 8 i = if i = p then nI b else μ 8 i := fun _ => rfl
  have hold : ∀ x y i, i < p → (mtc (zu (zu (zu μ 7 p (nI a)) 8 p (nI b)) 0 10 (nI (p + 1))) x y i ↔ mtc μ x y i) := by
    intro x y i hi
    unfold mtc
    rw [e7, e8, if_neg (by omega), if_neg (by omega)]
  have hnew : ∀ x y, x < 2 ^ 31 → y < 2 ^ 31 → (mtc (zu (zu (zu μ 7 p (nI a)) 8 p (nI b)) 0 10 (nI (p + 1))) x y p ↔ (x = a ∧ y = b) ∨ (x = b ∧ y = a)) := by
    intro x y hx hy
    unfold mtc
    rw [e7, e8, if_pos rfl, if_pos rfl]
    constructor
    · rintro (⟨h1, h2⟩ | ⟨h1, h2⟩)
      · exact Or.inl ⟨(eq_of_nI h1 (by omega) hx).symm, (eq_of_nI h2 (by omega) hy).symm⟩
      · exact Or.inr ⟨(eq_of_nI h2 (by omega) hx).symm, (eq_of_nI h1 (by omega) hy).symm⟩
    · rintro (⟨rfl, rfl⟩ | ⟨rfl, rfl⟩)
      · exact Or.inl ⟨rfl, rfl⟩
      · exact Or.inr ⟨rfl, rfl⟩
  have hnone : ∀ i, i < p → ¬ mtc μ a b i := fun i hi q => hno ((hP.2.2 a b (by omega) (by omega)).mpr ⟨i, hi, q⟩)
  refine ⟨?_, ?_, ?_, ?_, ⟨fun s x hs hx => ?_, fun s x hs hx => ?_⟩, fun f x hf hx => ?_, ?_, ⟨?_, ?_, ?_⟩, hZ⟩
  · refine ⟨⟨?_, hN.1.2⟩, ⟨?_, hN.2.1.2⟩, ⟨rfl, rfl, by omega⟩, ⟨?_, hN.2.2.2.1.2⟩, ?_, hN.2.2.2.2.2⟩
    · show ptM σ a b 1 8 = nI n; rw [r 1 (by decide)]; exact hN.1.1
    · show ptM σ a b 1 7 = nI m; rw [r 1 (by decide)]; exact hN.2.1.1
    · show ptM σ a b 0 4 = nI d; rw [r 0 (by decide)]; exact hN.2.2.2.1.1
    · show ptM σ a b 0 5 = nI L; rw [r 0 (by decide)]; exact hN.2.2.2.2.1
  · show ptM σ a b 2 = μ 1; rw [r 2 (by decide)]; exact hT
  · show ptM σ a b 3 = μ 2 ∧ ∀ r, r < n → ∃ s, s < 4 ∧ ptM σ a b 3 r = nI s; rw [r 3 (by decide)]; exact hS
  · show ptM σ a b 4 = μ 3 ∧ ∀ r, r < n → ptM σ a b 4 r = nI (sn r) ∧ sn r ≤ d; rw [r 4 (by decide)]; exact hSe
  · rw [zu_ne _ _ _ (by omega), r (7 + s) (by omega), zu_ne _ _ _ (by omega), zu_ne _ _ _ (by omega), zu_ne _ _ _ (by omega)]; exact hK.1 s x hs hx
  · rw [zu_ne _ _ _ (by omega), r (7 + s) (by omega)]; exact hK.2 s x hs hx
  · rw [zu_ne _ _ _ (by omega), r (10 + f) (by omega), zu_ne _ _ _ (by omega), zu_ne _ _ _ (by omega), zu_ne _ _ _ (by omega)]; exact hF f x hf hx
  · show (∀ x, x < 32 → (tb (ptM σ a b 1 6) x = true ↔ x < n ∧ μ 6 x = 0)) ∧ ∀ x, n ≤ x → μ 6 x = 0
    rw [r 1 (by decide)]; exact hL
  · exact mQ_put rfl rfl hQ9 ha hb hab _
  · intro x y i j hi hj hmi hmj
    by_cases ei : i = p
    · by_cases ej : j = p
      · omega
      · subst ei
        rw [hold x y j (by omega)] at hmj
        rcases hmj with ⟨q1, q2⟩ | ⟨q1, q2⟩ <;> rcases hmi with ⟨q3, q4⟩ | ⟨q3, q4⟩ <;> rw [e7, if_pos rfl] at q3 <;> rw [e8, if_pos rfl] at q4
        · exact absurd (Or.inl ⟨q1.trans q3.symm, q2.trans q4.symm⟩) (hnone j (by omega))
        · exact absurd (Or.inr ⟨q1.trans q4.symm, q2.trans q3.symm⟩) (hnone j (by omega))
        · exact absurd (Or.inr ⟨q1.trans q4.symm, q2.trans q3.symm⟩) (hnone j (by omega))
        · exact absurd (Or.inl ⟨q1.trans q3.symm, q2.trans q4.symm⟩) (hnone j (by omega))
    · by_cases ej : j = p
      · subst ej
        rw [hold x y i (by omega)] at hmi
        rcases hmi with ⟨q1, q2⟩ | ⟨q1, q2⟩ <;> rcases hmj with ⟨q3, q4⟩ | ⟨q3, q4⟩ <;> rw [e7, if_pos rfl] at q3 <;> rw [e8, if_pos rfl] at q4
        · exact absurd (Or.inl ⟨q1.trans q3.symm, q2.trans q4.symm⟩) (hnone i (by omega))
        · exact absurd (Or.inr ⟨q1.trans q4.symm, q2.trans q3.symm⟩) (hnone i (by omega))
        · exact absurd (Or.inr ⟨q1.trans q4.symm, q2.trans q3.symm⟩) (hnone i (by omega))
        · exact absurd (Or.inl ⟨q1.trans q3.symm, q2.trans q4.symm⟩) (hnone i (by omega))
      · rw [hold x y i (by omega)] at hmi
        rw [hold x y j (by omega)] at hmj
        exact hP.2.1 x y i j (by omega) (by omega) hmi hmj
  · intro x y hx hy
    show tb (ptM σ a b 13 x) y = true ↔ _
    rw [tb_pt hab (by omega) (by omega)]
    constructor
    · intro h
      rw [Bool.or_eq_true] at h
      rcases h with h | h
      · obtain ⟨i, hi, hm⟩ := (hP.2.2 x y hx hy).mp h
        exact ⟨i, by omega, (hold x y i hi).mpr hm⟩
      · refine ⟨p, by omega, (hnew x y (by omega) (by omega)).mpr ?_⟩
        simp only [Bool.or_eq_true, Bool.and_eq_true, decide_eq_true_eq] at h
        exact h
    · rintro ⟨i, hi, hm⟩
      rw [Bool.or_eq_true]
      by_cases e : i = p
      · subst e
        have := (hnew x y (by omega) (by omega)).mp hm
        right
        simp only [Bool.or_eq_true, Bool.and_eq_true, decide_eq_true_eq]
        exact this
      · left
        exact (hP.2.2 x y hx hy).mpr ⟨i, by omega, (hold x y i (by omega)).mp hm⟩
theorem u_allow {q : Nat} (hC : Cpl σ μ n m (q + 1) d L sn) {a b i : Nat} (ha : a < n) (hb : b < n) (hi : i < q + 1) (hm : mtc μ a b i) : Cpl (zu (upM σ a b) 1 9 (nI q)) (zu (zu (zu μ 0 10 (nI q)) 7 i (μ 7 q)) 8 i (μ 8 q)) n m q d L sn := by
  have hQ9 := hC.mQ
  obtain ⟨hN, hT, hS, hSe, hK, hF, hL, hP, hZ⟩ := hC
  have h24 := hN.1.2.2
  have h12 := hN.2.2.1.2.2
  have hab : a ≠ b := by
    obtain ⟨x, y, h7, h8, hx, hy, hxy⟩ := hQ9 i hi
    intro e
    subst e
    have h3 : μ 7 i = nI a ∧ μ 8 i = nI a := by rcases hm with h | h <;> exact h
    rw [h7] at h3; rw [h8] at h3
    exact hxy ((eq_of_nI h3.1 (by omega) (by omega)).trans (eq_of_nI h3.2 (by omega) (by omega)).symm)
  have r : ∀ c, c ≠ 13 → upM σ a b c = σ c := fun c hc => upM_o σ a b hc
  have e7 : ∀ j, zu (zu (zu μ 0 10 (nI q)) 7 i (μ 7 q)) 8 i (μ 8 q) 7 j = if j = i then μ 7 q else μ 7 j := fun _ => rfl
  have e8 : ∀ j, zu (zu (zu μ 0 10 (nI q)) 7 i (μ 7 q)) 8 i (μ 8 q) 8 j = if j = i then μ 8 q else μ 8 j := fun _ => rfl
  -- the place j of the new list is the place 'if j = i then q else j' of the old
  have hpl : ∀ x y j, mtc (zu (zu (zu μ 0 10 (nI q)) 7 i (μ 7 q)) 8 i (μ 8 q)) x y j ↔ mtc μ x y (if j = i then q else j) := by
    intro x y j
    unfold mtc
    rw [e7, e8]
    by_cases e : j = i
    · simp only [if_pos e]
    · simp only [if_neg e]
  have hpr : ∀ x y, x < 2 ^ 31 → y < 2 ^ 31 → (mtc μ x y i ↔ (x = a ∧ y = b) ∨ (x = b ∧ y = a)) := by
    intro x y hx hy
    constructor
    · intro h
      rcases hm with ⟨h1, h2⟩ | ⟨h1, h2⟩ <;> rcases h with ⟨h3, h4⟩ | ⟨h3, h4⟩ <;> rw [h1] at h3 <;> rw [h2] at h4
      · exact Or.inl ⟨(eq_of_nI h3 (by omega) hx).symm, (eq_of_nI h4 (by omega) hy).symm⟩
      · exact Or.inr ⟨(eq_of_nI h4 (by omega) hx).symm, (eq_of_nI h3 (by omega) hy).symm⟩
      · exact Or.inr ⟨(eq_of_nI h3 (by omega) hx).symm, (eq_of_nI h4 (by omega) hy).symm⟩
      · exact Or.inl ⟨(eq_of_nI h4 (by omega) hx).symm, (eq_of_nI h3 (by omega) hy).symm⟩
    · rintro (⟨rfl, rfl⟩ | ⟨rfl, rfl⟩)
      · exact hm
      · exact mtc_sy.mp hm
  have hex : ∀ x y, x < 24 → y < 32 → ((∃ j, j < q ∧ mtc (zu (zu (zu μ 0 10 (nI q)) 7 i (μ 7 q)) 8 i (μ 8 q)) x y j) ↔ (∃ j, j < q + 1 ∧ mtc μ x y j) ∧ ¬ mtc μ x y i) := by
    intro x y hx hy
    constructor
    · rintro ⟨j, hj, h1⟩
      rw [hpl] at h1
      refine ⟨⟨_, ?_, h1⟩, fun h2 => ?_⟩
      · by_cases e : j = i
        · rw [if_pos e]; omega
        · rw [if_neg e]; omega
      · have := hP.2.1 x y i (if j = i then q else j) hi (by by_cases e : j = i; rw [if_pos e]; omega; rw [if_neg e]; omega) h2 h1
        by_cases e : j = i
        · rw [if_pos e] at this; omega
        · rw [if_neg e] at this; exact e this.symm
    · rintro ⟨⟨j, hj, h1⟩, h2⟩
      have hji : j ≠ i := fun e => h2 (e ▸ h1)
      by_cases e : j = q
      · subst e
        exact ⟨i, by omega, by rw [hpl, if_pos rfl]; exact h1⟩
      · exact ⟨j, by omega, by rw [hpl, if_neg hji]; exact h1⟩
  refine ⟨?_, ?_, ?_, ?_, ⟨fun s x hs hx => ?_, fun s x hs hx => ?_⟩, fun f x hf hx => ?_, ?_, ⟨?_, ?_, ?_⟩, hZ⟩
  · refine ⟨⟨?_, hN.1.2⟩, ⟨?_, hN.2.1.2⟩, ⟨rfl, rfl, by omega⟩, ⟨?_, hN.2.2.2.1.2⟩, ?_, hN.2.2.2.2.2⟩
    · show upM σ a b 1 8 = nI n; rw [r 1 (by decide)]; exact hN.1.1
    · show upM σ a b 1 7 = nI m; rw [r 1 (by decide)]; exact hN.2.1.1
    · show upM σ a b 0 4 = nI d; rw [r 0 (by decide)]; exact hN.2.2.2.1.1
    · show upM σ a b 0 5 = nI L; rw [r 0 (by decide)]; exact hN.2.2.2.2.1
  · show upM σ a b 2 = μ 1; rw [r 2 (by decide)]; exact hT
  · show upM σ a b 3 = μ 2 ∧ ∀ r, r < n → ∃ s, s < 4 ∧ upM σ a b 3 r = nI s; rw [r 3 (by decide)]; exact hS
  · show upM σ a b 4 = μ 3 ∧ ∀ r, r < n → upM σ a b 4 r = nI (sn r) ∧ sn r ≤ d; rw [r 4 (by decide)]; exact hSe
  · rw [zu_ne _ _ _ (by omega), r (7 + s) (by omega), zu_ne _ _ _ (by omega), zu_ne _ _ _ (by omega), zu_ne _ _ _ (by omega)]; exact hK.1 s x hs hx
  · rw [zu_ne _ _ _ (by omega), r (7 + s) (by omega)]; exact hK.2 s x hs hx
  · rw [zu_ne _ _ _ (by omega), r (10 + f) (by omega), zu_ne _ _ _ (by omega), zu_ne _ _ _ (by omega), zu_ne _ _ _ (by omega)]; exact hF f x hf hx
  · show (∀ x, x < 32 → (tb (upM σ a b 1 6) x = true ↔ x < n ∧ μ 6 x = 0)) ∧ ∀ x, n ≤ x → μ 6 x = 0
    rw [r 1 (by decide)]; exact hL
  · exact mQ_del (σ := μ) (X := μ) rfl rfl hQ9 hi _
  · intro x y j k hj hk h1 h2
    rw [hpl] at h1 h2
    have := hP.2.1 x y _ _ (by by_cases e : j = i; rw [if_pos e]; omega; rw [if_neg e]; omega) (by by_cases e : k = i; rw [if_pos e]; omega; rw [if_neg e]; omega) h1 h2
    by_cases e1 : j = i <;> by_cases e2 : k = i
    · omega
    · rw [if_pos e1, if_neg e2] at this; omega
    · rw [if_neg e1, if_pos e2] at this; omega
    · rw [if_neg e1, if_neg e2] at this; exact this
  · intro x y hx hy
    show tb (upM σ a b 13 x) y = true ↔ _
    rw [tb_up hab (by omega) (by omega) hy, hex x y hx hy, Bool.and_eq_true, hP.2.2 x y hx hy, hpr x y (by omega) (by omega)]
    constructor
    · rintro ⟨h1, h2⟩
      refine ⟨h1, fun h3 => ?_⟩
      rw [show (decide (x = a) && decide (y = b) || decide (x = b) && decide (y = a)) = true by simp only [Bool.or_eq_true, Bool.and_eq_true, decide_eq_true_eq]; exact h3] at h2
      exact absurd h2 (by decide)
    · rintro ⟨h1, h2⟩
      refine ⟨h1, ?_⟩
      cases hb9 : (decide (x = a) && decide (y = b) || decide (x = b) && decide (y = a)) with
      | false => rfl
      | true =>
        simp only [Bool.or_eq_true, Bool.and_eq_true, decide_eq_true_eq] at hb9
        exact absurd hb9 h2
end U
