/-! THE INVARIANT of the class's memory, kept by each call; the groups of memories that agree -/
theorem stq_ky {n : Nat} {lv : Nat → Prop} {ky ky' : Nat → Nat → Int32} {fb : Nat → Nat → Prop} {k : Nat} {g0 g1 : Nat → Nat} (hk : ∀ s, s ≤ k → ky s = ky' s) (h : stq n lv ky fb k g0 g1) : stq n lv ky' fb k g0 g1 := by
  obtain ⟨c, hc, hs⟩ := h
  have e : lkq lv ky k g0 = lkq lv ky' k g0 := by
    funext a b
    unfold lkq
    rw [hk k (Nat.le_refl _)]
  refine ⟨c, e ▸ hc, fun r hr => ⟨fun hm => (hs r hr).1 (mjq_cong (fun s r hs hr => by rw [hk s (by omega)]) (fun _ _ _ _ _ _ => Iff.rfl) (fun _ _ => Iff.rfl) hm), fun hm => (hs r hr).2 (fun q => hm (mjq_cong (fun s r hs hr => by rw [hk s (by omega)]) (fun _ _ _ _ _ _ => Iff.rfl) (fun _ _ => Iff.rfl) q))⟩⟩
theorem grs_ky {n : Nat} {lv : Nat → Prop} {ky ky' : Nat → Nat → Int32} {fb : Nat → Nat → Prop} {g : Nat → Nat → Nat} (hk : ∀ s, s < 3 → ky s = ky' s) (h : grs n lv ky fb g) : grs n lv ky' fb g :=
  ⟨stq_ky (fun s hs => hk s (by omega)) h.1, stq_ky (fun s hs => hk s (by omega)) h.2.1, stq_ky (fun s hs => hk s (by omega)) h.2.2⟩
/-- the groups' numbers are what the three steps give -/
def GR (σ : Sg) (n : Nat) : Prop := grs n (hd σ n) (kyC σ) (fbC σ) (gC σ n)
theorem stb.sy {σ τ : Sg} (h : stb σ τ) : stb τ σ := fun a ha => (h a ha).symm
theorem hd_b {σ τ : Sg} (n : Nat) (h : stb σ τ) : hd τ n = hd σ n := by funext i; exact propext (hd_ag n i (h 1 (by omega)))
theorem GR_stb {σ τ : Sg} {n : Nat} (h : stb σ τ) (hg : GR τ n) : GR σ n ∧ ∀ k r, k < 3 → r < n → gC τ n k r = gC σ n k r := by
  have e3 : fbC τ = fbC σ := by
    funext a b
    show (tb (τ 13 a) b = true) = (tb (σ 13 a) b = true)
    rw [h 13 (by omega)]
  have hk : ∀ s, s < 3 → kyC τ s = kyC σ s := fun s hs => by
    funext r
    show τ (7 + s) r = σ (7 + s) r
    rw [h (7 + s) (by omega)]
  have h1 : grs n (hd σ n) (kyC σ) (fbC σ) (gC τ n) := by
    have h2 := grs_ky hk hg
    rw [hd_b n h, e3] at h2
    exact h2
  exact ⟨gq_grs h1, fun k r hk hr => gq_eq h1 k r hk hr⟩
theorem GR_eq {σ τ : Sg} {n : Nat} (h : stb σ τ) (hg : GR σ n) : ∀ k r, k < 3 → r < n → gC τ n k r = gC σ n k r := fun k r hk hr => ((GR_stb h.sy hg).2 k r hk hr).symm
theorem JD.gr {σ τ : Sg} {n : Nat} (h : JD σ n τ) : GR σ n := h.2.1
theorem GR.LI {σ : Sg} {n : Nat} (h : GR σ n) : LIq n (hd σ n) (gC σ n 2) := grs_LI h 2 (by omega)
theorem GR.lt {σ : Sg} {n a : Nat} (h : GR σ n) (ha : a < n) : gC σ n 2 a ≤ a := (h.LI a ha).1
theorem GR.id {σ : Sg} {n a : Nat} (h : GR σ n) (ha : a < n) : gC σ n 2 (gC σ n 2 a) = gC σ n 2 a := (h.LI a ha).2.1
theorem GR.hd {σ : Sg} {n a : Nat} (h : GR σ n) (ha : hd σ n a) : hd σ n (gC σ n 2 a) := (h.LI a ha.1).2.2.1 ha
theorem mbr_b {σ τ : Sg} {n : Nat} (h : stb σ τ) (hg : GR σ n) (x : Nat) {r : Nat} (hr : r < n) : mbr τ n (gC τ n 2) x r ↔ mbr σ n (gC σ n 2) x r := by
  unfold mbr
  rw [GR_eq h hg 2 r (by omega) hr, hd_b n h]
theorem THs_b {σ τ : Sg} {n : Nat} (h : stb σ τ) (hg : GR σ n) : cq (THs τ n) n = cq (THs σ n) n := cq_cong (fun r hr => by unfold THs; exact mbr_b h hg r hr)
/-- two that came together in a step: before, or by a key with no other one stronger and none forbidden -/
theorem stq_two {n : Nat} {lv : Nat → Prop} {ky : Nat → Nat → Int32} {fb : Nat → Nat → Prop} {k : Nat} {g0 g1 : Nat → Nat} (h : stq n lv ky fb k g0 g1) (hg : LIq n lv g0) {a b : Nat} (ha : a < n) (hb : b < n) (la : lv a) (lb : lv b) (e : g1 a = g1 b) : g0 a = g0 b ∨ ((∀ s, s < k → ky s a ≠ -1 → ky s b ≠ -1 → ky s a = ky s b) ∧ ¬ fb a b) := by
  obtain ⟨c, hc, hs⟩ := h
  have key : ∀ r, r < n → c (g1 r) = c r := by
    intro r hr
    by_cases hm : mjq n ky fb k (fun x => lv x ∧ c x = c r)
    · rw [(hs r hr).1 hm]
      exact hc.idem hr
    · rw [(hs r hr).2 hm]
      have hg0 := hg r hr
      exact (hc.2.1 r (g0 r) hr (by omega) (Or.inl hg0.2.1.symm)).symm
  have ec : c a = c b := by rw [← key a ha, ← key b hb, e]
  by_cases hm : mjq n ky fb k (fun x => lv x ∧ c x = c a)
  · exact Or.inr ⟨fun s hs ka kb => hm.1 s hs a b ha hb ⟨la, rfl⟩ ⟨lb, ec.symm⟩ ka kb, hm.2 a b ha hb ⟨la, rfl⟩ ⟨lb, ec.symm⟩⟩
  · have h1 := (hs a ha).2 hm
    have h2 := (hs b hb).2 (by rw [← ec]; exact hm)
    exact Or.inl (by rw [← h1, ← h2, e])
theorem grs_nofb {n : Nat} {lv : Nat → Prop} {ky : Nat → Nat → Int32} {fb : Nat → Nat → Prop} {g : Nat → Nat → Nat} (h : grs n lv ky fb g) {a b : Nat} (ha : a < n) (hb : b < n) (la : lv a) (lb : lv b) (hab : a ≠ b) (e : g 2 a = g 2 b) : ¬ fb a b := by
  rcases stq_two h.2.2 (grs_LI h 1 (by omega)) ha hb la lb e with e1 | e1
  · rcases stq_two h.2.1 (grs_LI h 0 (by omega)) ha hb la lb e1 with e2 | e2
    · rcases stq_two h.1 (LIq_id n lv) ha hb la lb e2 with e3 | e3
      · exact absurd e3 hab
      · exact e3.2
    · exact e2.2
  · exact e1.2
theorem grs_keys {n : Nat} {lv : Nat → Prop} {ky : Nat → Nat → Int32} {fb : Nat → Nat → Prop} {g : Nat → Nat → Nat} (h : grs n lv ky fb g) {a b : Nat} (ha : a < n) (hb : b < n) (la : lv a) (lb : lv b) (hab : a ≠ b) {k : Nat} (hk : k < 3) (e : g k a = g k b) (hm : ∀ s, s < k → g s a ≠ g s b) : ∀ s, s < k → ky s a ≠ -1 → ky s b ≠ -1 → ky s a = ky s b := by
  match k, hk with
  | 0, _ => exact fun s hs => absurd hs (Nat.not_lt_zero s)
  | 1, _ =>
    rcases stq_two h.2.1 (grs_LI h 0 (by omega)) ha hb la lb e with e2 | e2
    · exact absurd e2 (hm 0 (by omega))
    · exact e2.1
  | 2, _ =>
    rcases stq_two h.2.2 (grs_LI h 1 (by omega)) ha hb la lb e with e2 | e2
    · exact absurd e2 (hm 1 (by omega))
    · exact e2.1
theorem cq_upp {P : Nat → Prop} : ∀ {j x : Nat}, x < j → P x → cq P x < cq P j
  | 0, x, h, _ => absurd h (Nat.not_lt_zero x)
  | j + 1, x, h, hp => by
    by_cases e : x = j
    · subst e; rw [cq_t hp]; omega
    · have ih := cq_upp (P := P) (j := j) (x := x) (by omega) hp
      by_cases q : P j
      · rw [cq_t q]; omega
      · rw [cq_f q]; omega
theorem cq_ix {P : Nat → Prop} {j : Nat} : ∀ {n : Nat}, j < cq P n → ∃ x, x < n ∧ P x ∧ cq P x = j
  | 0, h => absurd h (Nat.not_lt_zero j)
  | n + 1, h => by
    by_cases q : P n
    · rw [cq_t q] at h
      by_cases e : j = cq P n
      · exact ⟨n, by omega, q, e.symm⟩
      · obtain ⟨x, hx, h1, h2⟩ := cq_ix (P := P) (j := j) (n := n) (by omega)
        exact ⟨x, by omega, h1, h2⟩
    · rw [cq_f q] at h
      obtain ⟨x, hx, h1, h2⟩ := cq_ix h
      exact ⟨x, by omega, h1, h2⟩
theorem cq_zero {P : Nat → Prop} : ∀ {n : Nat}, (∀ r, r < n → ¬ P r) → cq P n = 0
  | 0, _ => rfl
  | n + 1, h => by rw [cq_f (h n (by omega))]; exact cq_zero (fun r hr => h r (by omega))
theorem cq_ext {P : Nat → Prop} {n : Nat} (h : ∀ r, P r → r < n) : ∀ q, cq P (n + q) = cq P n
  | 0 => rfl
  | q + 1 => by rw [← Nat.add_assoc, cq_f (fun hp => by have := h _ hp; omega)]; exact cq_ext h q
theorem cq_inj1 {P : Nat → Prop} {x y : Nat} (hx : P x) (hy : P y) (e : cq P x = cq P y) : x = y := by
  rcases Nat.lt_trichotomy x y with h | h | h
  · have := cq_upp h hx; omega
  · exact h
  · have := cq_upp h hy; omega
theorem tb_up {σ : Sg} {a b : Nat} (hab : a ≠ b) (ha : a < 32) (hb : b < 32) {x y : Nat} (hy : y < 32) : tb (upM σ a b 13 x) y = (tb (σ 13 x) y && !(decide (x = a) && decide (y = b) || decide (x = b) && decide (y = a))) := by
  unfold upM
  rw [zu_at]
  by_cases e1 : x = b
  · subst e1
    simp only [upd, if_true]
    rw [tb_clear _ ha hy, zu_at]
    simp only [upd]
    rw [if_neg (fun q => hab q.symm)]
    simp [fun q => hab (Eq.symm q), Ne.symm hab]
  · simp only [upd, if_neg e1]
    rw [zu_at]
    by_cases e2 : x = a
    · subst e2
      simp only [upd, if_true]
      rw [tb_clear _ hb hy]
      simp [hab]
    · simp only [upd, if_neg e2]
      simp [e1, e2]
theorem tb_pt {σ : Sg} {a b : Nat} (hab : a ≠ b) (ha : a < 32) (hb : b < 32) {x y : Nat} : tb (ptM σ a b 13 x) y = (tb (σ 13 x) y || (decide (x = a) && decide (y = b) || decide (x = b) && decide (y = a))) := by
  unfold ptM
  rw [zu_at]
  by_cases e1 : x = b
  · subst e1
    simp only [upd, if_true]
    rw [tb_set _ ha, zu_at]
    simp only [upd]
    rw [if_neg (fun q => hab q.symm)]
    simp [Ne.symm hab]
  · simp only [upd, if_neg e1]
    rw [zu_at]
    by_cases e2 : x = a
    · subst e2
      simp only [upd, if_true]
      rw [tb_set _ hb]
      simp [hab]
    · simp only [upd, if_neg e2]
      simp [e1, e2]
/-- a float that is a share: more than 0, at most 1 -/
theorem ff_in : ∀ s, s < 25 → ∀ a, a < 25 → s ≠ 0 → s ≤ a → ¬ Op.cmpValue (FP.fcmp (FP.fdiv (FP.i2f (nI s)) (FP.i2f (nI a))) FP.fconst0) .g ≤ 0 ∧ Op.cmpValue (FP.fcmp (FP.fdiv (FP.i2f (nI s)) (FP.i2f (nI a))) FP.fconst1) .l ≤ 0 := by decide +kernel
/-- the pairs that are forbidden: as many as the number says -/
def cQ (σ : Sg) (n p : Nat) : Prop := ∃ P : List (Nat × Nat), P.Nodup ∧ P.length = p ∧ (∀ q ∈ P, q.1 < q.2 ∧ q.2 < n) ∧ ∀ a b, a < 24 → b < 32 → (tb (σ 13 a) b = true ↔ ((a, b) ∈ P ∨ (b, a) ∈ P))
/-- THE INVARIANT -/
def CI (σ : Sg) (n m p d L : Nat) (sn : Nat → Nat) : Prop := cI σ n ∧ (σ 1 7 = nI m ∧ m ≤ 4) ∧ (σ 1 9 = nI p ∧ p ≤ 12) ∧ cD σ n sn d L ∧ (∀ a, a < n → ∃ s, s < 4 ∧ σ 3 a = nI s) ∧ (∀ s r, s < 3 → r < n → rg (σ (7 + s) r) (-1) 99) ∧ (∀ f r, f < 3 → r < n → rg (σ (10 + f) r) (-1) 999) ∧ (∀ r, r < 32 → tb (σ 1 6) r = true → r < n) ∧ cQ σ n p
section CI
variable {σ τ : Sg} {n m p d L : Nat} {sn : Nat → Nat}
theorem CI.cI (h : CI σ n m p d L sn) : cI σ n := h.1
theorem CI.n24 (h : CI σ n m p d L sn) : n ≤ 24 := h.1.2
theorem CI.cD (h : CI σ n m p d L sn) : cD σ n sn d L := h.2.2.2.1
theorem CI.cS (h : CI σ n m p d L sn) : cS σ n := h.2.2.2.2.1
theorem CI.sy (h : CI σ n m p d L sn) : ∀ a b, a < 24 → b < 24 → tb (σ 13 a) b = true → a ≠ b ∧ tb (σ 13 b) a = true := by
  obtain ⟨P, h1, h2, h3, h4⟩ := h.2.2.2.2.2.2.2.2
  intro a b ha hb ht
  have h5 := (h4 a b ha (by omega)).mp ht
  refine ⟨?_, (h4 b a hb (by omega)).mpr h5.symm⟩
  rcases h5 with h5 | h5
  · have := h3 _ h5; simp only at this; omega
  · have := h3 _ h5; simp only at this; omega
theorem CI.st (h : CI σ n m p d L sn) (hs : stb σ τ) : CI τ n m p d L sn := by
  obtain ⟨h1, h2, h3, h4, h5, h6, h7, h8, h9⟩ := h
  refine ⟨hs.cIy h1, by rw [hs 1 (by omega)]; exact h2, by rw [hs 1 (by omega)]; exact h3, hs.cDy h4, fun a ha => by rw [hs 3 (by omega)]; exact h5 a ha, fun s r hs9 hr => by rw [hs (7 + s) (by omega)]; exact h6 s r hs9 hr, fun f r hf hr => by rw [hs (10 + f) (by omega)]; exact h7 f r hf hr, by rw [hs 1 (by omega)]; exact h8, ?_⟩
  unfold cQ
  rw [hs 13 (by omega)]
  exact h9
theorem v_addSource (h : CI σ n m p d L sn) (hm : m < 4) (t : Int32) : CI (zu (zu σ 2 m t) 1 7 (nI (m + 1))) n (m + 1) p d L sn := by
  obtain ⟨h1, h2, h3, h4, h5, h6, h7, h8, h9⟩ := h
  refine ⟨h1, ⟨rfl, by omega⟩, h3, h4, h5, fun s r hs hr => ?_, fun f r hf hr => ?_, h8, h9⟩
  · rw [zu_ne _ _ _ (by omega), zu_ne _ _ _ (by omega)]; exact h6 s r hs hr
  · rw [zu_ne _ _ _ (by omega), zu_ne _ _ _ (by omega)]; exact h7 f r hf hr
theorem v_setLimit (h : CI σ n m p d L sn) {t : Nat} (t1 : 1 ≤ t) (t2 : t ≤ 99) : CI (zu σ 0 5 (nI t)) n m p d t sn := by
  obtain ⟨h1, h2, h3, h4, h5, h6, h7, h8, h9⟩ := h
  refine ⟨h1, h2, h3, ⟨h4.1, h4.2.1, h4.2.2.1, rfl, t1, t2⟩, h5, fun s r hs hr => ?_, fun f r hf hr => ?_, h8, h9⟩
  · rw [zu_ne _ _ _ (by omega)]; exact h6 s r hs hr
  · rw [zu_ne _ _ _ (by omega)]; exact h7 f r hf hr
theorem v_pass (h : CI σ n m p d L sn) {t : Nat} (t1 : d ≤ t) (t2 : t ≤ 999) : CI (zu σ 0 4 (nI t)) n m p t L sn := by
  obtain ⟨h1, h2, h3, h4, h5, h6, h7, h8, h9⟩ := h
  refine ⟨h1, h2, h3, ⟨fun r hr => ⟨(h4.1 r hr).1, Nat.le_trans (h4.1 r hr).2 t1⟩, rfl, t2, h4.2.2.2.1, h4.2.2.2.2.1, h4.2.2.2.2.2⟩, h5, fun s r hs hr => ?_, fun f r hf hr => ?_, h8, h9⟩
  · rw [zu_ne _ _ _ (by omega)]; exact h6 s r hs hr
  · rw [zu_ne _ _ _ (by omega)]; exact h7 f r hf hr
theorem v_see (h : CI σ n m p d L sn) (a : Nat) : CI (zu σ 4 a (nI d)) n m p d L (fun r => if r = a then d else sn r) := by
  obtain ⟨h1, h2, h3, h4, h5, h6, h7, h8, h9⟩ := h
  refine ⟨h1, h2, h3, ⟨fun r hr => ?_, h4.2⟩, h5, fun s r hs hr => ?_, fun f r hf hr => ?_, h8, h9⟩
  · show (if r = a then nI d else σ 4 r) = nI (if r = a then d else sn r) ∧ (if r = a then d else sn r) ≤ d
    by_cases e : r = a
    · simp [e]
    · simp only [if_neg e]; exact h4.1 r hr
  · rw [zu_ne _ _ _ (by omega)]; exact h6 s r hs hr
  · rw [zu_ne _ _ _ (by omega)]; exact h7 f r hf hr
theorem v_setKey (h : CI σ n m p d L sn) {a i : Nat} (hi : i < 3) {v : Int32} (hv : rg v (-1) 99) : CI (zu σ (7 + i) a v) n m p d L sn := by
  obtain ⟨h1, h2, h3, h4, h5, h6, h7, h8, h9⟩ := h
  have r : ∀ c, c ≠ 7 + i → zu σ (7 + i) a v c = σ c := fun c hc => zu_ne _ _ _ hc
  refine ⟨cI_ag (r 1 (by omega)) h1, by rw [r 1 (by omega)]; exact h2, by rw [r 1 (by omega)]; exact h3, by unfold cD; rw [r 4 (by omega), r 0 (by omega)]; exact h4, fun a ha => by rw [r 3 (by omega)]; exact h5 a ha, fun s x hs hx => ?_, fun f x hf hx => by rw [r (10 + f) (by omega)]; exact h7 f x hf hx, by rw [r 1 (by omega)]; exact h8, by unfold cQ; rw [r 13 (by omega)]; exact h9⟩
  unfold zu
  by_cases e : 7 + s = 7 + i
  · rw [if_pos e]
    by_cases e2 : x = a
    · rw [if_pos e2]; exact hv
    · rw [if_neg e2]; exact h6 s x hs hx
  · rw [if_neg e]; exact h6 s x hs hx
theorem v_setFact (h : CI σ n m p d L sn) {a i : Nat} (hi : i < 3) {v : Int32} (hv : rg v (-1) 999) : CI (zu σ (10 + i) a v) n m p d L sn := by
  obtain ⟨h1, h2, h3, h4, h5, h6, h7, h8, h9⟩ := h
  have r : ∀ c, c ≠ 10 + i → zu σ (10 + i) a v c = σ c := fun c hc => zu_ne _ _ _ hc
  refine ⟨cI_ag (r 1 (by omega)) h1, by rw [r 1 (by omega)]; exact h2, by rw [r 1 (by omega)]; exact h3, by unfold cD; rw [r 4 (by omega), r 0 (by omega)]; exact h4, fun a ha => by rw [r 3 (by omega)]; exact h5 a ha, fun s x hs hx => by rw [r (7 + s) (by omega)]; exact h6 s x hs hx, fun f x hf hx => ?_, by rw [r 1 (by omega)]; exact h8, by unfold cQ; rw [r 13 (by omega)]; exact h9⟩
  unfold zu
  by_cases e : 10 + f = 10 + i
  · rw [if_pos e]
    by_cases e2 : x = a
    · rw [if_pos e2]; exact hv
    · rw [if_neg e2]; exact h7 f x hf hx
  · rw [if_neg e]; exact h7 f x hf hx
theorem v_drop (h : CI σ n m p d L sn) {a : Nat} (ha : a < n) : CI (zu σ 1 6 (σ 1 6 &&& (((1 : Int32) <<< (nI a &&& 31)) ^^^ (-1)))) n m p d L sn := by
  have h24 := h.n24
  obtain ⟨h1, h2, h3, h4, h5, h6, h7, h8, h9⟩ := h
  refine ⟨h1, h2, h3, h4, h5, fun s r hs hr => ?_, fun f r hf hr => ?_, fun r hr ht => ?_, h9⟩
  · rw [zu_ne _ _ _ (by omega)]; exact h6 s r hs hr
  · rw [zu_ne _ _ _ (by omega)]; exact h7 f r hf hr
  · have ht2 : tb (σ 1 6 &&& (((1 : Int32) <<< (nI a &&& 31)) ^^^ (-1))) r = true := ht
    rw [tb_clear _ (by omega) hr, Bool.and_eq_true] at ht2
    exact h8 r hr ht2.1
def acM (σ : Sg) (n : Nat) (s k0 k1 k2 : Int32) : Sg := zu (zu (zu (zu (zu (prM σ n s (σ 0 4) 3) 1 8 (nI (n + 1))) 1 6 (σ 1 6 ||| ((1 : Int32) <<< (nI n &&& 31)))) 7 n k0) 8 n k1) 9 n k2
theorem v_addRecord (h : CI σ n m p d L sn) (hn : n < 24) {i : Nat} (hi : i < m) {k0 k1 k2 : Int32} (q0 : rg k0 (-1) 99) (q1 : rg k1 (-1) 99) (q2 : rg k2 (-1) 99) : CI (acM σ n (nI i) k0 k1 k2) (n + 1) m p d L (fun r => if r = n then d else sn r) := by
  obtain ⟨h1, h2, h3, h4, h5, h6, h7, h8, h9⟩ := h
  have kc : ∀ s r, s < 3 → acM σ n (nI i) k0 k1 k2 (7 + s) r = if r = n then (match s with | 0 => k0 | 1 => k1 | _ => k2) else σ (7 + s) r := by
    intro s r hs
    match s, hs with
    | 0, _ => rfl
    | 1, _ => rfl
    | 2, _ => rfl
  have fc : ∀ f r, f < 3 → acM σ n (nI i) k0 k1 k2 (10 + f) r = if r = n then -1 else σ (10 + f) r := by
    intro f r hf
    match f, hf with
    | 0, _ => rfl
    | 1, _ => rfl
    | 2, _ => rfl
  refine ⟨⟨rfl, by omega⟩, h2, h3, ⟨fun r hr => ?_, h4.2⟩, fun r hr => ?_, fun s r hs hr => ?_, fun f r hf hr => ?_, fun r hr ht => ?_, ?_⟩
  · show (if r = n then σ 0 4 else σ 4 r) = nI (if r = n then d else sn r) ∧ (if r = n then d else sn r) ≤ d
    by_cases e : r = n
    · simp only [if_pos e]; exact ⟨h4.2.1, Nat.le_refl _⟩
    · simp only [if_neg e]; exact h4.1 r (by omega)
  · show ∃ s, s < 4 ∧ (if r = n then nI i else σ 3 r) = nI s
    by_cases e : r = n
    · rw [if_pos e]; exact ⟨i, by omega, rfl⟩
    · rw [if_neg e]; exact h5 r (by omega)
  · rw [kc s r hs]
    by_cases e : r = n
    · rw [if_pos e]
      match s, hs with
      | 0, _ => exact q0
      | 1, _ => exact q1
      | 2, _ => exact q2
    · rw [if_neg e]; exact h6 s r hs (by omega)
  · rw [fc f r hf]
    by_cases e : r = n
    · rw [if_pos e]; exact ⟨by decide, by decide⟩
    · rw [if_neg e]; exact h7 f r hf (by omega)
  · have ht2 : tb (σ 1 6 ||| ((1 : Int32) <<< (nI n &&& 31))) r = true := ht
    rw [tb_set _ (by omega), Bool.or_eq_true, decide_eq_true_eq] at ht2
    rcases ht2 with ht2 | ht2
    · have := h8 r hr ht2; omega
    · omega
  · obtain ⟨P, g1, g2, g3, g4⟩ := h9
    exact ⟨P, g1, g2, fun q hq => ⟨(g3 q hq).1, by have := (g3 q hq).2; omega⟩, g4⟩
theorem v_forbid (h : CI σ n m p d L sn) (hp : p < 12) {a b : Nat} (ha : a < n) (hb : b < n) (hab : a ≠ b) (hno : ¬ tb (σ 13 a) b = true) : CI (zu (ptM σ a b) 1 9 (nI (p + 1))) n m (p + 1) d L sn := by
  have h24 := h.n24
  have hsy := h.sy
  obtain ⟨h1, h2, h3, h4, h5, h6, h7, h8, P, g1, g2, g3, g4⟩ := h
  have r : ∀ c, c ≠ 1 → c ≠ 13 → zu (ptM σ a b) 1 9 (nI (p + 1)) c = σ c := fun c hc hc2 => by rw [zu_ne _ _ _ hc, ptM_o _ _ _ hc2]
  have e1 : ptM σ a b 1 = σ 1 := ptM_o _ _ _ (by decide)
  refine ⟨?_, ?_, ⟨rfl, by omega⟩, ?_, fun x hx => by rw [r 3 (by decide) (by decide)]; exact h5 x hx, fun s x hs hx => by rw [r (7 + s) (by omega) (by omega)]; exact h6 s x hs hx, fun f x hf hx => by rw [r (10 + f) (by omega) (by omega)]; exact h7 f x hf hx, ?_, ?_⟩
  · refine ⟨?_, h24⟩
    show ptM σ a b 1 8 = nI n
    rw [e1]; exact h1.1
  · refine ⟨?_, h2.2⟩
    show ptM σ a b 1 7 = nI m
    rw [e1]; exact h2.1
  · exact h4
  · intro x hx ht
    have ht2 : tb (ptM σ a b 1 6) x = true := ht
    rw [e1] at ht2
    exact h8 x hx ht2
  · have hn1 : (a, b) ∉ P := fun q => hno ((g4 a b (by omega) (by omega)).mpr (Or.inl q))
    have hn2 : (b, a) ∉ P := fun q => hno ((g4 a b (by omega) (by omega)).mpr (Or.inr q))
    have ht9 : ∀ x y, x < 24 → y < 32 → (tb (zu (ptM σ a b) 1 9 (nI (p + 1)) 13 x) y = true ↔ (tb (σ 13 x) y = true ∨ (x = a ∧ y = b) ∨ (x = b ∧ y = a))) := by
      intro x y hx hy
      rw [zu_ne _ _ _ (by decide : (13 : Nat) ≠ 1), tb_pt hab (by omega) (by omega)]
      simp only [Bool.or_eq_true, Bool.and_eq_true, decide_eq_true_eq]
    rcases Nat.lt_or_gt_of_ne hab with hlt | hlt
    · refine ⟨(a, b) :: P, List.nodup_cons.mpr ⟨hn1, g1⟩, by rw [List.length_cons, g2], fun q hq => ?_, fun x y hx hy => ?_⟩
      · rcases List.mem_cons.mp hq with rfl | hq
        · exact ⟨hlt, hb⟩
        · exact g3 q hq
      · rw [ht9 x y hx hy, g4 x y hx hy]
        simp only [List.mem_cons, Prod.mk.injEq]
        constructor
        · rintro ((q | q) | q | q)
          · exact Or.inl (Or.inr q)
          · exact Or.inr (Or.inr q)
          · exact Or.inl (Or.inl q)
          · exact Or.inr (Or.inl ⟨q.2, q.1⟩)
        · rintro ((q | q) | q | q)
          · exact Or.inr (Or.inl q)
          · exact Or.inl (Or.inl q)
          · exact Or.inr (Or.inr ⟨q.2, q.1⟩)
          · exact Or.inl (Or.inr q)
    · refine ⟨(b, a) :: P, List.nodup_cons.mpr ⟨hn2, g1⟩, by rw [List.length_cons, g2], fun q hq => ?_, fun x y hx hy => ?_⟩
      · rcases List.mem_cons.mp hq with rfl | hq
        · exact ⟨hlt, ha⟩
        · exact g3 q hq
      · rw [ht9 x y hx hy, g4 x y hx hy]
        simp only [List.mem_cons, Prod.mk.injEq]
        constructor
        · rintro ((q | q) | q | q)
          · exact Or.inl (Or.inr q)
          · exact Or.inr (Or.inr q)
          · exact Or.inr (Or.inl ⟨q.2, q.1⟩)
          · exact Or.inl (Or.inl q)
        · rintro ((q | q) | q | q)
          · exact Or.inr (Or.inr q)
          · exact Or.inl (Or.inl q)
          · exact Or.inr (Or.inl ⟨q.2, q.1⟩)
          · exact Or.inl (Or.inr q)
theorem v_allow (h : CI σ n m p d L sn) {a b : Nat} (ha : a < n) (hb : b < n) (hyes : tb (σ 13 a) b = true) : ∃ q, CI (zu (upM σ a b) 1 9 (σ 1 9 - 1)) n m q d L sn := by
  have h24 := h.n24
  have hab := (h.sy a b (by omega) (by omega) hyes).1
  obtain ⟨h1, h2, h3, h4, h5, h6, h7, h8, P, g1, g2, g3, g4⟩ := h
  have r : ∀ c, c ≠ 1 → c ≠ 13 → zu (upM σ a b) 1 9 (σ 1 9 - 1) c = σ c := fun c hc hc2 => by rw [zu_ne _ _ _ hc, upM_o _ _ _ hc2]
  have e1 : upM σ a b 1 = σ 1 := upM_o _ _ _ (by decide)
  have ht9 : ∀ x y, x < 24 → y < 32 → (tb (zu (upM σ a b) 1 9 (σ 1 9 - 1) 13 x) y = true ↔ (tb (σ 13 x) y = true ∧ ¬ ((x = a ∧ y = b) ∨ (x = b ∧ y = a)))) := by
    intro x y hx hy
    rw [zu_ne _ _ _ (by decide : (13 : Nat) ≠ 1), tb_up hab (by omega) (by omega) hy]
    simp only [Bool.and_eq_true, Bool.not_eq_true', Bool.or_eq_false_iff, Bool.and_eq_false_iff, decide_eq_false_iff_not, not_or]
    exact and_congr_right (fun _ => by omega)
  have hmem := (g4 a b (by omega) (by omega)).mp hyes
  have fin : ∀ c e : Nat, (c, e) ∈ P → ((c = a ∧ e = b) ∨ (c = b ∧ e = a)) → ∃ q, CI (zu (upM σ a b) 1 9 (σ 1 9 - 1)) n m q d L sn := by
    intro c e hce hor
    have hlen : P.length ≠ 0 := fun q => by
      rw [List.length_eq_zero_iff] at q
      rw [q] at hce
      exact absurd hce List.not_mem_nil
    have hlt := g3 _ hce
    simp only at hlt
    refine ⟨p - 1, ?_, ?_, ⟨?_, by omega⟩, ?_, fun x hx => by rw [r 3 (by decide) (by decide)]; exact h5 x hx, fun s x hs hx => by rw [r (7 + s) (by omega) (by omega)]; exact h6 s x hs hx, fun f x hf hx => by rw [r (10 + f) (by omega) (by omega)]; exact h7 f x hf hx, ?_, ?_⟩
    · refine ⟨?_, h24⟩
      show upM σ a b 1 8 = nI n
      rw [e1]; exact h1.1
    · refine ⟨?_, h2.2⟩
      show upM σ a b 1 7 = nI m
      rw [e1]; exact h2.1
    · show σ 1 9 - 1 = nI (p - 1)
      rw [h3.1, show (1 : Int32) = nI 1 from rfl, pk_subN (by omega)]
    · exact h4
    · intro x hx ht
      have ht2 : tb (upM σ a b 1 6) x = true := ht
      rw [e1] at ht2
      exact h8 x hx ht2
    · refine ⟨P.erase (c, e), g1.erase _, by rw [List.length_erase_of_mem hce, g2], fun q hq => g3 q (List.mem_of_mem_erase hq), fun x y hx hy => ?_⟩
      rw [ht9 x y hx hy, g4 x y hx hy, g1.mem_erase_iff, g1.mem_erase_iff]
      have w : ∀ x y : Nat, ((x, y) ∈ P → x < y) := fun x y q => (g3 _ q).1
      constructor
      · rintro ⟨q | q, k⟩
        · refine Or.inl ⟨fun z => k ?_, q⟩
          have z1 := congrArg Prod.fst z
          have z2 := congrArg Prod.snd z
          simp only at z1 z2
          subst z1; subst z2
          exact hor
        · refine Or.inr ⟨fun z => k ?_, q⟩
          have z1 := congrArg Prod.fst z
          have z2 := congrArg Prod.snd z
          simp only at z1 z2
          subst z1; subst z2
          exact hor.symm.imp (fun z => ⟨z.2, z.1⟩) (fun z => ⟨z.2, z.1⟩)
      · rintro (⟨k, q⟩ | ⟨k, q⟩)
        · refine ⟨Or.inl q, fun z => k ?_⟩
          have hxy := w x y q
          have : x = c ∧ y = e := by omega
          rw [this.1, this.2]
        · refine ⟨Or.inr q, fun z => k ?_⟩
          have hxy := w y x q
          have : y = c ∧ x = e := by omega
          rw [this.1, this.2]
  rcases hmem with q | q
  · exact fin a b q (Or.inl ⟨rfl, rfl⟩)
  · exact fin b a q (Or.inr ⟨rfl, rfl⟩)
theorem CI.pop (h : CI σ n m p d L sn) : popc (σ 1 6) = cq (hd σ n) 24 := by
  have h24 := h.n24
  have e : cq (fun i => tb (σ 1 6) i = true) 32 = cq (hd σ n) 32 := cq_cong (fun r hr => ⟨fun q => ⟨h.2.2.2.2.2.2.2.1 r hr q, q⟩, fun q => q.2⟩)
  unfold popc
  have e2 := cq_ext (P := hd σ n) (n := n) (fun r hr => hr.1) (32 - n)
  have e3 := cq_ext (P := hd σ n) (n := n) (fun r hr => hr.1) (24 - n)
  rw [show n + (32 - n) = 32 by omega] at e2
  rw [show n + (24 - n) = 24 by omega] at e3
  rw [e, e2, e3]
end CI
