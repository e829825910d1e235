/-! counts by a map that is one to one; pairs counted from both ends -/
theorem cq_del {P : Nat → Prop} {x : Nat} : ∀ {n : Nat}, x < n → P x → cq P n = cq (fun q => P q ∧ q ≠ x) n + 1
  | 0, h, _ => absurd h (Nat.not_lt_zero x)
  | n + 1, h, hp => by
    by_cases e : x = n
    · subst e
      rw [cq_t hp, cq_f (P := fun q => P q ∧ q ≠ x) (fun q => q.2 rfl)]
      congr 1
      exact cq_cong (fun r hr => ⟨fun q => ⟨q, by omega⟩, fun q => q.1⟩)
    · have ih := cq_del (P := P) (n := n) (by omega) hp
      by_cases q : P n
      · rw [cq_t q, cq_t (P := fun q => P q ∧ q ≠ x) ⟨q, fun z => e z.symm⟩, ih]
      · rw [cq_f q, cq_f (P := fun q => P q ∧ q ≠ x) (fun z => q z.1), ih]
theorem cq_inj {S : Nat → Prop} {f : Nat → Nat} {m : Nat} : ∀ {n : Nat} {Q : Nat → Prop}, (∀ r, r < n → S r → f r < m ∧ Q (f r)) → (∀ a b, a < n → b < n → S a → S b → f a = f b → a = b) → cq S n ≤ cq Q m
  | 0, _, _, _ => Nat.zero_le _
  | n + 1, Q, h1, h2 => by
    by_cases hs : S n
    · rw [cq_t hs, cq_del (P := Q) (h1 n (by omega) hs).1 (h1 n (by omega) hs).2]
      have ih := cq_inj (S := S) (f := f) (m := m) (n := n) (Q := fun q => Q q ∧ q ≠ f n) (fun r hr hr2 => ⟨(h1 r (by omega) hr2).1, (h1 r (by omega) hr2).2, fun e => by
        have := h2 r n (by omega) (by omega) hr2 hs e
        omega⟩) (fun a b ha hb => h2 a b (by omega) (by omega))
      omega
    · rw [cq_f hs]
      exact cq_inj (fun r hr => h1 r (by omega)) (fun a b ha hb => h2 a b (by omega) (by omega))
theorem cq_bij {S Q : Nat → Prop} {n m : Nat} (f g : Nat → Nat) (h1 : ∀ r, r < n → S r → f r < m ∧ Q (f r)) (h2 : ∀ q, q < m → Q q → g q < n ∧ S (g q)) (h3 : ∀ r, r < n → S r → g (f r) = r) (h4 : ∀ q, q < m → Q q → f (g q) = q) : cq S n = cq Q m := by
  apply Nat.le_antisymm
  · exact cq_inj h1 (fun a b ha hb sa sb e => by rw [← h3 a ha sa, ← h3 b hb sb, e])
  · exact cq_inj h2 (fun a b ha hb sa sb e => by rw [← h4 a ha sa, ← h4 b hb sb, e])
theorem cq_or {P Q : Nat → Prop} : ∀ {n : Nat}, (∀ r, r < n → ¬ (P r ∧ Q r)) → cq (fun r => P r ∨ Q r) n = cq P n + cq Q n
  | 0, _ => rfl
  | n + 1, h => by
    have ih := cq_or (P := P) (Q := Q) (n := n) (fun r hr => h r (by omega))
    by_cases hp : P n
    · have hq : ¬ Q n := fun q => h n (by omega) ⟨hp, q⟩
      rw [cq_t (P := fun r => P r ∨ Q r) (Or.inl hp), cq_t hp, cq_f hq, ih]; omega
    · by_cases hq : Q n
      · rw [cq_t (P := fun r => P r ∨ Q r) (Or.inr hq), cq_f hp, cq_t hq, ih]; omega
      · rw [cq_f (P := fun r => P r ∨ Q r) (fun z => z.elim hp hq), cq_f hp, cq_f hq, ih]
theorem cq_none {P : Nat → Prop} : ∀ {n : Nat}, (∀ r, r < n → ¬ P r) → cq P n = 0
  | 0, _ => rfl
  | n + 1, h => by rw [cq_f (h n (by omega)), cq_none (fun r hr => h r (by omega))]
theorem cq_one {P : Nat → Prop} {x n : Nat} (hx : x < n) (hp : P x) (h : ∀ r, r < n → P r → r = x) : cq P n = 1 := by
  rw [cq_del hx hp, cq_none (fun r hr q => q.2 (h r hr q.1))]
theorem sq_add {P : Nat → Prop} {f g h : Nat → Nat} : ∀ {n : Nat}, (∀ r, r < n → P r → h r = f r + g r) → sq P h n = sq P f n + sq P g n
  | 0, _ => rfl
  | n + 1, hh => by
    have ih := sq_add (P := P) (f := f) (g := g) (h := h) (n := n) (fun r hr => hh r (by omega))
    by_cases hp : P n
    · rw [sq_t hp, sq_t hp, sq_t hp, ih, hh n (by omega) hp]; omega
    · rw [sq_f hp, sq_f hp, sq_f hp, ih]
/-- a sum with one summand that counts -/
theorem sq_at {P : Nat → Prop} {f : Nat → Nat} {x : Nat} : ∀ {n : Nat}, x < n → P x → (∀ r, r < n → P r → r ≠ x → f r = 0) → sq P f n = f x
  | 0, h, _, _ => absurd h (Nat.not_lt_zero x)
  | n + 1, h, hp, h0 => by
    have z : ∀ {m : Nat}, m ≤ n → (∀ r, r < m → r ≠ x) → sq P f m = 0 := by
      intro m
      induction m with
      | zero => intro _ _; rfl
      | succ m ih =>
        intro hm hr
        by_cases q : P m
        · rw [sq_t q, ih (by omega) (fun r hr2 => hr r (by omega)), h0 m (by omega) q (hr m (by omega))]
        · rw [sq_f q, ih (by omega) (fun r hr2 => hr r (by omega))]
    by_cases e : x = n
    · subst e
      rw [sq_t hp, z (Nat.le_refl _) (fun r hr => by omega)]; omega
    · have ih := sq_at (P := P) (f := f) (n := n) (by omega) hp (fun r hr => h0 r (by omega))
      by_cases q : P n
      · rw [sq_t q, ih, h0 n (by omega) q (fun z => e z.symm)]; rfl
      · rw [sq_f q, ih]
theorem sq_zero {P : Nat → Prop} {f : Nat → Nat} : ∀ {n : Nat}, (∀ r, r < n → P r → f r = 0) → sq P f n = 0
  | 0, _ => rfl
  | n + 1, h => by
    by_cases q : P n
    · rw [sq_t q, sq_zero (fun r hr => h r (by omega)), h n (by omega) q]
    · rw [sq_f q, sq_zero (fun r hr => h r (by omega))]
/-- the pairs of which both live, counted at both ends -/
theorem dbl {μ : Sg} {n : Nat} {lv : Nat → Prop} (hn : n ≤ 24) : ∀ q : Nat, mQ μ n q → (∀ a b i j, i < q → j < q → mtc μ a b i → mtc μ a b j → i = j) →
    sq lv (fun r => cq (fun y => (∃ i, i < q ∧ mtc μ r y i) ∧ lv y) n) n = 2 * cq (fun i => ∃ x y, x < n ∧ y < n ∧ μ 7 i = nI x ∧ μ 8 i = nI y ∧ lv x ∧ lv y) q
  | 0, _, _ => by
    rw [sq_zero (fun r hr _ => cq_none (fun y hy h => by obtain ⟨⟨i, hi, -⟩, -⟩ := h; exact absurd hi (Nat.not_lt_zero i)))]
    rfl
  | q + 1, hQ, hu => by
    have ih := dbl (μ := μ) (lv := lv) hn q (fun i hi => hQ i (by omega)) (fun a b i j hi hj => hu a b i j (by omega) (by omega))
    obtain ⟨x, y, e7, e8, hx, hy, hxy⟩ := hQ q (by omega)
    have hm : ∀ r z, r < n → z < n → (mtc μ r z q ↔ (r = x ∧ z = y) ∨ (r = y ∧ z = x)) := by
      intro r z hr hz
      unfold mtc
      rw [e7, e8]
      constructor
      · rintro (⟨h1, h2⟩ | ⟨h1, h2⟩)
        · exact Or.inl ⟨(eq_of_nI h1 (by omega) (by omega)).symm, (eq_of_nI h2 (by omega) (by omega)).symm⟩
        · exact Or.inr ⟨(eq_of_nI h2 (by omega) (by omega)).symm, (eq_of_nI h1 (by omega) (by omega)).symm⟩
      · rintro (⟨rfl, rfl⟩ | ⟨rfl, rfl⟩)
        · exact Or.inl ⟨rfl, rfl⟩
        · exact Or.inr ⟨rfl, rfl⟩
    have hold : ∀ r z i, r < n → z < n → i < q → mtc μ r z i → ¬ mtc μ r z q := fun r z i hr hz hi h1 h2 => by
      have := hu r z i q (by omega) (by omega) h1 h2
      omega
    have hstep : ∀ r, r < n → lv r → cq (fun z => (∃ i, i < q + 1 ∧ mtc μ r z i) ∧ lv z) n = cq (fun z => (∃ i, i < q ∧ mtc μ r z i) ∧ lv z) n + cq (fun z => mtc μ r z q ∧ lv z) n := by
      intro r hr _
      rw [← cq_or (fun z hz h => by obtain ⟨⟨⟨i, hi, h1⟩, -⟩, h2, -⟩ := h; exact hold r z i hr hz hi h1 h2)]
      refine cq_cong (fun z hz => ?_)
      constructor
      · rintro ⟨⟨i, hi, h1⟩, h2⟩
        by_cases e : i = q
        · subst e; exact Or.inr ⟨h1, h2⟩
        · exact Or.inl ⟨⟨i, by omega, h1⟩, h2⟩
      · rintro (⟨⟨i, hi, h1⟩, h2⟩ | ⟨h1, h2⟩)
        · exact ⟨⟨i, by omega, h1⟩, h2⟩
        · exact ⟨⟨q, by omega, h1⟩, h2⟩
    rw [sq_add hstep, ih]
    have hpq : (∃ x9 y9, x9 < n ∧ y9 < n ∧ μ 7 q = nI x9 ∧ μ 8 q = nI y9 ∧ lv x9 ∧ lv y9) ↔ lv x ∧ lv y := by
      constructor
      · rintro ⟨x2, y2, h1, h2, h3, h4, h5, h6⟩
        rw [e7] at h3; rw [e8] at h4
        rw [eq_of_nI h3 (by omega) (by omega), eq_of_nI h4 (by omega) (by omega)]
        exact ⟨h5, h6⟩
      · rintro ⟨h1, h2⟩
        exact ⟨x, y, hx, hy, e7, e8, h1, h2⟩
    have hlast : sq lv (fun r => cq (fun z => mtc μ r z q ∧ lv z) n) n = if dP (lv x ∧ lv y) then 2 else 0 := by
      by_cases hl : lv x ∧ lv y
      · rw [dP_t.mpr hl, if_pos rfl]
        have hc : ∀ r, r < n → lv r → cq (fun z => mtc μ r z q ∧ lv z) n = (if r = x then 1 else 0) + (if r = y then 1 else 0) := by
          intro r hr _
          by_cases e1 : r = x
          · subst e1
            rw [if_pos rfl, if_neg hxy]
            refine cq_one hy ⟨(hm r y hr hy).mpr (Or.inl ⟨rfl, rfl⟩), hl.2⟩ (fun z hz h => ?_)
            rcases (hm r z hr hz).mp h.1 with h2 | h2
            · exact h2.2
            · exact absurd h2.1 hxy
          · by_cases e2 : r = y
            · subst e2
              rw [if_neg e1, if_pos rfl]
              refine cq_one hx ⟨(hm r x hr hx).mpr (Or.inr ⟨rfl, rfl⟩), hl.1⟩ (fun z hz h => ?_)
              rcases (hm r z hr hz).mp h.1 with h2 | h2
              · exact absurd h2.1 e1
              · exact h2.2
            · rw [if_neg e1, if_neg e2]
              refine cq_none (fun z hz h => ?_)
              rcases (hm r z hr hz).mp h.1 with h2 | h2
              · exact e1 h2.1
              · exact e2 h2.1
        rw [sq_add hc, sq_at hx hl.1 (fun r _ _ hne => if_neg hne), sq_at hy hl.2 (fun r _ _ hne => if_neg hne), if_pos rfl, if_pos rfl]
      · rw [dP_f hl]
        refine sq_zero (fun r hr hlr => cq_none (fun z hz h => ?_))
        rcases (hm r z hr hz).mp h.1 with ⟨rfl, rfl⟩ | ⟨rfl, rfl⟩
        · exact hl ⟨hlr, h.2⟩
        · exact hl ⟨h.2, hlr⟩
    rw [hlast]
    by_cases hl : lv x ∧ lv y
    · rw [dP_t.mpr hl, if_pos rfl, cq_t (P := fun i => ∃ x y, x < n ∧ y < n ∧ μ 7 i = nI x ∧ μ 8 i = nI y ∧ lv x ∧ lv y) (hpq.mpr hl)]; omega
    · rw [dP_f hl, cq_f (P := fun i => ∃ x y, x < n ∧ y < n ∧ μ 7 i = nI x ∧ μ 8 i = nI y ∧ lv x ∧ lv y) (fun z => hl (hpq.mp z))]; simp
