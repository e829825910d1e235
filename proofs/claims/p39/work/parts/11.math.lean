/-! GROUPS, apart from any machine: n records, who lives, their keys, who is forbidden to be with whom -/
/-- b can be come to from a by links among the records below n -/
def rch (n : Nat) (lk : Nat → Nat → Prop) (a b : Nat) : Prop := ∀ P : Nat → Prop, P a → (∀ x y, x < n → y < n → lk x y → P x → P y) → P b
theorem rch_rf {n : Nat} {lk : Nat → Nat → Prop} (a : Nat) : rch n lk a a := fun _ h _ => h
theorem rch_tr {n : Nat} {lk : Nat → Nat → Prop} {a b c : Nat} (h1 : rch n lk a b) (h2 : rch n lk b c) : rch n lk a c := fun P ha hc => h2 P (h1 P ha hc) hc
theorem rch_1 {n : Nat} {lk : Nat → Nat → Prop} {a b : Nat} (ha : a < n) (hb : b < n) (h : lk a b) : rch n lk a b := fun _ hp hc => hc a b ha hb h hp
theorem rch_sy {n : Nat} {lk : Nat → Nat → Prop} (hs : ∀ a b, lk a b → lk b a) {a b : Nat} (h : rch n lk a b) : rch n lk b a :=
  h (fun x => rch n lk x a) (rch_rf a) (fun _ _ hx hy hl hp => rch_tr (rch_1 hy hx (hs _ _ hl)) hp)
theorem rch_lt {n : Nat} {lk : Nat → Nat → Prop} {a b : Nat} (ha : a < n) (h : rch n lk a b) : b < n := h (fun x => x < n) ha (fun _ _ _ hy _ _ => hy)
/-- c is of each record the lowest one of its cluster -/
def Comp (n : Nat) (lk : Nat → Nat → Prop) (c : Nat → Nat) : Prop := (∀ r, r < n → c r ≤ r) ∧ (∀ a b, a < n → b < n → lk a b → c a = c b) ∧ ∀ r, r < n → rch n lk r (c r)
theorem Comp.const {n : Nat} {lk : Nat → Nat → Prop} {c : Nat → Nat} (h : Comp n lk c) {a b : Nat} (hr : rch n lk a b) : c b = c a :=
  hr (fun x => c x = c a) rfl (fun x y hx hy hl hp => (h.2.1 x y hx hy hl).symm.trans hp)
theorem Comp.uniq {n : Nat} {lk lk' : Nat → Nat → Prop} {c c' : Nat → Nat} (h : Comp n lk c) (h' : Comp n lk' c') (hl : ∀ a b, a < n → b < n → lk a b → a = b ∨ lk' a b) (hl' : ∀ a b, a < n → b < n → lk' a b → a = b ∨ lk a b) {r : Nat} (hr : r < n) : c r = c' r := by
  have k1 : c' (c r) = c' r := h.2.2 r hr (fun x => c' x = c' r) rfl (fun x y hx hy hxy hp => by
    rcases hl x y hx hy hxy with e | e
    · rw [← e]; exact hp
    · exact (h'.2.1 x y hx hy e).symm.trans hp)
  have k2 : c (c' r) = c r := h'.2.2 r hr (fun x => c x = c r) rfl (fun x y hx hy hxy hp => by
    rcases hl' x y hx hy hxy with e | e
    · rw [← e]; exact hp
    · exact (h.2.1 x y hx hy e).symm.trans hp)
  have a1 := h.1 r hr
  have a2 := h'.1 r hr
  have b1 := h'.1 (c r) (by omega)
  have b2 := h.1 (c' r) (by omega)
  omega
theorem Comp.idem {n : Nat} {lk : Nat → Nat → Prop} {c : Nat → Nat} (h : Comp n lk c) {r : Nat} (hr : r < n) : c (c r) = c r := h.const (h.2.2 r hr)
def lkq (lv : Nat → Prop) (ky : Nat → Nat → Int32) (k : Nat) (g : Nat → Nat) (a b : Nat) : Prop := g a = g b ∨ (lv a ∧ lv b ∧ ky k a ≠ -1 ∧ ky k a = ky k b)
theorem lkq_sy {lv : Nat → Prop} {ky : Nat → Nat → Int32} {k : Nat} {g : Nat → Nat} : ∀ a b, lkq lv ky k g a b → lkq lv ky k g b a := by
  rintro a b (h | ⟨h1, h2, h3, h4⟩)
  · exact Or.inl h.symm
  · exact Or.inr ⟨h2, h1, by rw [← h4]; exact h3, h4.symm⟩
/-- whether the records of S may become one group by the step for k -/
def mjq (n : Nat) (ky : Nat → Nat → Int32) (fb : Nat → Nat → Prop) (k : Nat) (S : Nat → Prop) : Prop := (∀ s, s < k → ∀ a b, a < n → b < n → S a → S b → ky s a ≠ -1 → ky s b ≠ -1 → ky s a = ky s b) ∧ ∀ a b, a < n → b < n → S a → S b → ¬ fb a b
def stq (n : Nat) (lv : Nat → Prop) (ky : Nat → Nat → Int32) (fb : Nat → Nat → Prop) (k : Nat) (g0 g1 : Nat → Nat) : Prop := ∃ c, Comp n (lkq lv ky k g0) c ∧ ∀ r, r < n → (mjq n ky fb k (fun x => lv x ∧ c x = c r) → g1 r = c r) ∧ (¬ mjq n ky fb k (fun x => lv x ∧ c x = c r) → g1 r = g0 r)
/-- what groups' numbers are: the lowest of the group, living with it; a dropped record's is its own -/
def LIq (n : Nat) (lv : Nat → Prop) (g : Nat → Nat) : Prop := ∀ r, r < n → g r ≤ r ∧ g (g r) = g r ∧ (lv r → lv (g r)) ∧ (¬ lv r → g r = r)
theorem LIq_id (n : Nat) (lv : Nat → Prop) : LIq n lv (fun r => r) := fun r _ => ⟨Nat.le_refl _, rfl, id, fun _ => rfl⟩
theorem Comp.live {n : Nat} {lv : Nat → Prop} {ky : Nat → Nat → Int32} {k : Nat} {g c : Nat → Nat} (h : Comp n (lkq lv ky k g) c) (hg : LIq n lv g) {r : Nat} (hr : r < n) : (lv r → lv (c r)) ∧ (¬ lv r → c r = r) := by
  constructor
  · intro hl
    refine h.2.2 r hr (fun x => lv x) hl (fun x y hx hy hxy hp => ?_)
    rcases hxy with e | ⟨-, e, -⟩
    · refine Classical.byContradiction fun hn => hn ?_
      have h1 := (hg x hx).2.2.1 hp
      rw [e, (hg y hy).2.2.2 hn] at h1
      exact h1
    · exact e
  · intro hl
    refine h.2.2 r hr (fun x => x = r) rfl (fun x y hx hy hxy hp => ?_)
    subst hp
    rcases hxy with e | ⟨e, -⟩
    · rw [(hg x hx).2.2.2 hl] at e
      refine Classical.byContradiction fun hn => ?_
      have hy2 : lv y := Classical.byContradiction fun q => hn ((hg y hy).2.2.2 q ▸ e.symm)
      exact hl (e ▸ (hg y hy).2.2.1 hy2)
    · exact absurd e hl
theorem stq_LI {n : Nat} {lv : Nat → Prop} {ky : Nat → Nat → Int32} {fb : Nat → Nat → Prop} {k : Nat} {g0 g1 : Nat → Nat} (h : stq n lv ky fb k g0 g1) (hg : LIq n lv g0) : LIq n lv g1 := by
  obtain ⟨c, hc, hs⟩ := h
  intro r hr
  have hcr := hc.1 r hr
  have hl := hc.live hg hr
  have hg0 := hg r hr
  by_cases hm : mjq n ky fb k (fun x => lv x ∧ c x = c r)
  · have e1 := (hs r hr).1 hm
    have e2 := hc.idem hr
    have e3 : g1 (c r) = c (c r) := (hs (c r) (by omega)).1 (by rw [e2]; exact hm)
    exact ⟨by omega, by rw [e1, e3, e2], by rw [e1]; exact hl.1, by rw [e1]; exact hl.2⟩
  · have e1 := (hs r hr).2 hm
    have e2 : c (g0 r) = c r := (hc.2.1 r (g0 r) hr (by omega) (Or.inl hg0.2.1.symm)).symm
    have e3 : g1 (g0 r) = g0 (g0 r) := (hs (g0 r) (by omega)).2 (by rw [e2]; exact hm)
    exact ⟨by omega, by rw [e1, e3, hg0.2.1], by rw [e1]; exact hg0.2.2.1, by rw [e1]; exact hg0.2.2.2⟩
def grs (n : Nat) (lv : Nat → Prop) (ky : Nat → Nat → Int32) (fb : Nat → Nat → Prop) (g : Nat → Nat → Nat) : Prop := stq n lv ky fb 0 (fun r => r) (g 0) ∧ stq n lv ky fb 1 (g 0) (g 1) ∧ stq n lv ky fb 2 (g 1) (g 2)
theorem lkq_cong {n : Nat} {lv lv' : Nat → Prop} {ky ky' : Nat → Nat → Int32} {k : Nat} {g g' : Nat → Nat} (h1 : ∀ r, r < n → (lv r ↔ lv' r)) (h2 : ∀ r, r < n → ky k r = ky' k r) (h4 : ∀ r, r < n → g r = g' r) : ∀ a b, a < n → b < n → lkq lv ky k g a b → a = b ∨ lkq lv' ky' k g' a b := by
  intro a b ha hb h
  right
  rcases h with h | ⟨p, q, u, v⟩
  · exact Or.inl (by rw [← h4 a ha, ← h4 b hb]; exact h)
  · exact Or.inr ⟨(h1 a ha).mp p, (h1 b hb).mp q, by rw [← h2 a ha]; exact u, by rw [← h2 a ha, ← h2 b hb]; exact v⟩
theorem mjq_cong {n : Nat} {ky ky' : Nat → Nat → Int32} {fb fb' : Nat → Nat → Prop} {k : Nat} {S S' : Nat → Prop} (h2 : ∀ s r, s < k → r < n → ky s r = ky' s r) (h3 : ∀ a b, a < n → b < n → S a → S b → (fb a b ↔ fb' a b)) (h4 : ∀ r, r < n → (S r ↔ S' r)) (h : mjq n ky fb k S) : mjq n ky' fb' k S' := by
  refine ⟨fun s hs a b ha hb sa sb ka kb => ?_, fun a b ha hb sa sb q => ?_⟩
  · rw [← h2 s a hs ha, ← h2 s b hs hb]
    exact h.1 s hs a b ha hb ((h4 a ha).mpr sa) ((h4 b hb).mpr sb) (by rw [h2 s a hs ha]; exact ka) (by rw [h2 s b hs hb]; exact kb)
  · exact h.2 a b ha hb ((h4 a ha).mpr sa) ((h4 b hb).mpr sb) ((h3 a b ha hb ((h4 a ha).mpr sa) ((h4 b hb).mpr sb)).mpr q)
theorem stq_uniq {n : Nat} {lv lv' : Nat → Prop} {ky ky' : Nat → Nat → Int32} {fb fb' : Nat → Nat → Prop} {k : Nat} {g0 g0' g1 g1' : Nat → Nat} (h : stq n lv ky fb k g0 g1) (h' : stq n lv' ky' fb' k g0' g1') (hg : ∀ r, r < n → g0 r = g0' r)
    (h1 : ∀ r, r < n → (lv r ↔ lv' r)) (h2 : ∀ s r, s ≤ k → r < n → ky s r = ky' s r) (h3 : ∀ a b, a < n → b < n → lv a → lv b → (fb a b ↔ fb' a b)) {r : Nat} (hr : r < n) : g1 r = g1' r := by
  obtain ⟨c, hc, hs⟩ := h
  obtain ⟨c', hc', hs'⟩ := h'
  have ec : ∀ x, x < n → c x = c' x := fun x hx => Comp.uniq hc hc' (lkq_cong h1 (fun r hr => h2 k r (Nat.le_refl _) hr) hg) (lkq_cong (fun r hr => (h1 r hr).symm) (fun r hr => (h2 k r (Nat.le_refl _) hr).symm) (fun r hr => (hg r hr).symm)) hx
  have em : mjq n ky fb k (fun x => lv x ∧ c x = c r) ↔ mjq n ky' fb' k (fun x => lv' x ∧ c' x = c' r) := by
    constructor
    · exact mjq_cong (fun s r hs hr => h2 s r (by omega) hr) (fun a b ha hb sa sb => h3 a b ha hb sa.1 sb.1) (fun x hx => by rw [h1 x hx, ec x hx, ec r hr])
    · exact mjq_cong (fun s r hs hr => (h2 s r (by omega) hr).symm) (fun a b ha hb sa sb => (h3 a b ha hb ((h1 a ha).mpr sa.1) ((h1 b hb).mpr sb.1)).symm) (fun x hx => by rw [h1 x hx, ec x hx, ec r hr])
  by_cases hm : mjq n ky fb k (fun x => lv x ∧ c x = c r)
  · rw [(hs r hr).1 hm, (hs' r hr).1 (em.mp hm), ec r hr]
  · rw [(hs r hr).2 hm, (hs' r hr).2 (fun q => hm (em.mpr q)), hg r hr]
theorem grs_uniq {n : Nat} {lv lv' : Nat → Prop} {ky ky' : Nat → Nat → Int32} {fb fb' : Nat → Nat → Prop} {g g' : Nat → Nat → Nat} (h : grs n lv ky fb g) (h' : grs n lv' ky' fb' g')
    (h1 : ∀ r, r < n → (lv r ↔ lv' r)) (h2 : ∀ s r, s < 3 → r < n → ky s r = ky' s r) (h3 : ∀ a b, a < n → b < n → lv a → lv b → (fb a b ↔ fb' a b)) : ∀ k r, k < 3 → r < n → g k r = g' k r := by
  have e0 : ∀ r, r < n → g 0 r = g' 0 r := fun r hr => stq_uniq h.1 h'.1 (fun _ _ => rfl) h1 (fun s r hs hr => h2 s r (by omega) hr) h3 hr
  have e1 : ∀ r, r < n → g 1 r = g' 1 r := fun r hr => stq_uniq h.2.1 h'.2.1 e0 h1 (fun s r hs hr => h2 s r (by omega) hr) h3 hr
  have e2 : ∀ r, r < n → g 2 r = g' 2 r := fun r hr => stq_uniq h.2.2 h'.2.2 e1 h1 (fun s r hs hr => h2 s r (by omega) hr) h3 hr
  intro k r hk hr
  match k, hk with
  | 0, _ => exact e0 r hr
  | 1, _ => exact e1 r hr
  | 2, _ => exact e2 r hr
theorem grs_LI {n : Nat} {lv : Nat → Prop} {ky : Nat → Nat → Int32} {fb : Nat → Nat → Prop} {g : Nat → Nat → Nat} (h : grs n lv ky fb g) : ∀ k, k < 3 → LIq n lv (g k) := by
  have e0 := stq_LI h.1 (LIq_id n lv)
  have e1 := stq_LI h.2.1 e0
  have e2 := stq_LI h.2.2 e1
  intro k hk
  match k, hk with
  | 0, _ => exact e0
  | 1, _ => exact e1
  | 2, _ => exact e2
/-- the groups' numbers, by choice: any that the three steps give -/
noncomputable def gq (n : Nat) (lv : Nat → Prop) (ky : Nat → Nat → Int32) (fb : Nat → Nat → Prop) : Nat → Nat → Nat := Classical.epsilon (grs n lv ky fb)
theorem gq_grs {n : Nat} {lv : Nat → Prop} {ky : Nat → Nat → Int32} {fb : Nat → Nat → Prop} {g : Nat → Nat → Nat} (h : grs n lv ky fb g) : grs n lv ky fb (gq n lv ky fb) := Classical.epsilon_spec ⟨g, h⟩
theorem gq_eq {n : Nat} {lv : Nat → Prop} {ky : Nat → Nat → Int32} {fb : Nat → Nat → Prop} {g : Nat → Nat → Nat} (h : grs n lv ky fb g) : ∀ k r, k < 3 → r < n → g k r = gq n lv ky fb k r :=
  grs_uniq h (gq_grs h) (fun _ _ => Iff.rfl) (fun _ _ _ _ => rfl) (fun _ _ _ _ _ _ => Iff.rfl)
/-! rounds -/
def finq (n : Nat) (lk : Nat → Nat → Prop) (c : Nat → Nat) (r : Nat) : Prop := ∀ x, rch n lk r x → c r ≤ x
theorem finq_comp {n : Nat} {lk : Nat → Nat → Prop} {c : Nat → Nat} (h1 : ∀ r, r < n → c r ≤ r) (h2 : ∀ r, r < n → rch n lk r (c r)) (hs : ∀ a b, lk a b → lk b a) (hf : ∀ r, r < n → finq n lk c r) : Comp n lk c := by
  refine ⟨h1, fun a b ha hb hl => ?_, h2⟩
  have p := hf a ha (c b) (rch_tr (rch_1 ha hb hl) (h2 b hb))
  have q := hf b hb (c a) (rch_tr (rch_1 hb ha (hs _ _ hl)) (h2 a ha))
  omega
/-- a round that looks at each pair makes one record more final, or all are -/
theorem finq_step {n : Nat} {lk : Nat → Nat → Prop} {c c' : Nat → Nat} (h2 : ∀ r, r < n → rch n lk r (c r)) (h2' : ∀ r, r < n → rch n lk r (c' r)) (h1 : ∀ r, r < n → c r ≤ r) (hle : ∀ r, r < n → c' r ≤ c r) (hp : ∀ a b, a < n → b < n → lk a b → c' a ≤ c b) (hs : ∀ a b, lk a b → lk b a) :
    (∀ r, r < n → finq n lk c r → finq n lk c' r) ∧ ((∀ r, r < n → finq n lk c r) ∨ ∃ r, r < n ∧ ¬ finq n lk c r ∧ finq n lk c' r) := by
  refine ⟨fun r hr hf x hx => Nat.le_trans (hle r hr) (hf x hx), ?_⟩
  refine Classical.byContradiction fun hno => ?_
  have hno1 : ¬ ∀ r, r < n → finq n lk c r := fun q => hno (Or.inl q)
  have hno2 : ∀ r, r < n → ¬ finq n lk c r → ¬ finq n lk c' r := fun r hr q q' => hno (Or.inr ⟨r, hr, q, q'⟩)
  refine hno1 fun r hr x hx => ?_
  -- the lowest that r comes to
  obtain ⟨m, hm, hmin⟩ := pk_least (fun y => rch n lk r y) ⟨r, rch_rf r⟩
  have hmn := rch_lt hr hm
  have hfm : finq n lk c m := fun y hy => by
    have := h1 m hmn
    have h9 : ¬ y < m := fun q => hmin y q (rch_tr hm hy)
    omega
  -- along the way from m to r all are final
  have hall : ∀ y, rch n lk m y → finq n lk c y := by
    intro y hy
    refine hy (fun z => finq n lk c z) hfm (fun a b ha hb hab hfa => ?_)
    refine Classical.byContradiction fun hfb => hno2 b hb hfb fun z hz => ?_
    have k1 := hp b a hb ha (hs _ _ hab)
    have k2 := hfa z (rch_tr (rch_1 ha hb hab) hz)
    omega
  exact hall r (rch_sy hs hm) x hx
