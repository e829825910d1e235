/-! counts of a property below n -/
noncomputable def cq (P : Nat → Prop) : Nat → Nat
  | 0 => 0
  | n + 1 => cq P n + (if dP (P n) then 1 else 0)
theorem cq_t {P : Nat → Prop} {n : Nat} (h : P n) : cq P (n + 1) = cq P n + 1 := by simp [cq, dP_t.mpr h]
theorem cq_f {P : Nat → Prop} {n : Nat} (h : ¬ P n) : cq P (n + 1) = cq P n := by
  have : dP (P n) = false := by
    cases e : dP (P n) with
    | true => exact absurd (dP_t.mp e) h
    | false => rfl
  simp [cq, this]
theorem cq_le (P : Nat → Prop) : ∀ n, cq P n ≤ n
  | 0 => Nat.le_refl _
  | n + 1 => by
    have := cq_le P n
    by_cases h : P n
    · rw [cq_t h]; omega
    · rw [cq_f h]; omega
theorem cq_mono {P Q : Nat → Prop} : ∀ {n : Nat}, (∀ r, r < n → P r → Q r) → cq P n ≤ cq Q n
  | 0, _ => Nat.le_refl _
  | n + 1, h => by
    have ih := cq_mono (P := P) (Q := Q) (n := n) (fun r hr => h r (by omega))
    by_cases hp : P n
    · rw [cq_t hp, cq_t (h n (by omega) hp)]; omega
    · rw [cq_f hp]
      by_cases hq : Q n
      · rw [cq_t hq]; omega
      · rw [cq_f hq]; omega
theorem cq_lt {P Q : Nat → Prop} : ∀ {n : Nat}, (∀ r, r < n → P r → Q r) → (∃ r, r < n ∧ ¬ P r ∧ Q r) → cq P n < cq Q n
  | 0, _, ⟨r, h, _⟩ => absurd h (Nat.not_lt_zero r)
  | n + 1, h, ⟨r, hr, h1, h2⟩ => by
    have hm := cq_mono (P := P) (Q := Q) (n := n) (fun r hr => h r (by omega))
    by_cases e : r = n
    · subst e
      rw [cq_f h1, cq_t h2]; omega
    · have ih := cq_lt (P := P) (Q := Q) (n := n) (fun r hr => h r (by omega)) ⟨r, by omega, h1, h2⟩
      by_cases hp : P n
      · rw [cq_t hp, cq_t (h n (by omega) hp)]; omega
      · rw [cq_f hp]
        by_cases hq : Q n
        · rw [cq_t hq]; omega
        · rw [cq_f hq]; omega
theorem cq_cong {P Q : Nat → Prop} {n : Nat} (h : ∀ r, r < n → (P r ↔ Q r)) : cq P n = cq Q n :=
  Nat.le_antisymm (cq_mono fun r hr => (h r hr).mp) (cq_mono fun r hr => (h r hr).mpr)
theorem cq_all {P : Nat → Prop} : ∀ {n : Nat}, n ≤ cq P n → ∀ r, r < n → P r
  | 0, _, r, hr => absurd hr (Nat.not_lt_zero r)
  | n + 1, h, r, hr => by
    have := cq_le P n
    by_cases hp : P n
    · rw [cq_t hp] at h
      by_cases e : r = n
      · rw [e]; exact hp
      · exact cq_all (n := n) (by omega) r (by omega)
    · rw [cq_f hp] at h
      omega
/-! labels in a row of the memory -/
def lab (σ : Sg) (id n : Nat) (c : Nat → Nat) : Prop := ∀ r, r < n → σ id r = nI (c r) ∧ c r ≤ r
def agb (b : Nat) (σ τ : Sg) : Prop := ∀ a, a ≠ b → τ a = σ a
abbrev kyC (σ : Sg) : Nat → Nat → Int32 := fun s r => σ (7 + s) r
abbrev fbC (σ : Sg) : Nat → Nat → Prop := fun a b => tb (σ 13 a) b = true
theorem hd_ag {σ τ : Sg} (n i : Nat) (h : τ 1 = σ 1) : hd τ n i ↔ hd σ n i := by unfold hd; rw [h]
theorem cI_ag {σ τ : Sg} {n : Nat} (h : τ 1 = σ 1) (hI : cI σ n) : cI τ n := by unfold cI; rw [h]; exact hI
theorem smK_ag {σ τ : Sg} {n k : Nat} (a b : Nat) (h1 : τ 1 = σ 1) (h2 : τ (7 + k) = σ (7 + k)) : smK τ n k a b ↔ smK σ n k a b := by unfold smK hd; rw [h1, h2]
theorem nI_inj {a b : Nat} (ha : a < 2 ^ 31) (hb : b < 2 ^ 31) : nI a = nI b ↔ a = b := nI_eq ha hb
theorem and_ne0 {x m : Int32} : ¬ (x &&& m = 0) ↔ ∃ b, b < 32 ∧ tb x b = true ∧ tb m b = true := by
  constructor
  · intro h
    refine Classical.byContradiction fun hn => h ?_
    apply Int32.toBitVec_inj.mp
    apply BitVec.eq_of_getLsbD_eq
    intro j hj
    rw [Int32.toBitVec_and, BitVec.getLsbD_and]
    have h0 : (0 : Int32).toBitVec.getLsbD j = false := by
      show (0#32).getLsbD j = false
      simp
    rw [h0]
    by_cases h1 : x.toBitVec.getLsbD j = true
    · by_cases h2 : m.toBitVec.getLsbD j = true
      · exact absurd ⟨j, hj, h1, h2⟩ hn
      · simp at h2; simp [h2]
    · simp at h1; simp [h1]
  · rintro ⟨b, hb, h1, h2⟩ h
    have h3 : (x &&& m).toBitVec.getLsbD b = true := by
      rw [Int32.toBitVec_and, BitVec.getLsbD_and]
      unfold tb at h1 h2
      rw [h1, h2]; rfl
    rw [h] at h3
    have h0 : (0 : Int32).toBitVec.getLsbD b = false := by
      show (0#32).getLsbD b = false
      simp
    rw [h0] at h3
    cases h3
/-- the mask's answer is the set's -/
theorem mjP_iff {σ : Sg} {n k : Nat} {m : Int32} {S : Nat → Prop} (hn : n ≤ 24) (hm : ∀ i, i < 32 → (tb m i = true ↔ S i)) (hS : ∀ i, S i → i < n) : mjP σ n m k ↔ mjq n (kyC σ) (fbC σ) k S := by
  constructor
  · rintro ⟨h1, h2⟩
    refine ⟨fun s hs a b ha hb sa sb ka kb => ?_, fun a b ha hb sa sb q => ?_⟩
    · exact Classical.byContradiction fun hne => h1 s hs ⟨a, b, ha, hb, (hm a (by omega)).mpr sa, (hm b (by omega)).mpr sb, ka, kb, hne⟩
    · exact h2 ⟨a, ha, (hm a (by omega)).mpr sa, and_ne0.mpr ⟨b, by omega, q, (hm b (by omega)).mpr sb⟩⟩
  · rintro ⟨h1, h2⟩
    refine ⟨fun s hs => ?_, ?_⟩
    · rintro ⟨a, b, ha, hb, ta, tb9, ka, kb, hne⟩
      exact hne (h1 s hs a b ha hb ((hm a (by omega)).mp ta) ((hm b (by omega)).mp tb9) ka kb)
    · rintro ⟨a, ha, ta, hne⟩
      obtain ⟨b, hb, q, t9⟩ := and_ne0.mp hne
      have sb := (hm b hb).mp t9
      exact h2 a b ha (hS b sb) ((hm a (by omega)).mp ta) sb q
/-! joining two by two -/
abbrev lkC (σ : Sg) (n k : Nat) (c0 : Nat → Nat) : Nat → Nat → Prop := lkq (hd σ n) (kyC σ) k c0
def JI (σ : Sg) (n k : Nat) (c0 : Nat → Nat) (i j : Nat) (τ : Sg) : Prop := agb 20 σ τ ∧ ∃ c, lab τ 20 n c ∧ (∀ r, r < n → rch n (lkC σ n k c0) r (c r)) ∧ (∀ a b, a < n → b < n → c0 a = c0 b → c a = c b) ∧ ∀ a b, a < n → b < a → (a < i ∨ (a = i ∧ b < j)) → smK σ n k a b → c a = c b
theorem JI_0 {σ τ : Sg} {n k : Nat} {c0 : Nat → Nat} (h : agb 20 σ τ) (hl : lab τ 20 n c0) (hi : ∀ r, r < n → c0 (c0 r) = c0 r) : JI σ n k c0 0 0 τ :=
  ⟨h, c0, hl, fun r hr => rch_1 hr (by have := (hl r hr).2; omega) (Or.inl (hi r hr).symm), fun _ _ _ _ e => e, fun a b _ hb h => by omega⟩
theorem JI_skip {σ τ : Sg} {n k : Nat} {c0 : Nat → Nat} {i j : Nat} (h : JI σ n k c0 i j τ) (hs : smK σ n k i j → τ 20 i = τ 20 j) (hi : i < n) (hj : j < i) (h24 : n ≤ 24) : JI σ n k c0 i (j + 1) τ := by
  obtain ⟨h0, c, h1, h2, h3, h4⟩ := h
  refine ⟨h0, c, h1, h2, h3, fun a b ha hb h5 h6 => ?_⟩
  by_cases e : a = i ∧ b = j
  · obtain ⟨rfl, rfl⟩ := e
    have h7 := hs h6
    have ea := h1 a ha
    have eb := h1 b (by omega)
    rw [ea.1, eb.1] at h7
    exact eq_of_nI h7 (by omega) (by omega)
  · exact h4 a b ha hb (by omega) h6
theorem JI_join {σ τ τ' : Sg} {n k : Nat} {c0 c : Nat → Nat} {i j lo hi : Nat} (h : JI σ n k c0 i j τ) (hs : smK σ n k i j) (hi9 : i < n) (hj : j < i) (h24 : n ≤ 24) (hc : lab τ 20 n c) (hlo : lo = min (c i) (c j)) (hhi : hi = max (c i) (c j)) (hne : c i ≠ c j) (ha : agb 20 τ τ') (hl : ∀ r, r < n → τ' 20 r = nI (if c r = hi then lo else c r)) : JI σ n k c0 i (j + 1) τ' := by
  obtain ⟨h0, c1, h1, h2, h3, h4⟩ := h
  have ec : ∀ r, r < n → c1 r = c r := fun r hr => by
    have p := h1 r hr
    have q := hc r hr
    rw [p.1] at q
    exact eq_of_nI q.1 (by omega) (by omega)
  have hci := hc i hi9
  have hcj := hc j (by omega)
  have two : (lo = c i ∧ hi = c j) ∨ (lo = c j ∧ hi = c i) := by omega
  have lij : lkC σ n k c0 i j := Or.inr ⟨hs.1, hs.2.1, hs.2.2.1, hs.2.2.2⟩
  have ri := h2 i hi9
  have rj := h2 j (by omega)
  rw [ec i hi9] at ri
  rw [ec j (by omega)] at rj
  have hsy : ∀ a b, lkC σ n k c0 a b → lkC σ n k c0 b a := lkq_sy
  have rhl : rch n (lkC σ n k c0) hi lo := by
    rcases two with ⟨e1, e2⟩ | ⟨e1, e2⟩
    · rw [e1, e2]; exact rch_tr (rch_sy hsy rj) (rch_tr (rch_1 (by omega) hi9 (hsy _ _ lij)) ri)
    · rw [e1, e2]; exact rch_tr (rch_sy hsy ri) (rch_tr (rch_1 hi9 (by omega) lij) rj)
  refine ⟨fun a ha9 => (ha a ha9).trans (h0 a ha9), fun r => if c r = hi then lo else c r, fun r hr => ⟨hl r hr, ?_⟩, fun r hr => ?_, fun a b ha9 hb9 e => ?_, fun a b ha9 hb9 h5 h6 => ?_⟩
  · have := (hc r hr).2
    show (if c r = hi then lo else c r) ≤ r
    split <;> omega
  · show rch n _ r (if c r = hi then lo else c r)
    have := h2 r hr
    rw [ec r hr] at this
    split
    · next e => rw [e] at this; exact rch_tr this rhl
    · exact this
  · have := h3 a b ha9 hb9 e
    rw [ec a ha9, ec b hb9] at this
    show (if c a = hi then lo else c a) = (if c b = hi then lo else c b)
    rw [this]
  · show (if c a = hi then lo else c a) = (if c b = hi then lo else c b)
    by_cases e : a = i ∧ b = j
    · obtain ⟨rfl, rfl⟩ := e
      rcases two with ⟨e1, e2⟩ | ⟨e1, e2⟩
      · rw [if_neg (by omega), if_pos e2.symm]; exact e1.symm
      · rw [if_pos e2.symm, if_neg (by omega)]; exact e1
    · have := h4 a b ha9 hb9 (by omega) h6
      rw [ec a ha9, ec b (by omega)] at this
      rw [this]
theorem JI_row {σ τ : Sg} {n k : Nat} {c0 : Nat → Nat} {i : Nat} (h : JI σ n k c0 i i τ) : JI σ n k c0 (i + 1) 0 τ := by
  obtain ⟨h0, c, h1, h2, h3, h4⟩ := h
  exact ⟨h0, c, h1, h2, h3, fun a b ha hb h5 h6 => h4 a b ha hb (by omega) h6⟩
theorem JI_end {σ τ : Sg} {n k : Nat} {c0 : Nat → Nat} (h : JI σ n k c0 n 0 τ) : agb 20 σ τ ∧ ∃ c, lab τ 20 n c ∧ Comp n (lkC σ n k c0) c := by
  obtain ⟨h0, c, h1, h2, h3, h4⟩ := h
  refine ⟨h0, c, h1, fun r hr => (h1 r hr).2, fun a b ha hb hl => ?_, h2⟩
  rcases hl with e | ⟨p, q, u, v⟩
  · exact h3 a b ha hb e
  · by_cases e : a = b
    · rw [e]
    · by_cases hlt : b < a
      · exact h4 a b ha hlt (by omega) ⟨p, q, u, v⟩
      · exact (h4 b a hb (by omega) (by omega) ⟨q, p, by show kyC σ k b ≠ -1; rw [← v]; exact u, v.symm⟩).symm
/-! spreading in rounds -/
def SP (σ : Sg) (n : Nat) (lk : Nat → Nat → Prop) (c : Nat → Nat) (i j : Nat) (ch : Int32) (τ : Sg) : Prop := agb 26 σ τ ∧ ∃ c', lab τ 26 n c' ∧ (∀ r, r < n → c' r ≤ c r) ∧ (∀ r, r < n → rch n lk r (c' r)) ∧ (∀ a b, a < n → b < n → (a < i ∨ (a = i ∧ b < j)) → lk a b → c' a ≤ c b) ∧ (ch = 0 → ∀ r, r < n → c' r = c r)
theorem SP_0 {σ : Sg} {n : Nat} {lk : Nat → Nat → Prop} {c : Nat → Nat} (h1 : lab σ 26 n c) (h2 : ∀ r, r < n → rch n lk r (c r)) : SP σ n lk c 0 0 0 σ :=
  ⟨fun _ _ => rfl, c, h1, fun _ _ => Nat.le_refl _, h2, fun a b _ _ h => by omega, fun _ _ _ => rfl⟩
theorem SP_skip {σ τ : Sg} {n : Nat} {lk : Nat → Nat → Prop} {c : Nat → Nat} {i j : Nat} {ch : Int32} (h : SP σ n lk c i j ch τ) (hi : i < n) (hj : j < n) (h24 : n ≤ 24) (hs : lk i j → τ 26 i ≤ τ 26 j) : SP σ n lk c i (j + 1) ch τ := by
  obtain ⟨h0, c', h1, h2, h3, h4, h5⟩ := h
  refine ⟨h0, c', h1, h2, h3, fun a b ha hb h6 h7 => ?_, h5⟩
  by_cases e : a = i ∧ b = j
  · obtain ⟨rfl, rfl⟩ := e
    have h8 := hs h7
    have ea := h1 a ha
    have eb := h1 b hb
    rw [ea.1, eb.1] at h8
    have := le_of_nI h8 (by omega) (by omega)
    have := h2 b hb
    omega
  · exact h4 a b ha hb (by omega) h7
theorem SP_take {σ τ : Sg} {n : Nat} {lk : Nat → Nat → Prop} {c : Nat → Nat} {i j : Nat} {ch : Int32} (h : SP σ n lk c i j ch τ) (hi : i < n) (hj : j < n) (h24 : n ≤ 24) (hl : lk i j) (hlt : τ 26 j < τ 26 i) : SP σ n lk c i (j + 1) 1 (zu τ 26 i (τ 26 j)) := by
  obtain ⟨h0, c', h1, h2, h3, h4, h5⟩ := h
  have ei := h1 i hi
  have ej := h1 j hj
  rw [ei.1, ej.1] at hlt
  have hlt9 := (nI_ltI (by omega) (by omega)).mp hlt
  refine ⟨fun a ha => by rw [zu_ne _ _ _ ha]; exact h0 a ha, fun r => if r = i then c' j else c' r, fun r hr => ?_, fun r hr => ?_, fun r hr => ?_, fun a b ha hb h6 h7 => ?_, fun q => absurd q (by decide)⟩
  · have er := h1 r hr
    rw [zu_at]
    by_cases e : r = i
    · subst e; simp [upd]; exact ⟨ej.1, by omega⟩
    · simp [upd, e]; exact er
  · have := h2 r hr
    by_cases e : r = i
    · subst e; simp; omega
    · simp [e]; exact this
  · by_cases e : r = i
    · subst e; simp; exact rch_tr (rch_1 hi hj hl) (h3 j hj)
    · simp [e]; exact h3 r hr
  · have ha2 := h2 a ha
    have hj2 := h2 j hj
    by_cases e : a = i ∧ b = j
    · obtain ⟨rfl, rfl⟩ := e
      simp; exact hj2
    · have h8 := h4 a b ha hb (by omega) h7
      by_cases e2 : a = i
      · subst e2; simp; omega
      · simp [e2]; exact h8
theorem SP_row {σ τ : Sg} {n : Nat} {lk : Nat → Nat → Prop} {c : Nat → Nat} {i : Nat} {ch : Int32} (h : SP σ n lk c i n ch τ) : SP σ n lk c (i + 1) 0 ch τ := by
  obtain ⟨h0, c', h1, h2, h3, h4, h5⟩ := h
  exact ⟨h0, c', h1, h2, h3, fun a b ha hb h6 h7 => h4 a b ha hb (by omega) h7, h5⟩
/-- the rounds' invariant: as many final ones as rounds, or all; at rest it is done -/
def SR (σ : Sg) (n : Nat) (lk : Nat → Nat → Prop) (t : Nat) (f : Int32) (τ : Sg) : Prop := agb 26 σ τ ∧ ∃ c, lab τ 26 n c ∧ (∀ r, r < n → rch n lk r (c r)) ∧ ((∀ r, r < n → finq n lk c r) ∨ t ≤ cq (finq n lk c) n) ∧ (f = 0 → Comp n lk c)
theorem SR_step {σ τ τ' : Sg} {n : Nat} {lk : Nat → Nat → Prop} {t : Nat} {f ch : Int32} (hs : ∀ a b, lk a b → lk b a) (h : SR σ n lk t f τ) (hp : ∀ c, lab τ 26 n c → (∀ r, r < n → rch n lk r (c r)) → SP τ n lk c n 0 ch τ') : SR σ n lk (t + 1) ch τ' := by
  obtain ⟨h0, c, h1, h2, h3, -⟩ := h
  obtain ⟨g0, c', g1, g2, g3, g4, g5⟩ := hp c h1 h2
  have hall : ∀ a b, a < n → b < n → lk a b → c' a ≤ c b := fun a b ha hb hl => g4 a b ha hb (Or.inl ha) hl
  have hst := finq_step h2 g3 (fun r hr => (h1 r hr).2) g2 hall hs
  refine ⟨fun a ha => (g0 a ha).trans (h0 a ha), c', g1, g3, ?_, fun hc => ?_⟩
  · rcases h3 with h3 | h3
    · exact Or.inl fun r hr => hst.1 r hr (h3 r hr)
    · rcases hst.2 with q | q
      · exact Or.inl fun r hr => hst.1 r hr (q r hr)
      · right
        have := cq_lt hst.1 q
        omega
  · have e := g5 hc
    refine ⟨fun r hr => (g1 r hr).2, fun a b ha hb hl => ?_, g3⟩
    have p := hall a b ha hb hl
    have q := hall b a hb ha (hs _ _ hl)
    rw [← e b hb] at p
    rw [← e a ha] at q
    omega
theorem SR_end {σ τ : Sg} {n : Nat} {lk : Nat → Nat → Prop} {t : Nat} {f : Int32} (hs : ∀ a b, lk a b → lk b a) (h24 : n ≤ 24) (h : SR σ n lk t f τ) (he : f = 0 ∨ 24 ≤ t) : agb 26 σ τ ∧ ∃ c, lab τ 26 n c ∧ Comp n lk c := by
  obtain ⟨h0, c, h1, h2, h3, h4⟩ := h
  refine ⟨h0, c, h1, ?_⟩
  rcases he with he | he
  · exact h4 he
  · refine finq_comp (fun r hr => (h1 r hr).2) h2 hs ?_
    rcases h3 with h3 | h3
    · exact h3
    · exact cq_all (by omega)
