/-! WHAT EACH CALL ANSWERS, said of the memory that they all agree with -/
noncomputable def iP {α : Type} (P : Prop) (a b : α) : α := @ite α P (Classical.propDecidable P) a b
theorem iP_t {α : Type} {P : Prop} {a b : α} (h : P) : iP P a b = a := if_pos h
theorem iP_f {α : Type} {P : Prop} {a b : α} (h : ¬ P) : iP P a b = b := if_neg h
noncomputable def fSeen (σ : Sg) (n r : Nat) : Int32 := iP (hd σ n r) (σ 4 r) (-1001)
noncomputable def fThing (σ : Sg) (n r : Nat) : Int32 := iP (hd σ n r) (nI (gC σ n 2 r)) (-1001)
noncomputable def fWei (σ : Sg) (n r : Nat) : Int32 := iP (hd σ n r) (wg σ r (σ 0 4)) (-1001)
noncomputable def fKey (σ : Sg) (n r k : Nat) : Int32 := iP (hd σ n r) (σ (7 + k) r) (-1001)
def hasF (σ : Sg) (n a f : Nat) : Prop := ∃ x, x < n ∧ tf σ n (gC σ n 2) (gC σ n 2 a) f x
noncomputable def bsX (σ : Sg) (n a f : Nat) : Nat := Classical.epsilon (fun x => x < n ∧ bst σ n (gC σ n 2) (gC σ n 2 a) f x)
noncomputable def fFrom (σ : Sg) (n r f : Nat) : Int32 := iP (hd σ n r) (iP (hasF σ n r f) (nI (bsX σ n r f)) (-1002)) (-1001)
noncomputable def fFact (σ : Sg) (n r f : Nat) : Int32 := iP (hd σ n r) (iP (hasF σ n r f) (σ (10 + f) (bsX σ n r f)) (-1002)) (-1001)
theorem exq_1 {α : Type} {E : String} {c v : α} {P : Prop} (h : exq [(E, c)] [(E, P)] v) : ¬ P ∧ v = c := by
  obtain ⟨F, h1, h2⟩ := h
  simp only [List.mem_cons, List.not_mem_nil, or_false, Prod.mk.injEq] at h2
  rcases h1 with ⟨-, h3⟩ | ⟨-, h3⟩
  · exact ⟨h3, h2.2⟩
  · exact h3.elim
theorem exq_2 {α : Type} {c v : α} {P Q : Prop} (h : exq [(eIO, c)] [(eIO, P), (eIO, Q)] v) : ¬ (P ∧ Q) ∧ v = c := by
  obtain ⟨F, h1, h2⟩ := h
  simp only [List.mem_cons, List.not_mem_nil, or_false, Prod.mk.injEq] at h2
  rcases h1 with ⟨-, h3⟩ | ⟨-, ⟨-, h3⟩ | ⟨-, h3⟩⟩
  · exact ⟨fun q => h3 q.1, h2.2⟩
  · exact ⟨fun q => h3 q.2, h2.2⟩
  · exact h3.elim
/-- of two lists in which every refusal tells its own number -/
theorem exq_k2 {α : Type} {c1 c2 v : α} {P Q : Prop} (h : exq [(eIO, c1), (eNS, c2)] [(eIO, P), (eNS, Q)] v) : (¬ P ∧ v = c1) ∨ (P ∧ ¬ Q ∧ v = c2) := by
  obtain ⟨F, h1, h2⟩ := h
  simp only [List.mem_cons, List.not_mem_nil, or_false, Prod.mk.injEq] at h2
  rcases h1 with ⟨rfl, h3⟩ | ⟨h0, ⟨rfl, h3⟩ | ⟨-, h3⟩⟩
  · rcases h2 with h2 | h2
    · exact Or.inl ⟨h3, h2.2⟩
    · exact absurd h2.1 (by decide)
  · rcases h2 with h2 | h2
    · exact absurd h2.1 (by decide)
    · exact Or.inr ⟨h0, h3, h2.2⟩
  · exact h3.elim
theorem exq_k3 {α : Type} {c1 c2 v : α} {P Q S : Prop} (h : exq [(eIO, c1), (eNS, c2)] [(eIO, P), (eIO, Q), (eNS, S)] v) : (¬ (P ∧ Q) ∧ v = c1) ∨ (P ∧ Q ∧ ¬ S ∧ v = c2) := by
  obtain ⟨F, h1, h2⟩ := h
  simp only [List.mem_cons, List.not_mem_nil, or_false, Prod.mk.injEq] at h2
  rcases h1 with ⟨rfl, h3⟩ | ⟨h0, ⟨rfl, h3⟩ | ⟨h4, ⟨rfl, h3⟩ | ⟨-, h3⟩⟩⟩
  · rcases h2 with h2 | h2
    · exact Or.inl ⟨fun q => h3 q.1, h2.2⟩
    · exact absurd h2.1 (by decide)
  · rcases h2 with h2 | h2
    · exact Or.inl ⟨fun q => h3 q.2, h2.2⟩
    · exact absurd h2.1 (by decide)
  · rcases h2 with h2 | h2
    · exact absurd h2.1 (by decide)
    · exact Or.inr ⟨h0, h4, h3, h2.2⟩
  · exact h3.elim
theorem bst_one {σ : Sg} {n : Nat} {g : Nat → Nat} {h f x y : Nat} (hx : x < n) (hy : y < n) (h1 : bst σ n g h f x) (h2 : bst σ n g h f y) : x = y := by
  by_cases e : x = y
  · exact e
  · exact (ah_asym (h1.2 y hy h2.1 (fun q => e q.symm)) (h2.2 x hx h1.1 e)).elim
theorem bsX_eq {σ : Sg} {n a f x : Nat} (hx : x < n) (h : bst σ n (gC σ n 2) (gC σ n 2 a) f x) : bsX σ n a f = x :=
  have h1 := Classical.epsilon_spec (p := fun x => x < n ∧ bst σ n (gC σ n 2) (gC σ n 2 a) f x) ⟨x, hx, h⟩
  bst_one h1.1 hx h1.2 h
theorem hasF_bst {σ : Sg} {n a f : Nat} (h : hasF σ n a f) : bsX σ n a f < n ∧ bst σ n (gC σ n 2) (gC σ n 2 a) f (bsX σ n a f) := by
  obtain ⟨r, h1, h2, h3⟩ := bst_upto n h
  exact Classical.epsilon_spec (p := fun x => x < n ∧ bst σ n (gC σ n 2) (gC σ n 2 a) f x) ⟨r, h1, h2, h3⟩
section B
variable {σ τ τ1 : Sg} {n m p d L : Nat} {sn : Nat → Nat} {v : Int32}
theorem tf_b (h : stb σ τ) (hg : GR σ n) (x : Nat) {f r : Nat} (hf : f < 3) (hr : r < n) : tf τ n (gC τ n 2) x f r ↔ tf σ n (gC σ n 2) x f r := by
  unfold tf
  rw [mbr_b h hg x hr, h (10 + f) (by omega)]
theorem bst_b (h : stb σ τ) (hg : GR σ n) (x : Nat) {f r : Nat} (hf : f < 3) (hr : r < n) : bst τ n (gC τ n 2) x f r ↔ bst σ n (gC σ n 2) x f r := by
  have ea : ∀ a b, ah τ a b ↔ ah σ a b := fun a b => ah_ag a b (h 2 (by omega)) (h 3 (by omega)) (h 4 (by omega)) (h 0 (by omega))
  unfold bst
  rw [tf_b h hg x hf hr]
  refine and_congr_right (fun _ => forall_congr' fun y => ?_)
  constructor
  · exact fun q hy ht hne => (ea _ _).mp (q hy ((tf_b h hg x hf hy).mpr ht) hne)
  · exact fun q hy ht hne => (ea _ _).mpr (q hy ((tf_b h hg x hf hy).mp ht) hne)
theorem hdR_b (hC : CI σ n m p d L sn) (hs : stb σ τ) {r : Nat} (hr : r < 2 ^ 31) : hdR τ n (nI r) ↔ hd σ n r := by
  rw [hdR_n hC.n24 hr, hd_b n hs]
theorem s_seen (hC : CI σ n m p d L sn) (hs : stb σ τ) {r : Nat} (hr : r < 24) (h : (∃ a, nI r = nI a ∧ hd τ n a ∧ τ = τ1 ∧ v = τ 4 a) ∨ (stb τ τ1 ∧ exq [(eIO, (-1001 : Int32))] [(eIO, hdR τ n (nI r))] v)) : stb σ τ1 ∧ v = fSeen σ n r := by
  have h24 := hC.n24
  rcases h with ⟨a, e1, e2, rfl, rfl⟩ | ⟨h1, h2⟩
  · rw [hd_b n hs] at e2
    have e := eq_of_nI e1 (by omega) (by have := e2.1; omega)
    subst e
    exact ⟨hs, by rw [fSeen, iP_t e2, hs 4 (by omega)]⟩
  · obtain ⟨h3, h4⟩ := exq_1 h2
    rw [hdR_b hC hs (by omega)] at h3
    exact ⟨hs.tr h1, by rw [h4, fSeen, iP_f h3]⟩
theorem s_wei (hC : CI σ n m p d L sn) (hs : stb σ τ) {r : Nat} (hr : r < 24) (h : (∃ a, nI r = nI a ∧ hd τ n a ∧ τ = τ1 ∧ v = wg τ a (τ 0 4)) ∨ (stb τ τ1 ∧ exq [(eIO, (-1001 : Int32))] [(eIO, hdR τ n (nI r))] v)) : stb σ τ1 ∧ v = fWei σ n r := by
  have h24 := hC.n24
  rcases h with ⟨a, e1, e2, rfl, rfl⟩ | ⟨h1, h2⟩
  · rw [hd_b n hs] at e2
    have e := eq_of_nI e1 (by omega) (by have := e2.1; omega)
    subst e
    refine ⟨hs, ?_⟩
    rw [fWei, iP_t e2]
    unfold wg
    rw [hs 2 (by omega), hs 3 (by omega), hs 4 (by omega), hs 0 (by omega)]
  · obtain ⟨h3, h4⟩ := exq_1 h2
    rw [hdR_b hC hs (by omega)] at h3
    exact ⟨hs.tr h1, by rw [h4, fWei, iP_f h3]⟩
theorem s_thing (hC : CI σ n m p d L sn) (hs : stb σ τ) {r : Nat} (hr : r < 24) (h : (∃ a, nI r = nI a ∧ hd τ n a ∧ JD τ n τ1 ∧ v = nI (gC τ n 2 a)) ∨ (stb τ τ1 ∧ exq [(eIO, (-1001 : Int32))] [(eIO, hdR τ n (nI r))] v)) : stb σ τ1 ∧ v = fThing σ n r ∧ (hd σ n r → GR σ n) := by
  have h24 := hC.n24
  rcases h with ⟨a, e1, e2, hJ, rfl⟩ | ⟨h1, h2⟩
  · rw [hd_b n hs] at e2
    have e := eq_of_nI e1 (by omega) (by have := e2.1; omega)
    subst e
    have hg := GR_stb hs hJ.gr
    exact ⟨hs.tr hJ.1, by rw [fThing, iP_t e2, hg.2 2 r (by omega) e2.1], fun _ => hg.1⟩
  · obtain ⟨h3, h4⟩ := exq_1 h2
    rw [hdR_b hC hs (by omega)] at h3
    exact ⟨hs.tr h1, by rw [h4, fThing, iP_f h3], fun q => absurd q h3⟩
theorem s_rounds (hC : CI σ n m p d L sn) (hs : stb σ τ) {r : Nat} (hr : r < 24) (hg : hd σ n r → GR σ n) (h : (∃ a, nI r = nI a ∧ hd τ n a ∧ stb τ τ1 ∧ v = nI (gC τ n 2 a)) ∨ (stb τ τ1 ∧ exq [(eIO, (-1001 : Int32))] [(eIO, hdR τ n (nI r))] v)) : stb σ τ1 ∧ v = fThing σ n r := by
  have h24 := hC.n24
  rcases h with ⟨a, e1, e2, hJ, rfl⟩ | ⟨h1, h2⟩
  · rw [hd_b n hs] at e2
    have e := eq_of_nI e1 (by omega) (by have := e2.1; omega)
    subst e
    exact ⟨hs.tr hJ, by rw [fThing, iP_t e2, GR_eq hs (hg e2) 2 r (by omega) e2.1]⟩
  · obtain ⟨h3, h4⟩ := exq_1 h2
    rw [hdR_b hC hs (by omega)] at h3
    exact ⟨hs.tr h1, by rw [h4, fThing, iP_f h3]⟩
theorem s_size (hC : CI σ n m p d L sn) (hs : stb σ τ) {r : Nat} (hr : hd σ n r) (hg : GR σ n) (h : (∃ a, nI r = nI a ∧ hd τ n a ∧ JD τ n τ1 ∧ v = nI (cq (mbr τ n (gC τ n 2) (gC τ n 2 a)) n)) ∨ (stb τ τ1 ∧ exq [(eIO, (-1001 : Int32))] [(eIO, hdR τ n (nI r))] v)) : stb σ τ1 ∧ v = nI (cq (mbr σ n (gC σ n 2) (gC σ n 2 r)) n) := by
  have h24 := hC.n24
  have hrn := hr.1
  rcases h with ⟨a, e1, e2, hJ, rfl⟩ | ⟨h1, h2⟩
  · rw [hd_b n hs] at e2
    have e := eq_of_nI e1 (by omega) (by have := e2.1; omega)
    subst e
    refine ⟨hs.tr hJ.1, ?_⟩
    rw [GR_eq hs hg 2 r (by omega) hrn, cq_cong (fun x hx => mbr_b hs hg _ hx)]
  · exact absurd ((hdR_b hC hs (by omega)).mpr hr) (exq_1 h2).1
theorem s_key (hC : CI σ n m p d L sn) (hs : stb σ τ) {r k : Nat} (hr : r < 24) (hk : k < 3) (h : (∃ a i, nI r = nI a ∧ hd τ n a ∧ nI k = nI i ∧ i < 3 ∧ τ = τ1 ∧ v = τ (7 + i) a) ∨ (stb τ τ1 ∧ exq [(eIO, (-1001 : Int32)), (eNS, (-1002 : Int32))] [(eIO, hdR τ n (nI r)), (eIO, nR 3 (nI k))] v)) : stb σ τ1 ∧ v = fKey σ n r k := by
  have h24 := hC.n24
  rcases h with ⟨a, i, e1, e2, e3, e4, rfl, rfl⟩ | ⟨h1, F, h2, h3⟩
  · rw [hd_b n hs] at e2
    have e := eq_of_nI e1 (by omega) (by have := e2.1; omega)
    subst e
    have e := eq_of_nI e3 (by omega) (by omega)
    subst e
    exact ⟨hs, by rw [fKey, iP_t e2, hs (7 + k) (by omega)]⟩
  · simp only [List.mem_cons, List.not_mem_nil, or_false, Prod.mk.injEq] at h3
    rcases h2 with ⟨rfl, h4⟩ | ⟨-, ⟨rfl, h4⟩ | ⟨-, h4⟩⟩
    · rw [hdR_b hC hs (by omega)] at h4
      rcases h3 with h3 | h3
      · exact ⟨hs.tr h1, by rw [h3.2, fKey, iP_f h4]⟩
      · exact absurd h3.1 (by decide)
    · exact absurd ⟨k, rfl, hk⟩ h4
    · exact h4.elim
theorem s_ftx (hC : CI σ n m p d L sn) (hs : stb σ τ) (hg : GR σ n) {r f : Nat} (hr : r < 24) (hf : f < 3) (hh : hd σ n r) : (∃ x, ftx τ n (nI r) (nI f) x) ↔ hasF σ n r f := by
  have h24 := hC.n24
  constructor
  · rintro ⟨x, a, i, e1, e2, e3, e4, hx, ht⟩
    rw [hd_b n hs] at e3
    have e := eq_of_nI e1 (by omega) (by have := e3.1; omega)
    subst e
    have e := eq_of_nI e2 (by omega) (by omega)
    subst e
    rw [GR_eq hs hg 2 r (by omega) hh.1] at ht
    exact ⟨x, hx, (tf_b hs hg _ hf hx).mp ht⟩
  · rintro ⟨x, hx, ht⟩
    refine ⟨x, r, f, rfl, rfl, by rw [hd_b n hs]; exact hh, hf, hx, ?_⟩
    rw [GR_eq hs hg 2 r (by omega) hh.1]
    exact (tf_b hs hg _ hf hx).mpr ht
theorem s_bsx (hC : CI σ n m p d L sn) (hs : stb σ τ) (hg : GR σ n) {r f i x : Nat} (hr : r < 24) (hf : f < 3) (h : bsx τ n (nI r) (nI f) i x) : hd σ n r ∧ i = f ∧ x < n ∧ bst σ n (gC σ n 2) (gC σ n 2 r) f x := by
  have h24 := hC.n24
  obtain ⟨a, e1, e2, e3, e4, hx, hb⟩ := h
  rw [hd_b n hs] at e3
  have e := eq_of_nI e1 (by omega) (by have := e3.1; omega)
  subst e
  have e := eq_of_nI e2 (by omega) (by omega)
  subst e
  rw [GR_eq hs hg 2 r (by omega) e3.1] at hb
  exact ⟨e3, rfl, hx, (bst_b hs hg _ hf hx).mp hb⟩
theorem bst_has {r f x : Nat} (hx : x < n) (h : bst σ n (gC σ n 2) (gC σ n 2 r) f x) : hasF σ n r f := ⟨x, hx, h.1⟩
theorem s_from (hC : CI σ n m p d L sn) (hs : stb σ τ) (hg : GR σ n) {r f : Nat} (hr : r < 24) (hf : f < 3) (h : (∃ i x, bsx τ n (nI r) (nI f) i x ∧ stb τ τ1 ∧ v = nI x) ∨ (stb τ τ1 ∧ exq [(eIO, (-1001 : Int32)), (eNS, (-1002 : Int32))] [(eIO, hdR τ n (nI r)), (eIO, nR 3 (nI f)), (eNS, ∃ x, ftx τ n (nI r) (nI f) x)] v)) : stb σ τ1 ∧ v = fFrom σ n r f := by
  rcases h with ⟨i, x, hb, h1, rfl⟩ | ⟨h1, h2⟩
  · obtain ⟨q1, -, q3, q4⟩ := s_bsx hC hs hg hr hf hb
    exact ⟨hs.tr h1, by rw [fFrom, iP_t q1, iP_t (bst_has q3 q4), bsX_eq q3 q4]⟩
  · refine ⟨hs.tr h1, ?_⟩
    rcases exq_k3 h2 with ⟨h3, h4⟩ | ⟨h3, -, h5, h6⟩
    · rw [hdR_b hC hs (by omega)] at h3
      rw [h4, fFrom, iP_f (fun q => h3 ⟨q, f, rfl, hf⟩)]
    · have hh := (hdR_b hC hs (by omega)).mp h3
      rw [s_ftx hC hs hg hr hf hh] at h5
      rw [h6, fFrom, iP_t hh, iP_f h5]
theorem s_fact (hC : CI σ n m p d L sn) (hs : stb σ τ) (hg : GR σ n) {r f : Nat} (hr : r < 24) (hf : f < 3) (h : (∃ i x, bsx τ n (nI r) (nI f) i x ∧ stb τ τ1 ∧ v = τ (10 + i) x) ∨ (stb τ τ1 ∧ exq [(eIO, (-1001 : Int32)), (eNS, (-1002 : Int32))] [(eIO, hdR τ n (nI r)), (eIO, nR 3 (nI f)), (eNS, ∃ x, ftx τ n (nI r) (nI f) x)] v)) : stb σ τ1 ∧ v = fFact σ n r f := by
  rcases h with ⟨i, x, hb, h1, rfl⟩ | ⟨h1, h2⟩
  · obtain ⟨q1, rfl, q3, q4⟩ := s_bsx hC hs hg hr hf hb
    exact ⟨hs.tr h1, by rw [fFact, iP_t q1, iP_t (bst_has q3 q4), bsX_eq q3 q4, hs (10 + i) (by omega)]⟩
  · refine ⟨hs.tr h1, ?_⟩
    rcases exq_k3 h2 with ⟨h3, h4⟩ | ⟨h3, -, h5, h6⟩
    · rw [hdR_b hC hs (by omega)] at h3
      rw [h4, fFact, iP_f (fun q => h3 ⟨q, f, rfl, hf⟩)]
    · have hh := (hdR_b hC hs (by omega)).mp h3
      rw [s_ftx hC hs hg hr hf hh] at h5
      rw [h6, fFact, iP_t hh, iP_f h5]
theorem s_member (hC : CI σ n m p d L sn) (hs : stb σ τ) (hg : GR σ n) {r j : Nat} (hr : hd σ n r) (hj : j < 2 ^ 31) (h : (∃ x, mbx τ n (nI r) (nI j) x ∧ JD τ n τ1 ∧ v = nI x) ∨ (stb τ τ1 ∧ exq [(eIO, (-1001 : Int32)), (eNS, (-1002 : Int32))] [(eIO, hdR τ n (nI r)), (eNS, ∃ x, mbx τ n (nI r) (nI j) x)] v)) : stb σ τ1 ∧ ((∃ x, x < n ∧ mbr σ n (gC σ n 2) (gC σ n 2 r) x ∧ cq (mbr σ n (gC σ n 2) (gC σ n 2 r)) x = j ∧ v = nI x) ∨ (v = -1002 ∧ ∀ x, x < n → mbr σ n (gC σ n 2) (gC σ n 2 r) x → cq (mbr σ n (gC σ n 2) (gC σ n 2 r)) x ≠ j)) := by
  have h24 := hC.n24
  have hrn := hr.1
  have eg := GR_eq hs hg 2 r (by omega) hrn
  have ec : ∀ x, x < n → cq (mbr τ n (gC τ n 2) (gC σ n 2 r)) x = cq (mbr σ n (gC σ n 2) (gC σ n 2 r)) x := fun x hx => cq_cong (fun y hy => mbr_b hs hg _ (by omega))
  rcases h with ⟨x, ⟨a, e1, e2, hx, hm, hi⟩, hJ, rfl⟩ | ⟨h1, h2⟩
  · rw [hd_b n hs] at e2
    have e := eq_of_nI e1 (by omega) (by have := e2.1; omega)
    subst e
    rw [eg] at hm hi
    rw [ec x hx] at hi
    have hle := cq_le (mbr σ n (gC σ n 2) (gC σ n 2 r)) x
    exact ⟨hs.tr hJ.1, Or.inl ⟨x, hx, (mbr_b hs hg _ hx).mp hm, (eq_of_nI hi hj (by omega)).symm, rfl⟩⟩
  · refine ⟨hs.tr h1, Or.inr ?_⟩
    rcases exq_k2 h2 with ⟨h3, h4⟩ | ⟨h3, h5, h6⟩
    · exact absurd ((hdR_b hC hs (by omega)).mpr hr) h3
    · refine ⟨h6, fun x hx hm e => h5 ⟨x, r, rfl, by rw [hd_b n hs]; exact hr, hx, ?_, ?_⟩⟩
      · rw [eg]; exact (mbr_b hs hg _ hx).mpr hm
      · rw [eg, ec x hx, e]
theorem s_tog (hC : CI σ n m p d L sn) (hs : stb σ τ) {a b : Nat} (ha : hd σ n a) (hb : hd σ n b) (h : (∃ x y, nI a = nI x ∧ nI b = nI y ∧ hd τ n x ∧ hd τ n y ∧ JD τ n τ1 ∧ v = zp (gC τ n 2 x = gC τ n 2 y)) ∨ (stb τ τ1 ∧ exq [(eIO, (-1001 : Int32)), (eIA, (-1002 : Int32)), (eIS, (-1003 : Int32)), (eNS, (-1004 : Int32))] [(eIO, hdR τ n (nI a)), (eIO, hdR τ n (nI b))] v)) : stb σ τ1 ∧ GR σ n ∧ v = zp (gC σ n 2 a = gC σ n 2 b) := by
  have h24 := hC.n24
  have han := ha.1
  have hbn := hb.1
  rcases h with ⟨x, y, e1, e2, e3, e4, hJ, rfl⟩ | ⟨h1, F, h2, -⟩
  · rw [hd_b n hs] at e3 e4
    have e := eq_of_nI e1 (by omega) (by have := e3.1; omega)
    subst e
    have e := eq_of_nI e2 (by omega) (by have := e4.1; omega)
    subst e
    have hg := GR_stb hs hJ.gr
    exact ⟨hs.tr hJ.1, hg.1, by rw [hg.2 2 a (by omega) han, hg.2 2 b (by omega) hbn]⟩
  · rcases h2 with ⟨-, h3⟩ | ⟨-, ⟨-, h3⟩ | ⟨-, h3⟩⟩
    · exact absurd ((hdR_b hC hs (by omega)).mpr ha) h3
    · exact absurd ((hdR_b hC hs (by omega)).mpr hb) h3
    · exact h3.elim
theorem s_step (hC : CI σ n m p d L sn) (hs : stb σ τ) (hg : GR σ n) {a b : Nat} (ha : hd σ n a) (hb : hd σ n b) (hab : a ≠ b) (he : gC σ n 2 a = gC σ n 2 b) (h : (∃ k, nI a ≠ nI b ∧ tgx τ n (nI a) (nI b) k ∧ (∀ s, s < k → ¬ tgx τ n (nI a) (nI b) s) ∧ JD τ n τ1 ∧ v = nI k) ∨ (stb τ τ1 ∧ exq [(eIO, (-1001 : Int32)), (eIA, (-1002 : Int32)), (eIS, (-1003 : Int32)), (eNS, (-1004 : Int32))] [(eIO, hdR τ n (nI a)), (eIO, hdR τ n (nI b)), (eIA, nI a ≠ nI b), (eNS, ∃ k, tgx τ n (nI a) (nI b) k)] v)) : stb σ τ1 ∧ ∃ k, k < 3 ∧ v = nI k ∧ gC σ n k a = gC σ n k b ∧ ∀ s, s < k → gC σ n s a ≠ gC σ n s b := by
  have h24 := hC.n24
  have han := ha.1
  have hbn := hb.1
  have ht : ∀ k, k < 3 → gC σ n k a = gC σ n k b → tgx τ n (nI a) (nI b) k := fun k hk e => ⟨a, b, rfl, rfl, by rw [hd_b n hs]; exact ha, by rw [hd_b n hs]; exact hb, hk, by rw [GR_eq hs hg k a hk han, GR_eq hs hg k b hk hbn]; exact e⟩
  rcases h with ⟨k, -, ⟨x, y, e1, e2, e3, e4, hk, e5⟩, hm, hJ, rfl⟩ | ⟨h1, F, h2, -⟩
  · rw [hd_b n hs] at e3 e4
    have e := eq_of_nI e1 (by omega) (by have := e3.1; omega)
    subst e
    have e := eq_of_nI e2 (by omega) (by have := e4.1; omega)
    subst e
    rw [GR_eq hs hg k a hk han, GR_eq hs hg k b hk hbn] at e5
    exact ⟨hs.tr hJ.1, k, hk, rfl, e5, fun s hsk e => hm s hsk (ht s (by omega) e)⟩
  · rcases h2 with ⟨-, h3⟩ | ⟨-, ⟨-, h3⟩ | ⟨-, ⟨-, h3⟩ | ⟨-, ⟨-, h3⟩ | ⟨-, h3⟩⟩⟩⟩
    · exact absurd ((hdR_b hC hs (by omega)).mpr ha) h3
    · exact absurd ((hdR_b hC hs (by omega)).mpr hb) h3
    · exact absurd (fun q => hab (eq_of_nI q (by omega) (by omega))) h3
    · exact absurd ⟨2, ht 2 (by omega) he⟩ h3
    · exact h3.elim
theorem s_agr (hC : CI σ n m p d L sn) (hs : stb σ τ) (hg : GR σ n) {r f : Nat} (hr : hd σ n r) (hf : f < 3) (hF : hasF σ n r f) {v : UInt32} (h : agP τ n (nI r) (nI f) v τ1 ∨ (stb τ τ1 ∧ exq [(eIO, (3212836864 : UInt32)), (eNS, (3221225472 : UInt32))] [(eIO, hdR τ n (nI r)), (eIO, nR 3 (nI f)), (eNS, ∃ x, ftx τ n (nI r) (nI f) x)] v)) : stb σ τ1 ∧ ¬ Op.cmpValue (FP.fcmp v FP.fconst0) .g ≤ 0 ∧ Op.cmpValue (FP.fcmp v FP.fconst1) .l ≤ 0 := by
  have h24 := hC.n24
  have hrn := hr.1
  rcases h with ⟨a, i, x, hb, ⟨e1, ha⟩, h1, rfl⟩ | ⟨h1, h2⟩
  · have hb2 := hb
    obtain ⟨a2, z1, z2, z3, z4, hx, z5⟩ := hb
    have e := eq_of_nI e1 (by omega) (by omega)
    subst e
    have e := eq_of_nI z1 (by omega) (by have := z3.1; omega)
    subst e
    refine ⟨hs.tr h1, ff_in _ ?_ _ ?_ ?_ ?_⟩
    · have := cq_le (fun y => tf τ n (gC τ n 2) (gC τ n 2 r) i y ∧ τ (10 + i) y = τ (10 + i) x) n; omega
    · have := cq_le (tf τ n (gC τ n 2) (gC τ n 2 r) i) n; omega
    · have := cq_upp (P := fun y => tf τ n (gC τ n 2) (gC τ n 2 r) i y ∧ τ (10 + i) y = τ (10 + i) x) hx ⟨z5.1, rfl⟩; omega
    · exact cq_mono (fun y hy q => q.1)
  · exfalso
    rcases exq_k3 h2 with ⟨h3, -⟩ | ⟨-, -, h5, -⟩
    · exact h3 ⟨(hdR_b hC hs (by omega)).mpr hr, f, rfl, hf⟩
    · exact h5 ((s_ftx hC hs hg (by omega) hf hr).mpr hF)
end B
