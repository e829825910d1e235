/-! groups there always are -/
theorem comp_ex (n : Nat) (lk : Nat → Nat → Prop) (hs : ∀ a b, lk a b → lk b a) : ∃ c, Comp n lk c := by
  have h : ∀ r : Nat, ∃ m, rch n lk r m ∧ ∀ x, x < m → ¬ rch n lk r x := fun r => pk_least (fun y => rch n lk r y) ⟨r, rch_rf r⟩
  refine ⟨fun r => Classical.choose (h r), fun r hr => ?_, fun a b ha hb hl => ?_, fun r _ => (Classical.choose_spec (h r)).1⟩
  · have h2 := (Classical.choose_spec (h r)).2
    exact Nat.le_of_not_lt fun q => h2 r q (rch_rf r)
  · have ha2 := Classical.choose_spec (h a)
    have hb2 := Classical.choose_spec (h b)
    have hab := rch_1 ha hb hl
    have hba := rch_1 hb ha (hs a b hl)
    have q1 : ¬ Classical.choose (h a) < Classical.choose (h b) := fun q => hb2.2 _ q (rch_tr hba ha2.1)
    have q2 : ¬ Classical.choose (h b) < Classical.choose (h a) := fun q => ha2.2 _ q (rch_tr hab hb2.1)
    show Classical.choose (h a) = Classical.choose (h b)
    omega
theorem stq_ex (n : Nat) (lv : Nat → Prop) (ky : Nat → Nat → Int32) (fb : Nat → Nat → Prop) (k : Nat) (g0 : Nat → Nat) : ∃ g1, stq n lv ky fb k g0 g1 := by
  obtain ⟨c, hc⟩ := comp_ex n (lkq lv ky k g0) lkq_sy
  refine ⟨fun r => if dP (mjq n ky fb k (fun x => lv x ∧ c x = c r)) then c r else g0 r, c, hc, fun r hr => ⟨fun h => ?_, fun h => ?_⟩⟩
  · show (if dP (mjq n ky fb k (fun x => lv x ∧ c x = c r)) then c r else g0 r) = c r
    rw [dP_t.mpr h]; rfl
  · show (if dP (mjq n ky fb k (fun x => lv x ∧ c x = c r)) then c r else g0 r) = g0 r
    rw [dP_f h]; rfl
theorem gq_ok (n : Nat) (lv : Nat → Prop) (ky : Nat → Nat → Int32) (fb : Nat → Nat → Prop) : grs n lv ky fb (gq n lv ky fb) := by
  obtain ⟨g0, h0⟩ := stq_ex n lv ky fb 0 (fun r => r)
  obtain ⟨g1, h1⟩ := stq_ex n lv ky fb 1 g0
  obtain ⟨g2, h2⟩ := stq_ex n lv ky fb 2 g1
  exact gq_grs (g := fun s => match s with | 0 => g0 | 1 => g1 | _ => g2) ⟨h0, h1, h2⟩
/-! THE COUPLING: the class's memory σ and the model's μ -/
def cNu (σ μ : Sg) (n m p d L : Nat) : Prop := (σ 1 8 = nI n ∧ μ 0 7 = nI n ∧ n ≤ 24) ∧ (σ 1 7 = nI m ∧ μ 0 1 = nI m ∧ m ≤ 4) ∧ (σ 1 9 = nI p ∧ μ 0 10 = nI p ∧ p ≤ 12) ∧ (σ 0 4 = nI d ∧ μ 0 12 = nI d ∧ d ≤ 999) ∧ (σ 0 5 = nI L ∧ μ 0 11 = nI L ∧ 1 ≤ L ∧ L ≤ 99)
def cSo (σ μ : Sg) (n : Nat) : Prop := σ 3 = μ 2 ∧ ∀ r, r < n → ∃ s, s < 4 ∧ σ 3 r = nI s
def cSe (σ μ : Sg) (n d : Nat) (sn : Nat → Nat) : Prop := σ 4 = μ 3 ∧ ∀ r, r < n → σ 4 r = nI (sn r) ∧ sn r ≤ d
def cKe (σ μ : Sg) (n : Nat) : Prop := (∀ s r, s < 3 → r < 24 → σ (7 + s) r = μ (11 + r) s) ∧ ∀ s r, s < 3 → r < n → rg (σ (7 + s) r) (-1) 99
def cFa (σ μ : Sg) : Prop := ∀ f r, f < 3 → r < 24 → σ (10 + f) r = μ (35 + r) f
def cLi (σ μ : Sg) (n : Nat) : Prop := (∀ r, r < 32 → (tb (σ 1 6) r = true ↔ r < n ∧ μ 6 r = 0)) ∧ ∀ r, n ≤ r → μ 6 r = 0
def cPa (σ μ : Sg) (n p : Nat) : Prop := mQ μ n p ∧ (∀ a b i j, i < p → j < p → mtc μ a b i → mtc μ a b j → i = j) ∧ ∀ a b, a < 24 → b < 32 → (tb (σ 13 a) b = true ↔ ∃ i, i < p ∧ mtc μ a b i)
def Cpl (σ μ : Sg) (n m p d L : Nat) (sn : Nat → Nat) : Prop := cNu σ μ n m p d L ∧ σ 2 = μ 1 ∧ cSo σ μ n ∧ cSe σ μ n d sn ∧ cKe σ μ n ∧ cFa σ μ ∧ cLi σ μ n ∧ cPa σ μ n p ∧ (μ 0 16 = -1 ∧ μ 0 17 = -1)
def CP (σ μ : Sg) : Prop := ∃ n m p d L sn, Cpl σ μ n m p d L sn
section CPL
variable {σ μ : Sg} {n m p d L : Nat} {sn : Nat → Nat}
theorem Cpl.st {σ1 μ1 : Sg} (h : Cpl σ μ n m p d L sn) (h1 : stb σ σ1) (h2 : stM μ μ1) : Cpl σ1 μ1 n m p d L sn := by
  obtain ⟨hN, hT, hS, hSe, hK, hF, hL, hP, hZ⟩ := h
  have r0 := h1 0 (by omega)
  have r1 := h1 1 (by omega)
  have z : ∀ b, b ≠ 13 → μ1 0 b = μ 0 b := fun b hb => h2 0 b (by decide) (by decide) (fun _ => hb)
  have w : ∀ a, a ≠ 0 → a ≠ 9 → a ≠ 10 → μ1 a = μ a := fun a x y q => h2.row x y q
  refine ⟨?_, ?_, ?_, ?_, ?_, ?_, ?_, ?_, ?_⟩
  · unfold cNu; rw [r0, r1, z 7 (by decide), z 1 (by decide), z 10 (by decide), z 12 (by decide), z 11 (by decide)]; exact hN
  · rw [h1 2 (by omega), w 1 (by decide) (by decide) (by decide)]; exact hT
  · unfold cSo; rw [h1 3 (by omega), w 2 (by decide) (by decide) (by decide)]; exact hS
  · unfold cSe; rw [h1 4 (by omega), w 3 (by decide) (by decide) (by decide)]; exact hSe
  · refine ⟨fun s r hs hr => ?_, fun s r hs hr => ?_⟩
    · rw [h1 (7 + s) (by omega), w (11 + r) (by omega) (by omega) (by omega)]; exact hK.1 s r hs hr
    · rw [h1 (7 + s) (by omega)]; exact hK.2 s r hs hr
  · intro f r hf hr
    rw [h1 (10 + f) (by omega), w (35 + r) (by omega) (by omega) (by omega)]; exact hF f r hf hr
  · unfold cLi; rw [r1, w 6 (by decide) (by decide) (by decide)]; exact hL
  · unfold cPa mQ mtc; rw [h1 13 (by omega), w 7 (by decide) (by decide) (by decide), w 8 (by decide) (by decide) (by decide)]; exact hP
  · rw [z 16 (by decide), z 17 (by decide)]; exact hZ
theorem Cpl.mI (h : Cpl σ μ n m p d L sn) : mI μ n := ⟨h.1.1.2.1, h.1.1.2.2⟩
theorem Cpl.cI (h : Cpl σ μ n m p d L sn) : cI σ n := ⟨h.1.1.1, h.1.1.2.2⟩
theorem Cpl.mP (h : Cpl σ μ n m p d L sn) : mP μ p := ⟨h.1.2.2.1.2.1, h.1.2.2.1.2.2⟩
theorem Cpl.mQ (h : Cpl σ μ n m p d L sn) : mQ μ n p := h.2.2.2.2.2.2.2.1.1
theorem Cpl.cS (h : Cpl σ μ n m p d L sn) : cS σ n := h.2.2.1.2
theorem Cpl.sM (h : Cpl σ μ n m p d L sn) : sM μ n := fun a ha => by
  obtain ⟨s, h1, h2⟩ := h.2.2.1.2 a ha
  rw [h.2.2.1.1] at h2
  exact ⟨s, h1, h2⟩
theorem Cpl.cD (h : Cpl σ μ n m p d L sn) : cD σ n sn d L := ⟨h.2.2.2.1.2, h.1.2.2.2.1.1, h.1.2.2.2.1.2.2, h.1.2.2.2.2.1, h.1.2.2.2.2.2.2⟩
theorem Cpl.cDM (h : Cpl σ μ n m p d L sn) : cDM μ n sn d L := ⟨by rw [← h.2.2.2.1.1]; exact h.2.2.2.1.2, h.1.2.2.2.1.2.1, h.1.2.2.2.1.2.2, h.1.2.2.2.2.2.1, h.1.2.2.2.2.2.2⟩
theorem Cpl.hdn (h : Cpl σ μ n m p d L sn) (r : Nat) (hr : r < n) : hd σ n r ↔ r < n ∧ μ 6 r = 0 := by
  have h24 := h.1.1.2.2
  have := h.2.2.2.2.2.2.1.1 r (by omega)
  unfold hd
  rw [this]
  constructor
  · exact fun q => q.2
  · exact fun q => ⟨q.1, q⟩
theorem Cpl.lv (h : Cpl σ μ n m p d L sn) (r : Nat) (hr : r < n) : hd σ n r ↔ lvM μ n r := by
  have h24 := h.1.1.2.2
  rw [h.hdn r hr]
  unfold lvM ct
  rw [h.2.2.2.2.2.2.2.2.1]
  exact ⟨fun q => ⟨q.1, q.2, nI_ne_m1 (by omega)⟩, fun q => ⟨q.1, q.2.1⟩⟩
theorem Cpl.rc (h : Cpl σ μ n m p d L sn) (r : Int32) : hdR σ n r ↔ rcM μ n r := by
  constructor
  · rintro ⟨a, rfl, ha⟩
    have := (h.hdn a ha.1).mp ha
    exact ⟨a, rfl, this.1, this.2⟩
  · rintro ⟨a, rfl, ha, h6⟩
    exact ⟨a, rfl, (h.hdn a ha).mpr ⟨ha, h6⟩⟩
theorem Cpl.ky (h : Cpl σ μ n m p d L sn) (s r : Nat) (hs : s < 3) (hr : r < n) : kyC σ s r = kyM μ s r := h.2.2.2.2.1.1 s r hs (by have := h.1.1.2.2; omega)
theorem Cpl.mt1 (h : Cpl σ μ n m p d L sn) {a b i : Nat} (hi : i < p) (hm : mtc μ a b i) : (∀ j, j < i → ¬ mtc μ a b j) := fun j hj q => by
  have := h.2.2.2.2.2.2.2.1.2.1 a b j i (by omega) hi q hm
  omega
theorem Cpl.fb (h : Cpl σ μ n m p d L sn) (a b : Nat) (ha : a < n) (hb : b < n) : fbC σ a b ↔ fbM μ p a b := by
  have h24 := h.1.1.2.2
  have h12 := h.1.2.2.1.2.2
  show tb (σ 13 a) b = true ↔ _
  rw [h.2.2.2.2.2.2.2.1.2.2 a b (by omega) (by omega)]
  constructor
  · rintro ⟨i, hi, hm⟩
    exact ⟨i, hi, hm, h.mt1 hi hm, by rw [h.2.2.2.2.2.2.2.2.2]; exact nI_ne_m1 (by omega)⟩
  · rintro ⟨i, hi, hm, -⟩
    exact ⟨i, hi, hm⟩
theorem Cpl.gg (h : Cpl σ μ n m p d L sn) : ∀ k r, k < 3 → r < n → gC σ n k r = gM μ n p k r :=
  grs_uniq (gq_ok n _ _ _) (gq_ok n _ _ _) h.lv h.ky (fun a b ha hb _ _ => h.fb a b ha hb)
/-- groups that are told alike -/
theorem gq_same {σ μ : Sg} {n p : Nat} (hlv : ∀ r, r < n → (hd σ n r ↔ lvM μ n r)) (hky : ∀ s r, s < 3 → r < n → kyC σ s r = kyM μ s r) (hfb : ∀ a b, a < n → b < n → hd σ n a → hd σ n b → (fbC σ a b ↔ fbM μ p a b)) : ∀ k r, k < 3 → r < n → gC σ n k r = gM μ n p k r :=
  grs_uniq (gq_ok n _ _ _) (gq_ok n _ _ _) hlv hky hfb
theorem mb_same {σ μ : Sg} {n p : Nat} (hlv : ∀ r, r < n → (hd σ n r ↔ lvM μ n r)) (hg : ∀ r, r < n → gC σ n 2 r = gM μ n p 2 r) (h r : Nat) (hr : r < n) : mbr σ n (gC σ n 2) h r ↔ mbM μ n (gM μ n p 2) h r := by
  unfold mbr mbM
  rw [hlv r hr, hg r hr]
theorem th_same {σ μ : Sg} {n p : Nat} (hlv : ∀ r, r < n → (hd σ n r ↔ lvM μ n r)) (hg : ∀ r, r < n → gC σ n 2 r = gM μ n p 2 r) : cq (THs σ n) n = cq (thM μ n p) n :=
  cq_cong (fun r hr => mb_same hlv hg r r hr)
end CPL
/-! results of both -/
def cdL (l : List String) (E : String) : Int32 := nI (l.idxOf E + 1)
def cres {α : Type} (l : List String) (post : α → Sg → Prop) (pX : String → Sg → Prop) (k : Int32) (v : α) (σ1 : Sg) : Prop := (k = 0 ∧ post v σ1) ∨ ∃ E, pX E σ1 ∧ k = cdL l E
def mch (l : List String) : List (String × Prop) → List (Int32 × Prop) → Prop
  | [], [] => True
  | (E, P) :: r, (c, Q) :: t => cdL l E = c ∧ (P ↔ Q) ∧ (P → mch l r t)
  | _, _ => False
theorem mch_thr {l : List String} {μ μ1 : Sg} {F : Prop} {E : String} : ∀ {Lc : List (String × Prop)} {Lm : List (Int32 × Prop)}, mch l Lc Lm → thr Lc E → mTh μ μ1 Lm F → mS (cdL l E) μ μ1
  | [], [], _, h, _ => h.elim
  | [], _ :: _, h, _, _ => h.elim
  | _ :: _, [], h, _, _ => h.elim
  | (E0, P) :: r, (c, Q) :: t, ⟨h1, h2, h3⟩, ht, hm => by
    rcases ht with ⟨e, hn⟩ | ⟨hp, ht⟩
    · rcases hm with ⟨-, hm⟩ | ⟨hq, -⟩
      · rw [e, h1]; exact hm
      · exact absurd (h2.mpr hq) hn
    · rcases hm with ⟨hq, -⟩ | ⟨-, hm⟩
      · exact absurd (h2.mp hp) hq
      · exact mch_thr (h3 hp) ht hm
def allP : List (String × Prop) → Prop
  | [] => True
  | (_, P) :: r => P ∧ allP r
theorem mch_ok {l : List String} {μ μ1 : Sg} {F : Prop} : ∀ {Lc : List (String × Prop)} {Lm : List (Int32 × Prop)}, mch l Lc Lm → allP Lc → mTh μ μ1 Lm F → F
  | [], [], _, _, hm => hm
  | [], _ :: _, h, _, _ => h.elim
  | _ :: _, [], h, _, _ => h.elim
  | (E0, P) :: r, (c, Q) :: t, ⟨h1, h2, h3⟩, hp, hm => by
    rcases hm with ⟨hq, -⟩ | ⟨-, hm⟩
    · exact absurd (h2.mp hp.1) hq
    · exact mch_ok (h3 hp.1) hp.2 hm
/-- the two sides agree: what was thrown, the answer, the memories -/
def agr {α : Type} (k : Int32) (v w : α) (σ1 μ1 : Sg) : Prop := μ1 0 13 = k ∧ (k = 0 → v = w) ∧ CP σ1 μ1
theorem agr_of {α : Type} {σ μ σ1 μ1 : Sg} {n m p d L : Nat} {sn : Nat → Nat} {l : List String} {post : α → Sg → Prop} {Lc : List (String × Prop)} {Lm : List (Int32 × Prop)} {F : Prop} {k : Int32} {v w : α} (hC : Cpl σ μ n m p d L sn)
    (h1 : cres l post (pT σ Lc) k v σ1) (h2 : mTh μ μ1 Lm F) (hm : mch l Lc Lm) (hp : post v σ1 → allP Lc) (hok : post v σ1 → F → agr 0 v w σ1 μ1) (hne : ∀ E, cdL l E ≠ 0) : agr k v w σ1 μ1 := by
  rcases h1 with ⟨rfl, h1⟩ | ⟨E, h1, rfl⟩
  · exact hok h1 (mch_ok hm (hp h1) h2)
  · have h3 := mch_thr hm h1.2 h2
    exact ⟨h3.1, fun q => absurd q (hne E), _, _, _, _, _, _, hC.st h1.1 h3.2⟩
