/-! THE WORLDS: the class's cells (0..26), the model's (0..58); bits, booleans, counts -/
def Lc : List Dsc := [
  .inr (.inr (3, [some 1, some 15, some 21, some 14, none, none])),
  .inr (.inr (0, [some 2, some 3, some 4, some 5, some 6, some 13, none, none, none, none])),
  .inl (0, 4), .inl (0, 24), .inl (0, 24), .inr (.inl (1, 3, fun i => some (7 + i))), .inr (.inl (1, 3, fun i => some (10 + i))),
  .inl (0, 24), .inl (0, 24), .inl (0, 24), .inl (0, 24), .inl (0, 24), .inl (0, 24), .inl (0, 24), .inl (0, 24),
  .inr (.inr (1, [some 16, some 20])), .inr (.inl (1, 3, fun i => some (17 + i))), .inl (0, 24), .inl (0, 24), .inl (0, 24), .inl (0, 24),
  .inr (.inr (2, [some 22, some 26])), .inr (.inl (1, 3, fun i => some (23 + i))), .inl (0, 24), .inl (0, 24), .inl (0, 24), .inl (0, 24)]
def Lm : List Dsc := [
  .inr (.inr (4, [some 1, none, some 2, some 3, some 4, some 5, some 6, none, some 7, some 8, none, none, none, none, some 9, some 10, none, none])),
  .inl (0, 4), .inl (0, 24), .inl (0, 24), .inr (.inl (1, 24, fun i => some (11 + i))), .inr (.inl (1, 24, fun i => some (35 + i))), .inl (2, 24),
  .inl (0, 12), .inl (0, 12), .inl (0, 24), .inl (0, 24)] ++ List.replicate 48 (.inl (0, 3))
theorem Lm_row {j : Nat} (h1 : 11 ≤ j) (h2 : j < 59) : Lm[j]? = some (.inl (0, 3)) := by
  have e : j = 11 + (j - 11) := by omega
  rw [e]
  unfold Lm
  rw [List.getElem?_append_right (by simp), List.getElem?_replicate]
  simp
  omega
theorem Lc_key {k : Nat} (h : k < 3) : Lc[7 + k]? = some (.inl (0, 24)) := by
  match k, h with
  | 0, _ => rfl
  | 1, _ => rfl
  | 2, _ => rfl
theorem Lc_fact {k : Nat} (h : k < 3) : Lc[10 + k]? = some (.inl (0, 24)) := by
  match k, h with
  | 0, _ => rfl
  | 1, _ => rfl
  | 2, _ => rfl
theorem Lc_gJ {k : Nat} (h : k < 3) : Lc[17 + k]? = some (.inl (0, 24)) := by
  match k, h with
  | 0, _ => rfl
  | 1, _ => rfl
  | 2, _ => rfl
theorem Lc_gS {k : Nat} (h : k < 3) : Lc[23 + k]? = some (.inl (0, 24)) := by
  match k, h with
  | 0, _ => rfl
  | 1, _ => rfl
  | 2, _ => rfl
/-- a post that knows the answer and the memory -/
abbrev pP {α : Type} (σ : Sg) (v : α) : α → Sg → Prop := fun r σ1 => σ = σ1 ∧ v = r
theorem pP_i {α : Type} {σ : Sg} {v w : α} (h : v = w) : pP σ v w σ := ⟨rfl, h⟩
def zb (b : Bool) : Int32 := if b then 1 else 0
theorem zb_t : zb true = 1 := rfl
theorem zb_f : zb false = 0 := rfl
theorem zb_0 {b : Bool} : zb b = 0 ↔ b = false := by cases b <;> simp [zb]
theorem zb_n {b : Bool} : ¬ zb b = 0 ↔ b = true := by cases b <;> simp [zb]
theorem zb_nar {b : Bool} : narrow .boolean (.int (zb b)) = .int (zb b) := by cases b <;> rfl
theorem nI_inc (n : Nat) : nI n + Int32.ofInt 1 = nI (n + 1) := (nI_succ n).symm
theorem nI_m1 : (-1 : Int32) = Int32.ofInt (-1) := rfl
/-- the bit i -/
def tb (m : Int32) (i : Nat) : Bool := m.toBitVec.getLsbD i
theorem tb_sm : ∀ n, n < 32 → ((nI n &&& 31).toBitVec.smod 32).toNat = n := by decide +kernel
theorem tb_isIn {m : Int32} {i : Nat} (hi : i < 31) : ((m >>> (nI i &&& 31)) &&& 1 = 0) ↔ tb m i = false := by
  have h1 : (m >>> (nI i &&& 31)).toBitVec = m.toBitVec.sshiftRight i := by
    rw [Int32.toBitVec_shiftRight]
    show m.toBitVec.sshiftRight ((nI i &&& 31).toBitVec.smod 32).toNat = _
    rw [tb_sm i (by omega)]
  have h2 : ∀ x : Int32, (x &&& 1 = 0) ↔ x.toBitVec.getLsbD 0 = false := by
    intro x
    constructor
    · intro h
      have h3 : (x &&& 1).toBitVec.getLsbD 0 = false := by rw [h]; rfl
      simpa using h3
    · intro h
      apply Int32.toBitVec_inj.mp
      apply BitVec.eq_of_getLsbD_eq
      intro j hj
      have h4 : (x &&& 1).toBitVec = x.toBitVec &&& 1#32 := rfl
      rw [h4]
      by_cases hj0 : j = 0
      · subst hj0
        rw [BitVec.getLsbD_and, h]
        simp
      · simp [BitVec.getLsbD_and, BitVec.getLsbD_one, hj0]
  rw [h2, h1]
  unfold tb
  rw [BitVec.getLsbD_sshiftRight]
  simp
  intro h9
  omega
theorem tb_one {i : Nat} (hi : i < 32) : ((1 : Int32) <<< (nI i &&& 31)).toBitVec = BitVec.twoPow 32 i := by
  rw [Int32.toBitVec_shiftLeft]
  show (1#32) <<< ((nI i &&& 31).toBitVec.smod 32).toNat = _
  rw [tb_sm i hi]
  rfl
theorem tb_set (m : Int32) {i : Nat} (hi : i < 32) (j : Nat) : tb (m ||| ((1 : Int32) <<< (nI i &&& 31))) j = (tb m j || decide (j = i)) := by
  unfold tb
  rw [Int32.toBitVec_or, BitVec.getLsbD_or, tb_one hi, BitVec.getLsbD_twoPow]
  by_cases h : j = i
  · subst h; simp [hi]
  · have h2 : ¬ i = j := fun e => h e.symm
    simp [h, h2]
theorem tb_clear (m : Int32) {i : Nat} (hi : i < 32) {j : Nat} (hj : j < 32) : tb (m &&& (((1 : Int32) <<< (nI i &&& 31)) ^^^ (-1))) j = (tb m j && !decide (j = i)) := by
  unfold tb
  rw [Int32.toBitVec_and, BitVec.getLsbD_and, Int32.toBitVec_xor, BitVec.getLsbD_xor, tb_one hi, BitVec.getLsbD_twoPow]
  have h1 : (-1 : Int32).toBitVec = BitVec.allOnes 32 := by decide
  rw [h1, BitVec.getLsbD_allOnes]
  by_cases h : j = i
  · subst h; simp [hi]
  · have h2 : ¬ i = j := fun e => h e.symm
    simp [h, h2, hj]
section LOC
variable {TB : Method → Code → Prop} {l : Launch} {R : Room} {own : String} {cc : ByteArray} {nL : Nat} {ret : Option FieldType} {D : va_G} {cT ad : Nat → Nat} {L : List Dsc} {A : Nat → Prop} {Z : List Frame → Array Value → State → State → Prop} {X : va_W} {pc : Nat} {ls : List (Nat × Value)} {st : List Value} {σ : Sg} {k n : Nat}
theorem wm_loc {ls2 : List (Nat × Value)} (ks : List Nat) (h : lv_pick ls ks = ls2) (kk : Wm TB l R own cc nL ret D cT ad L A Z X pc ls2 st σ k n) : Wm TB l R own cc nL ret D cT ad L A Z X pc ls st σ k n := by
  intro p e s m args below meth c H locs la C w hl
  refine kk p e s m args below meth c H locs la C w ⟨hl.1, hl.2.1, fun q hq => ?_⟩
  obtain ⟨q0, hq0, rfl⟩ := List.mem_map.mp hq
  rw [← h] at hq0
  obtain ⟨i, -, hi⟩ := List.mem_filterMap.mp hq0
  exact hl.2.2 _ (List.mem_map.mpr ⟨q0, List.mem_of_getElem? hi, rfl⟩)
theorem wm_eq {pc' : Nat} {ls' : List (Nat × Value)} {st' : List Value} {σ' : Sg} (h1 : ls' = ls) (h2 : st' = st) (h3 : σ' = σ) (h4 : pc' = pc) (kk : Wm TB l R own cc nL ret D cT ad L A Z X pc' ls' st' σ' k n) : Wm TB l R own cc nL ret D cT ad L A Z X pc ls st σ k n := by
  subst h1; subst h2; subst h3; subst h4; exact kk
end LOC
theorem in24 {i n : Nat} (h : i < n) (hn : n ≤ 24) : vp_in (nI i) 24 := vp_in_nI (by omega) (by omega)
theorem cl24 {i : Nat} (h : i < 2 ^ 31) : (nI i).toNatClampNeg = i := nI_clamp h
/-- the answer of a boolean method that decides P -/
noncomputable def dP (P : Prop) : Bool := @decide P (Classical.propDecidable P)
noncomputable def zp (P : Prop) : Int32 := zb (dP P)
theorem dP_t {P : Prop} : dP P = true ↔ P := by unfold dP; exact @decide_eq_true_iff P (Classical.propDecidable P)
theorem zp_t {P : Prop} (h : P) : zp P = 1 := by unfold zp; rw [dP_t.mpr h]; rfl
theorem zp_f {P : Prop} (h : ¬ P) : zp P = 0 := by
  unfold zp
  cases e : dP P with
  | true => exact absurd (dP_t.mp e) h
  | false => rfl
theorem zp_0 {P : Prop} : zp P = 0 ↔ ¬ P := by
  constructor
  · intro h hp
    rw [zp_t hp] at h
    exact absurd h (by decide)
  · exact zp_f
theorem zp_n {P : Prop} : ¬ zp P = 0 ↔ P := by
  constructor
  · intro h
    exact Classical.byContradiction fun hp => h (zp_f hp)
  · intro hp h
    exact zp_0.mp h hp
theorem zp_c {P Q : Prop} (h : P ↔ Q) : zp P = zp Q := by rw [propext h]
theorem le_of_nI {a b : Nat} (h : nI a ≤ nI b) (ha : a < 2 ^ 31) (hb : b < 2 ^ 31) : a ≤ b := (nI_leI ha hb).mp h
theorem lt_of_nnI {a b : Nat} (h : ¬ nI a ≤ nI b) (ha : a < 2 ^ 31) (hb : b < 2 ^ 31) : b < a := Nat.lt_of_not_le fun q => h ((nI_leI ha hb).mpr q)
theorem eq_of_nI {a b : Nat} (h : nI a = nI b) (ha : a < 2 ^ 31) (hb : b < 2 ^ 31) : a = b := (nI_eq ha hb).mp h
theorem ne_of_nnI {a b : Nat} (h : ¬ nI a = nI b) : a ≠ b := fun e => h (by rw [e])
/-- the class's numbers: n records, all within the room -/
def cI (σ : Sg) (n : Nat) : Prop := σ 1 8 = nI n ∧ n ≤ 24
def hd (σ : Sg) (n i : Nat) : Prop := i < n ∧ tb (σ 1 6) i = true
def hdR (σ : Sg) (n : Nat) (r : Int32) : Prop := ∃ i, r = nI i ∧ hd σ n i
theorem hdR_n {σ : Sg} {n i : Nat} (hn : n ≤ 24) (hi : i < 2 ^ 31) : hdR σ n (nI i) ↔ hd σ n i := by
  constructor
  · rintro ⟨j, e, h⟩
    have hj := h.1
    have := eq_of_nI e hi (by omega)
    rw [this]; exact h
  · intro h; exact ⟨i, rfl, h⟩
/-- two records have the same key of a kind -/
def smK (σ : Sg) (n k a b : Nat) : Prop := hd σ n a ∧ hd σ n b ∧ σ (7 + k) a ≠ -1 ∧ σ (7 + k) a = σ (7 + k) b
theorem fa_nle {a b : Int32} (h : a ≤ b) (h2 : b < a) : False := by
  have h1 : a.toInt ≤ b.toInt := Int32.le_iff_toInt_le.mp h
  have h3 : b.toInt < a.toInt := Int32.lt_iff_toInt_lt.mp h2
  omega
theorem fa_nlt {a b : Int32} (h : ¬ a ≤ b) : b < a := by
  have h1 : ¬ a.toInt ≤ b.toInt := fun q => h (Int32.le_iff_toInt_le.mpr q)
  apply Int32.lt_iff_toInt_lt.mpr
  omega
theorem zp_nar {P : Prop} : narrow .boolean (.int (zp P)) = .int (zp P) := zb_nar
