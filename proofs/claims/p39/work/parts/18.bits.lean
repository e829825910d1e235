theorem ca_J6_bitCount_0f7a4 : zCal yJ6_bitCount_0f7a4 cJ6_bitCount_0f7a4 1 (some .int) 1 := ⟨aw_4_8, aw_4_7, by decide +kernel, by decide +kernel, by decide +kernel⟩
theorem ca_X1_countRecords : zCal yX1_countRecords cX1_countRecords 1 (some .int) 0 := ⟨aw_4_3, aw_1_17, by decide +kernel, by decide +kernel, by decide +kernel⟩
theorem cv_X1_countRecords : zCaV RX1 yX1_countRecords := ⟨aw_4_1, aw_4_2⟩
/-! THE COUNT OF BITS -/
def bsum (f : Nat → Bool) : Nat → Nat
  | 0 => 0
  | n + 1 => bsum f n + (f n).toNat
theorem cq_bit {f : Nat → Bool} : ∀ n, cq (fun i => f i = true) n = bsum f n
  | 0 => rfl
  | n + 1 => by
    have ih := cq_bit (f := f) n
    cases h : f n with
    | true => rw [cq_t (P := fun i => f i = true) h, ih]; simp [bsum, h]
    | false => rw [cq_f (P := fun i => f i = true) (by simp [h]), ih]; simp [bsum, h]
theorem bsum_add (f : Nat → Bool) (m : Nat) : ∀ n, bsum f (m + n) = bsum f m + bsum (fun i => f (m + i)) n
  | 0 => rfl
  | n + 1 => by
    show bsum f (m + n) + (f (m + n)).toNat = bsum f m + (bsum (fun i => f (m + i)) n + (f (m + n)).toNat)
    rw [bsum_add f m n]; omega
theorem bsum_cong {f g : Nat → Bool} : ∀ {n}, (∀ i, i < n → f i = g i) → bsum f n = bsum g n
  | 0, _ => rfl
  | n + 1, h => by
    show bsum f n + _ = bsum g n + _
    rw [bsum_cong (fun i hi => h i (by omega)), h n (by omega)]
def bt1 (m v : Nat) : Nat := v - ((v / 2) &&& m)
def bt2 (m v : Nat) : Nat := (v &&& m) + ((v / 4) &&& m)
def bt3 (m v : Nat) : Nat := (v + v / 16) &&& m
theorem b_split {x m : Nat} (y k : Nat) (hx : x < 256) (hm : m < 256) : (x + 256 * y) &&& (m + 256 * k) = (x &&& m) + 256 * (y &&& k) := by
  have e1 : ∀ a b : Nat, a + 256 * b = 2 ^ 8 * b + a := fun a b => by omega
  have hxm : x &&& m < 2 ^ 8 := Nat.lt_of_le_of_lt Nat.and_le_left (by omega)
  rw [e1, e1, e1]
  apply Nat.eq_of_testBit_eq
  intro i
  rw [Nat.testBit_and, Nat.testBit_two_pow_mul_add _ (show x < 2 ^ 8 by omega), Nat.testBit_two_pow_mul_add _ (show m < 2 ^ 8 by omega), Nat.testBit_two_pow_mul_add _ hxm]
  split <;> rw [Nat.testBit_and]
theorem b_d1 : ∀ r, r < 2 → ∀ x, x < 256 → ((x / 2 + 128 * r) &&& 0x55) = ((x / 2) &&& 0x55) := by decide +kernel
theorem b_d2 : ∀ r, r < 4 → ∀ x, x < 256 → ((x / 4 + 64 * r) &&& 0x33) = ((x / 4) &&& 0x33) := by decide +kernel
theorem b_d3 : ∀ r, r < 5 → ∀ x, x < 69 → ((x + x / 16 + 16 * r) &&& 15) = ((x + x / 16) &&& 15) := by decide +kernel
theorem b_d4 : ∀ b, b < 256 → bt2 0x33 (bt1 0x55 b) ≤ 68 ∧ bt2 0x33 (bt1 0x55 b) % 16 ≤ 4 ∧ bt3 15 (bt2 0x33 (bt1 0x55 b)) = bsum (fun i => b.testBit i) 8 ∧ bt1 0x55 b < 256 := by decide +kernel
theorem b_1 {x : Nat} (y m : Nat) (hx : x < 256) : bt1 (0x55 + 256 * m) (x + 256 * y) = bt1 0x55 x + 256 * bt1 m y := by
  unfold bt1
  have e : (x + 256 * y) / 2 = (x / 2 + 128 * (y % 2)) + 256 * (y / 2) := by omega
  rw [e, b_split _ _ (by omega) (by omega), b_d1 _ (Nat.mod_lt _ (by omega)) x hx]
  have h1 : (x / 2) &&& 0x55 ≤ x := Nat.le_trans Nat.and_le_left (by omega)
  have h2 : (y / 2) &&& m ≤ y := Nat.le_trans Nat.and_le_left (by omega)
  omega
theorem b_2 {x : Nat} (y m : Nat) (hx : x < 256) : bt2 (0x33 + 256 * m) (x + 256 * y) = bt2 0x33 x + 256 * bt2 m y := by
  unfold bt2
  have e : (x + 256 * y) / 4 = (x / 4 + 64 * (y % 4)) + 256 * (y / 4) := by omega
  rw [e, b_split _ _ (by omega) (by omega), b_split _ _ (by omega) (by omega), b_d2 _ (Nat.mod_lt _ (by omega)) x hx]
  omega
theorem b_3 {x : Nat} (y m : Nat) (hx : x ≤ 68) (hy : y % 16 ≤ 4) : bt3 (15 + 256 * m) (x + 256 * y) = bt3 15 x + 256 * bt3 m y := by
  unfold bt3
  have e : x + 256 * y + (x + 256 * y) / 16 = (x + x / 16 + 16 * (y % 16)) + 256 * (y + y / 16) := by omega
  rw [e, b_split _ _ (by omega) (by omega), b_d3 _ (by omega) x (by omega)]
theorem b_all {b0 b1 b2 b3 : Nat} (h0 : b0 < 256) (h1 : b1 < 256) (h2 : b2 < 256) (h3 : b3 < 256) : bt3 0x0f0f0f0f (bt2 0x33333333 (bt1 0x55555555 (b0 + 256 * (b1 + 256 * (b2 + 256 * b3))))) = bsum (fun i => b0.testBit i) 8 + 256 * (bsum (fun i => b1.testBit i) 8 + 256 * (bsum (fun i => b2.testBit i) 8 + 256 * bsum (fun i => b3.testBit i) 8)) := by
  have d0 := b_d4 b0 h0
  have d1 := b_d4 b1 h1
  have d2 := b_d4 b2 h2
  have d3 := b_d4 b3 h3
  rw [show (0x55555555 : Nat) = 0x55 + 256 * (0x55 + 256 * (0x55 + 256 * 0x55)) from rfl, b_1 _ _ h0, b_1 _ _ h1, b_1 _ _ h2]
  rw [show (0x33333333 : Nat) = 0x33 + 256 * (0x33 + 256 * (0x33 + 256 * 0x33)) from rfl, b_2 _ _ d0.2.2.2, b_2 _ _ d1.2.2.2, b_2 _ _ d2.2.2.2]
  rw [show (0x0f0f0f0f : Nat) = 15 + 256 * (15 + 256 * (15 + 256 * 15)) from rfl, b_3 _ _ d0.1 (by omega), b_3 _ _ d1.1 (by omega), b_3 _ _ d2.1 (by omega)]
  rw [d0.2.2.1, d1.2.2.1, d2.2.2.1, d3.2.2.1]
theorem bsum_le (f : Nat → Bool) : ∀ n, bsum f n ≤ n
  | 0 => Nat.le_refl _
  | n + 1 => by
    have := bsum_le f n
    show bsum f n + (f n).toNat ≤ n + 1
    cases f n <;> simp <;> omega
/-- the four steps behind, on numbers -/
theorem b_end {v : Nat} (hv : v < 2 ^ 32) : ∀ w, w = bt3 0x0f0f0f0f (bt2 0x33333333 (bt1 0x55555555 v)) → w < 2 ^ 28 ∧ ((w + w / 256) + (w + w / 256) / 65536) &&& 63 = bsum (fun i => v.testBit i) 32 := by
  intro w hw
  have e : v = v % 256 + 256 * (v / 256 % 256 + 256 * (v / 65536 % 256 + 256 * (v / 16777216))) := by omega
  have k := b_all (b0 := v % 256) (b1 := v / 256 % 256) (b2 := v / 65536 % 256) (b3 := v / 16777216) (by omega) (by omega) (by omega) (by omega)
  rw [← e] at k
  rw [k] at hw
  have l0 := bsum_le (fun i => (v % 256).testBit i) 8
  have l1 := bsum_le (fun i => (v / 256 % 256).testBit i) 8
  have l2 := bsum_le (fun i => (v / 65536 % 256).testBit i) 8
  have l3 := bsum_le (fun i => (v / 16777216).testBit i) 8
  have tot : bsum (fun i => v.testBit i) 32 = bsum (fun i => (v % 256).testBit i) 8 + (bsum (fun i => (v / 256 % 256).testBit i) 8 + (bsum (fun i => (v / 65536 % 256).testBit i) 8 + bsum (fun i => (v / 16777216).testBit i) 8)) := by
    rw [show 32 = 8 + (8 + (8 + 8)) from rfl, bsum_add, bsum_add, bsum_add]
    have f0 : bsum (fun i => v.testBit i) 8 = bsum (fun i => (v % 256).testBit i) 8 := bsum_cong fun i hi => by
      rw [show 256 = 2 ^ 8 from rfl, Nat.testBit_mod_two_pow]; simp [hi]
    have f1 : bsum (fun i => v.testBit (8 + i)) 8 = bsum (fun i => (v / 256 % 256).testBit i) 8 := bsum_cong fun i hi => by
      rw [show 256 = 2 ^ 8 from rfl, Nat.testBit_mod_two_pow, Nat.testBit_div_two_pow]; simp [hi, Nat.add_comm]
    have f2 : bsum (fun i => v.testBit (8 + (8 + i))) 8 = bsum (fun i => (v / 65536 % 256).testBit i) 8 := bsum_cong fun i hi => by
      rw [show 256 = 2 ^ 8 from rfl, show 65536 = 2 ^ 16 from rfl, Nat.testBit_mod_two_pow, Nat.testBit_div_two_pow]; simp [hi]; congr 1; omega
    have f3 : bsum (fun i => v.testBit (8 + (8 + (8 + i)))) 8 = bsum (fun i => (v / 16777216).testBit i) 8 := bsum_cong fun i hi => by
      rw [show 16777216 = 2 ^ 24 from rfl, Nat.testBit_div_two_pow]; congr 1; omega
    rw [f0, f1, f2, f3]
  refine ⟨by omega, ?_⟩
  rw [show (63 : Nat) = 2 ^ 6 - 1 from rfl, Nat.and_two_pow_sub_one_eq_mod, tot]
  generalize bsum (fun i => (v % 256).testBit i) 8 = c0 at *
  generalize bsum (fun i => (v / 256 % 256).testBit i) 8 = c1 at *
  generalize bsum (fun i => (v / 65536 % 256).testBit i) 8 = c2 at *
  generalize bsum (fun i => (v / 16777216).testBit i) 8 = c3 at *
  clear k tot e hv
  have q1 : w / 256 = c1 + 256 * (c2 + 256 * c3) := by omega
  have q2 : w + w / 256 = (c0 + c1) + 256 * (c1 + c2) + 65536 * (c2 + c3) + 16777216 * c3 := by omega
  have q3 : (w + w / 256) / 65536 = (c2 + c3) + 256 * c3 := by omega
  rw [q3, q2]
  omega
abbrev iN (x : Int32) : Nat := x.toBitVec.toNat
theorem iN_lt (x : Int32) : iN x < 2 ^ 32 := x.toBitVec.isLt
theorem iN_nI (x : Int32) : nI (iN x) = x := by
  apply Int32.toBitVec_inj.mp
  show BitVec.ofNat 32 _ = _
  simp
theorem iN_sub {x y : Int32} (h : iN y ≤ iN x) : iN (x - y) = iN x - iN y := by
  unfold iN at *
  rw [Int32.toBitVec_sub, BitVec.toNat_sub]
  have := x.toBitVec.isLt
  have := y.toBitVec.isLt
  omega
theorem iN_add {x y : Int32} (h : iN x + iN y < 2 ^ 32) : iN (x + y) = iN x + iN y := by
  unfold iN at *
  rw [Int32.toBitVec_add, BitVec.toNat_add]
  exact Nat.mod_eq_of_lt h
theorem iN_and (x y : Int32) : iN (x &&& y) = iN x &&& iN y := by
  unfold iN
  rw [Int32.toBitVec_and, BitVec.toNat_and]
abbrev ush (x s : Int32) : Int32 := (x.toUInt32 >>> (s.toUInt32 &&& Int32.toUInt32 31)).toInt32
theorem iN_1 (x : Int32) : iN (ush x 1) = iN x / 2 := pk_ushr x 1 1 (by decide)
theorem iN_2 (x : Int32) : iN (ush x 2) = iN x / 4 := pk_ushr x 2 2 (by decide)
theorem iN_4 (x : Int32) : iN (ush x 4) = iN x / 16 := pk_ushr x 4 4 (by decide)
theorem iN_8 (x : Int32) : iN (ush x 8) = iN x / 256 := pk_ushr x 8 8 (by decide)
theorem iN_16 (x : Int32) : iN (ush x 16) = iN x / 65536 := pk_ushr x 16 16 (by decide)
def bx1 (x : Int32) : Int32 := x - (ush x 1 &&& 1431655765)
def bx2 (x : Int32) : Int32 := (x &&& 858993459) + (ush x 2 &&& 858993459)
def bx3 (x : Int32) : Int32 := (x + ush x 4) &&& 252645135
def bx4 (x : Int32) : Int32 := x + ush x 8
def bx5 (x : Int32) : Int32 := x + ush x 16
/-- how many bits -/
noncomputable def popc (x : Int32) : Nat := cq (fun i => tb x i = true) 32
theorem bx_ok (x : Int32) : (bx5 (bx4 (bx3 (bx2 (bx1 x)))) &&& 63) = nI (popc x) := by
  have e1 : iN (bx1 x) = bt1 0x55555555 (iN x) := by
    unfold bx1
    have h : iN (ush x 1 &&& 1431655765) = (iN x / 2) &&& 0x55555555 := by rw [iN_and, iN_1]; rfl
    rw [iN_sub (by rw [h]; exact Nat.le_trans Nat.and_le_left (by omega)), h]; rfl
  have e2 : iN (bx2 (bx1 x)) = bt2 0x33333333 (iN (bx1 x)) := by
    unfold bx2
    have h : iN (bx1 x &&& 858993459) = iN (bx1 x) &&& 0x33333333 := by rw [iN_and]; rfl
    have h2 : iN (ush (bx1 x) 2 &&& 858993459) = (iN (bx1 x) / 4) &&& 0x33333333 := by rw [iN_and, iN_2]; rfl
    have a1 : iN (bx1 x) &&& 0x33333333 ≤ 0x33333333 := Nat.and_le_right
    have a2 : (iN (bx1 x) / 4) &&& 0x33333333 ≤ 0x33333333 := Nat.and_le_right
    rw [iN_add (by rw [h, h2]; omega), h, h2]; rfl
  have hb2 : bt2 0x33333333 (iN (bx1 x)) ≤ 0x66666666 := by
    have a1 : iN (bx1 x) &&& 0x33333333 ≤ 0x33333333 := Nat.and_le_right
    have a2 : (iN (bx1 x) / 4) &&& 0x33333333 ≤ 0x33333333 := Nat.and_le_right
    unfold bt2; omega
  have e3 : iN (bx3 (bx2 (bx1 x))) = bt3 0x0f0f0f0f (iN (bx2 (bx1 x))) := by
    unfold bx3
    rw [iN_and, iN_add (by rw [iN_4, e2]; omega), iN_4]; rfl
  have hall : iN (bx3 (bx2 (bx1 x))) = bt3 0x0f0f0f0f (bt2 0x33333333 (bt1 0x55555555 (iN x))) := by rw [e3, e2, e1]
  obtain ⟨hw, hend⟩ := b_end (iN_lt x) _ hall
  have e4 : iN (bx4 (bx3 (bx2 (bx1 x)))) = iN (bx3 (bx2 (bx1 x))) + iN (bx3 (bx2 (bx1 x))) / 256 := by
    unfold bx4
    rw [iN_add (by rw [iN_8]; omega), iN_8]
  have e5 : iN (bx5 (bx4 (bx3 (bx2 (bx1 x))))) = iN (bx4 (bx3 (bx2 (bx1 x)))) + iN (bx4 (bx3 (bx2 (bx1 x)))) / 65536 := by
    unfold bx5
    rw [iN_add (by rw [iN_16, e4]; omega), iN_16]
  have hfin : iN (bx5 (bx4 (bx3 (bx2 (bx1 x)))) &&& 63) = bsum (fun i => (iN x).testBit i) 32 := by
    rw [iN_and, e5, e4, show iN 63 = 63 from rfl]
    exact hend
  rw [← iN_nI (bx5 (bx4 (bx3 (bx2 (bx1 x)))) &&& 63), hfin]
  congr 1
  unfold popc
  rw [show (fun i => tb x i = true) = (fun i => (fun j => (iN x).testBit j) i = true) from rfl, cq_bit]

theorem k_J6_bitCount_0f7a4 (l : Launch) {σ : Sg} (x : Int32) : cMi l yJ6_bitCount_0f7a4 cJ6_bitCount_0f7a4 1 .int 0 Lc [.int x] σ (pP σ (nI (popc x))) := by
  refine zMet_of (by decide +kernel) (Nat.le_of_ble_eq_true rfl) (fun D cT ad sz => ?_)
  show Wm (fun _ _ => True) l (rmh 0) RJ6 cJ6_bitCount_0f7a4 1 (some .int) D cT ad Lc (zA ad Lc.length sz) (zZ (fun D cT ad L9 sz => zQi D cT ad L9 sz (pP σ (nI (popc x)))) D cT ad Lc sz) [] 0 (lv_args 0 [.int x]) [] σ 0 0
  refine wm_iload_n 1 rfl dJ6_bitCount_0f7a4_0 rfl rfl ?_
  refine wm_iload_n 2 rfl dJ6_bitCount_0f7a4_1 rfl rfl ?_
  refine wm_iconst (v := 1) 3 rfl dJ6_bitCount_0f7a4_2 (by decide) ?_
  refine wm_iushr 4 rfl dJ6_bitCount_0f7a4_3 ?_
  refine wm_ldcw 7 rfl dJ6_bitCount_0f7a4_4 aw_4_9 ?_
  refine wm_iand 8 rfl dJ6_bitCount_0f7a4_7 ?_
  refine wm_isub 9 rfl dJ6_bitCount_0f7a4_8 ?_
  refine wm_istore_n (ls' := [(0, _)]) 10 rfl dJ6_bitCount_0f7a4_9 rfl (by decide) rfl ?_
  refine wm_iload_n 11 rfl dJ6_bitCount_0f7a4_10 rfl rfl ?_
  refine wm_ldcw 14 rfl dJ6_bitCount_0f7a4_11 aw_4_10 ?_
  refine wm_iand 15 rfl dJ6_bitCount_0f7a4_14 ?_
  refine wm_iload_n 16 rfl dJ6_bitCount_0f7a4_15 rfl rfl ?_
  refine wm_iconst (v := 2) 17 rfl dJ6_bitCount_0f7a4_16 (by decide) ?_
  refine wm_iushr 18 rfl dJ6_bitCount_0f7a4_17 ?_
  refine wm_ldcw 21 rfl dJ6_bitCount_0f7a4_18 aw_4_10 ?_
  refine wm_iand 22 rfl dJ6_bitCount_0f7a4_21 ?_
  refine wm_iadd 23 rfl dJ6_bitCount_0f7a4_22 ?_
  refine wm_istore_n (ls' := [(0, _)]) 24 rfl dJ6_bitCount_0f7a4_23 rfl (by decide) rfl ?_
  refine wm_iload_n 25 rfl dJ6_bitCount_0f7a4_24 rfl rfl ?_
  refine wm_iload_n 26 rfl dJ6_bitCount_0f7a4_25 rfl rfl ?_
  refine wm_iconst (v := 4) 27 rfl dJ6_bitCount_0f7a4_26 (by decide) ?_
  refine wm_iushr 28 rfl dJ6_bitCount_0f7a4_27 ?_
  refine wm_iadd 29 rfl dJ6_bitCount_0f7a4_28 ?_
  refine wm_ldcw 32 rfl dJ6_bitCount_0f7a4_29 aw_4_11 ?_
  refine wm_iand 33 rfl dJ6_bitCount_0f7a4_32 ?_
  refine wm_istore_n (ls' := [(0, _)]) 34 rfl dJ6_bitCount_0f7a4_33 rfl (by decide) rfl ?_
  refine wm_iload_n 35 rfl dJ6_bitCount_0f7a4_34 rfl rfl ?_
  refine wm_iload_n 36 rfl dJ6_bitCount_0f7a4_35 rfl rfl ?_
  refine wm_bipush (v := 8) 38 rfl dJ6_bitCount_0f7a4_36 (by decide) ?_
  refine wm_iushr 39 rfl dJ6_bitCount_0f7a4_38 ?_
  refine wm_iadd 40 rfl dJ6_bitCount_0f7a4_39 ?_
  refine wm_istore_n (ls' := [(0, _)]) 41 rfl dJ6_bitCount_0f7a4_40 rfl (by decide) rfl ?_
  refine wm_iload_n 42 rfl dJ6_bitCount_0f7a4_41 rfl rfl ?_
  refine wm_iload_n 43 rfl dJ6_bitCount_0f7a4_42 rfl rfl ?_
  refine wm_bipush (v := 16) 45 rfl dJ6_bitCount_0f7a4_43 (by decide) ?_
  refine wm_iushr 46 rfl dJ6_bitCount_0f7a4_45 ?_
  refine wm_iadd 47 rfl dJ6_bitCount_0f7a4_46 ?_
  refine wm_istore_n (ls' := [(0, _)]) 48 rfl dJ6_bitCount_0f7a4_47 rfl (by decide) rfl ?_
  refine wm_iload_n 49 rfl dJ6_bitCount_0f7a4_48 rfl rfl ?_
  refine wm_bipush (v := 63) 51 rfl dJ6_bitCount_0f7a4_49 (by decide) ?_
  refine wm_iand 52 rfl dJ6_bitCount_0f7a4_51 ?_
  exact wm_iret dJ6_bitCount_0f7a4_52 (by first | rfl | exact zp_nar) (pP_i (bx_ok x).symm)
theorem k_X1_countRecords (l : Launch) {σ : Sg} : cMi l yX1_countRecords cX1_countRecords 1 .int 1 Lc [.ref 1] σ (pP σ (nI (popc (σ 1 6)))) := by
  refine zMet_of (by decide +kernel) (Nat.le_of_ble_eq_true rfl) (fun D cT ad sz => ?_)
  show Wm (fun _ _ => True) l (rmh 1) RX1 cX1_countRecords 1 (some .int) D cT ad Lc (zA ad Lc.length sz) (zZ (fun D cT ad L9 sz => zQi D cT ad L9 sz (pP σ (nI (popc (σ 1 6))))) D cT ad Lc sz) [] 0 (lv_args 0 [.ref 1]) [] σ 0 0
  refine wm_aload_n 1 rfl dX1_countRecords_0 rfl rfl ?_
  refine wm_getI 4 rfl dX1_countRecords_1 gf_X1_43_0 rfl rfl ?_
  refine wm_callSi (ty := .int) 7 rfl dX1_countRecords_4 (k_J6_bitCount_0f7a4 l (σ 1 6)) ca_J6_bitCount_0f7a4 aw_4_6 aw_4_5 ⟨Nat.le_of_ble_eq_true rfl, Nat.le_of_ble_eq_true rfl⟩ (Nat.le_of_ble_eq_true rfl) ⟨Nat.zero_le _, Nat.zero_le _⟩ ?_
  rintro r9 σ9 ⟨rfl, rfl⟩
  exact wm_iret dX1_countRecords_7 (by first | rfl | exact zp_nar) ⟨rfl, rfl⟩
theorem k_X4_records (l : Launch) {σ : Sg} : cMi l yX4_records cX4_records 1 .int 2 Lc [.ref 0] σ (pP σ (nI (popc (σ 1 6)))) := by
  refine zMet_of (by decide +kernel) (Nat.le_of_ble_eq_true rfl) (fun D cT ad sz => ?_)
  show Wm (fun _ _ => True) l (rmh 2) RX4 cX4_records 1 (some .int) D cT ad Lc (zA ad Lc.length sz) (zZ (fun D cT ad L9 sz => zQi D cT ad L9 sz (pP σ (nI (popc (σ 1 6))))) D cT ad Lc sz) [] 0 (lv_args 0 [.ref 0]) [] σ 0 0
  refine wm_aload_n 1 rfl dX4_records_0 rfl rfl ?_
  refine wm_getR 4 rfl dX4_records_1 gf_X4_12_3 rfl rfl ?_
  refine wm_callVi (ty := .int) 7 rfl dX4_records_4 (k_X1_countRecords l) ca_X1_countRecords cv_X1_countRecords rfl aw_4_0 rfl rfl ⟨Nat.le_of_ble_eq_true rfl, Nat.le_of_ble_eq_true rfl⟩ (Nat.le_of_ble_eq_true rfl) ⟨Nat.zero_le _, Nat.zero_le _⟩ ?_
  rintro r9 σ9 ⟨rfl, rfl⟩
  exact wm_iret dX4_records_7 (by first | rfl | exact zp_nar) ⟨rfl, rfl⟩
theorem sq_pop {σ : Sg} {P : Nat → Prop} : ∀ n, sq P (fun r => popc (σ 13 r &&& σ 1 6)) n ≤ n * 32
  | 0 => Nat.zero_le _
  | n + 1 => by
    have ih := sq_pop (σ := σ) (P := P) n
    have : popc (σ 13 n &&& σ 1 6) ≤ 32 := cq_le _ 32
    by_cases h : P n
    · rw [sq_t h]; show _ + popc (σ 13 n &&& σ 1 6) ≤ _; omega
    · rw [sq_f h]; omega
theorem k_X1_countPairs (l : Launch) {σ : Sg} {n : Nat} (hI : cI σ n) : cMi l yX1_countPairs cX1_countPairs 3 .int 2 Lc [.ref 1] σ (pP σ (nI (sq (hd σ n) (fun r => popc (σ 13 r &&& σ 1 6)) n / 2))) := by
  have h24 := hI.2
  refine zMet_of (by decide +kernel) (Nat.le_of_ble_eq_true rfl) (fun D cT ad sz => ?_)
  show Wm (fun _ _ => True) l (rmh 2) RX1 cX1_countPairs 3 (some .int) D cT ad Lc (zA ad Lc.length sz) (zZ (fun D cT ad L9 sz => zQi D cT ad L9 sz (pP σ (nI (sq (hd σ n) (fun r => popc (σ 13 r &&& σ 1 6)) n / 2)))) D cT ad Lc sz) [] 0 (lv_args 0 [.ref 1]) [] σ 0 0
  have lp : ∀ (q9 j : Nat), n - j = q9 → j ≤ n → True → Wm (fun _ _ => True) l (rmh 2) RX1 cX1_countPairs 3 (some .int) D cT ad Lc (zA ad Lc.length sz) (zZ (fun D cT ad L9 sz => zQi D cT ad L9 sz (pP σ (nI (sq (hd σ n) (fun r => popc (σ 13 r &&& σ 1 6)) n / 2)))) D cT ad Lc sz) [] 4 [(0, .ref 1), (1, .int (nI (sq (hd σ n) (fun r => popc (σ 13 r &&& σ 1 6)) j))), (2, .int (nI j))] [] σ 0 0 := by
    intro q9
    induction q9 using Nat.strongRecOn with
    | ind q9 ih =>
      intro j  hmj hjj hinv
      refine wm_iload_n 5 rfl dX1_countPairs_4 rfl rfl ?_
      refine wm_aload_n 6 rfl dX1_countPairs_5 rfl rfl ?_
      refine wm_getI 9 rfl dX1_countPairs_6 gf_X1_36_0 rfl rfl ?_
      refine wm_icmp_ge 43 12 rfl (by decide) dX1_countPairs_9 (fun c9 => ?_) (fun c9 => ?_)
      · rw [hI.1] at c9
        have gj : j = n := by have := le_of_nI c9 (by omega) (by omega); omega
        refine wm_iload_n 44 rfl dX1_countPairs_43 rfl rfl ?_
        refine wm_iconst (v := 2) 45 rfl dX1_countPairs_44 (by decide) ?_
        have hbd := sq_pop (σ := σ) (P := hd σ n) n
        refine wm_idiv 46 rfl dX1_countPairs_45 (by decide) ?_
        exact wm_iret dX1_countPairs_46 (by first | rfl | exact zp_nar) ⟨rfl, by subst gj; exact (pk_div (d := 2) (by omega) (by omega) (by omega)).symm⟩
      · rw [hI.1] at c9
        have gj : j < n := lt_of_nnI c9 (by omega) (by omega)
        refine wm_aload_n 13 rfl dX1_countPairs_12 rfl rfl ?_
        refine wm_iload_n 14 rfl dX1_countPairs_13 rfl rfl ?_
        refine wm_callVi (ty := .boolean) 17 rfl dX1_countPairs_14 (k_holds l hI j (by omega)) ca_X1_holds cv_X1_holds rfl aw_5_21 rfl rfl ⟨Nat.le_of_ble_eq_true rfl, Nat.le_of_ble_eq_true rfl⟩ (Nat.le_of_ble_eq_true rfl) ⟨Nat.zero_le _, Nat.zero_le _⟩ ?_
        rintro r9 σ9 ⟨rfl, rfl⟩
        refine wm_if_eq 37 20 rfl (by decide) dX1_countPairs_17 (fun c17 => ?_) (fun c17 => ?_)
        · rw [← sq_f (f := (fun r => popc (σ 13 r &&& σ 1 6))) (zp_0.mp c17)]
          refine wm_iinc (ls' := [(2, _), (0, _), (1, _)]) 40 rfl dX1_countPairs_37 rfl (nI_inc _) (by decide) rfl ?_
          refine wm_goto 4 (by decide) dX1_countPairs_40 ?_
          refine wm_loc (ls2 := [(0, _), (1, _), (2, _)]) [1, 2, 0] rfl ?_
          exact ih (n - (j + 1)) (by omega) (j + 1) rfl (by omega) trivial
        · refine wm_iload_n 21 rfl dX1_countPairs_20 rfl rfl ?_
          refine wm_aload_n 22 rfl dX1_countPairs_21 rfl rfl ?_
          refine wm_getR 25 rfl dX1_countPairs_22 gf_X1_29_0 rfl rfl ?_
          refine wm_iload_n 26 rfl dX1_countPairs_25 rfl rfl ?_
          refine wm_iaload 27 rfl dX1_countPairs_26 rfl (in24 gj h24) ?_
          rw [nI_clamp (by omega)]
          refine wm_aload_n 28 rfl dX1_countPairs_27 rfl rfl ?_
          refine wm_getI 31 rfl dX1_countPairs_28 gf_X1_43_0 rfl rfl ?_
          refine wm_iand 32 rfl dX1_countPairs_31 ?_
          refine wm_callSi (ty := .int) 35 rfl dX1_countPairs_32 (k_J6_bitCount_0f7a4 l (σ 13 j &&& σ 1 6)) ca_J6_bitCount_0f7a4 aw_4_6 aw_4_5 ⟨Nat.le_of_ble_eq_true rfl, Nat.le_of_ble_eq_true rfl⟩ (Nat.le_of_ble_eq_true rfl) ⟨Nat.zero_le _, Nat.zero_le _⟩ ?_
          rintro r9 σ9 ⟨rfl, rfl⟩
          refine wm_iadd 36 rfl dX1_countPairs_35 ?_
          rw [nI_add, show sq (hd σ n) (fun r => popc (σ 13 r &&& σ 1 6)) j + popc (σ 13 j &&& σ 1 6) = sq (hd σ n) (fun r => popc (σ 13 r &&& σ 1 6)) (j + 1) from (sq_t (f := (fun r => popc (σ 13 r &&& σ 1 6))) (zp_n.mp c17)).symm]
          refine wm_istore_n (ls' := [(1, _), (0, _), (2, _)]) 37 rfl dX1_countPairs_36 rfl (by decide) rfl ?_
          refine wm_iinc (ls' := [(2, _), (1, _), (0, _)]) 40 rfl dX1_countPairs_37 rfl (nI_inc _) (by decide) rfl ?_
          refine wm_goto 4 (by decide) dX1_countPairs_40 ?_
          refine wm_loc (ls2 := [(0, _), (1, _), (2, _)]) [2, 1, 0] rfl ?_
          exact ih (n - (j + 1)) (by omega) (j + 1) rfl (by omega) trivial
  refine wm_iconst (v := 0) 1 rfl dX1_countPairs_0 (by decide) ?_
  refine wm_istore_n (ls' := [(1, _), (0, _)]) 2 rfl dX1_countPairs_1 rfl (by decide) rfl ?_
  refine wm_iconst (v := 0) 3 rfl dX1_countPairs_2 (by decide) ?_
  refine wm_istore_n (ls' := [(2, _), (1, _), (0, _)]) 4 rfl dX1_countPairs_3 rfl (by decide) rfl ?_
  refine wm_loc (ls2 := [(0, _), (1, _), (2, _)]) [2, 1, 0] rfl ?_
  exact lp n 0 rfl (Nat.zero_le _) trivial
