/-! THE LAW'S START: the two objects, the two cells, both sides agree -/
theorem perm4 (a b c d : va_W) : (((a ++ b) ++ c) ++ d).Perm ((a ++ c) ++ (b ++ d)) := by
  rw [List.append_assoc a b c, List.append_assoc a (b ++ c) d, List.append_assoc a c (b ++ d)]
  refine List.Perm.append_left _ ?_
  rw [← List.append_assoc c b d]
  exact List.Perm.append_right _ List.perm_append_comm
/-- two lists of cells, place by place -/
def zPt (D : va_G) (X X' : va_W) : Prop := X.length = X'.length ∧ ∀ (k : Nat) (q' : Nat × va_E), X'[k]? = some q' → ∃ q, X[k]? = some q ∧ q.1 = q'.1 ∧ ∀ H, va_at D vwCl q H → va_at D vwCl q' H
theorem zPt.rf {D : va_G} {X : va_W} : zPt D X X := ⟨rfl, fun _ q' h => ⟨q', h, rfl, fun _ h => h⟩⟩
theorem zPt.app {D : va_G} {X X' Y Y' : va_W} (h1 : zPt D X X') (h2 : zPt D Y Y') : zPt D (X ++ Y) (X' ++ Y') := by
  refine ⟨by rw [List.length_append, List.length_append, h1.1, h2.1], fun k q' h => ?_⟩
  by_cases hk : k < X'.length
  · rw [List.getElem?_append_left hk] at h
    rw [List.getElem?_append_left (by rw [h1.1]; exact hk)]
    exact h1.2 k q' h
  · rw [List.getElem?_append_right (Nat.le_of_not_lt hk)] at h
    rw [List.getElem?_append_right (by rw [h1.1]; exact Nat.le_of_not_lt hk), h1.1]
    exact h2.2 _ q' h
theorem zPt.imp {D : va_G} {A : Nat → Prop} {X X' : va_W} (h : zPt D X X') : zImp D A X X' := by
  refine ⟨fun H hP k q' hk => ?_, fun hD => ⟨fun i j x y hi hj hxy => ?_, fun k q' hk => ?_⟩⟩
  · obtain ⟨q, h1, -, h3⟩ := h.2 k q' hk
    exact h3 H (hP k q h1)
  · obtain ⟨x0, h1, h2, -⟩ := h.2 i x hi
    obtain ⟨y0, h3, h4, -⟩ := h.2 j y hj
    exact hD.1 i j x0 y0 h1 h3 (h2.trans (hxy.trans h4.symm))
  · obtain ⟨q, h1, h2, -⟩ := h.2 k q' hk
    rw [← h2]
    exact hD.2 k q h1
theorem zq_at {D : va_G} {H : Heap} {a n : Nat} {c : ClassId} {f f' : Nat → Option Nat} (hf : ∀ i, i < n → f i = f' i) (h : va_at D vwCl (a, .inl (c, n, .inr (.inr (.inr (.inr f))))) H) : va_at D vwCl (a, .inl (c, n, .inr (.inr (.inr (.inr f'))))) H := by
  have h1 : H[a]? = some (vp_cell c (n, .inr (.inr (.inr (.inr f))))) := h
  show H[a]? = some (vp_cell c (n, .inr (.inr (.inr (.inr f')))))
  rw [h1, zq_cell hf]
/-- the cells' addresses behind the constructors; the first memories -/
def acO (b : Nat) (r : Nat → Nat → Nat) (z : Nat) : Nat → Nat := fun k => match k with
  | 0 => b | 1 => r 0 0 | 2 => r 0 1 | 3 => r 0 2 | 4 => r 0 3 | 5 => r 0 4 | 6 => r 0 5 | 7 => r 1 0 | 8 => r 1 1 | 9 => r 1 2 | 10 => r 2 0 | 11 => r 2 1 | 12 => r 2 2 | 13 => r 0 6 | 14 => r 0 13
  | 15 => r 0 7 | 16 => r 0 8 | 17 => r 3 0 | 18 => r 3 1 | 19 => r 3 2 | 20 => r 0 9 | 21 => r 0 10 | 22 => r 0 11 | 23 => r 4 0 | 24 => r 4 1 | 25 => r 4 2 | 26 => r 0 12 | _ => z
def amO (b : Nat) (r : Nat → Nat → Nat) : Nat → Nat := fun k => match k with
  | 0 => b | 1 => r 0 0 | 2 => r 0 1 | 3 => r 0 2 | 4 => r 0 3 | 5 => r 0 4 | 6 => r 0 5 | 7 => r 0 6 | 8 => r 0 7 | 9 => r 0 8 | 10 => r 0 9
  | n + 11 => if n < 24 then r 1 n else r 2 (n - 24)
def sg0 : Sg := fun a => match a with
  | 0 => fun b => match b with | 5 => 30 | _ => 0
  | _ => fun _ => 0
def mu0 : Sg := fun a => match a with
  | 0 => fun b => match b with | 11 => 30 | 16 => -1 | 17 => -1 | _ => 0
  | _ => fun _ => 0
theorem am_1 (b : Nat) (r : Nat → Nat → Nat) {i : Nat} (h : i < 24) : amO b r (11 + i) = r 1 i := by
  rw [Nat.add_comm]
  exact if_pos h
theorem am_2 (b : Nat) (r : Nat → Nat → Nat) (i : Nat) : amO b r (35 + i) = r 2 i := by
  rw [show 35 + i = (i + 24) + 11 by omega]
  show (if i + 24 < 24 then r 1 (i + 24) else r 2 (i + 24 - 24)) = r 2 i
  rw [if_neg (by omega), Nat.add_sub_cancel]
theorem zPt.cons {D : va_G} {q q' : Nat × va_E} {X X' : va_W} (ha : q.1 = q'.1) (h : ∀ H, va_at D vwCl q H → va_at D vwCl q' H) (hX : zPt D X X') : zPt D (q :: X) (q' :: X') := by
  refine ⟨congrArg (· + 1) hX.1, fun k x hk => ?_⟩
  match k with
  | 0 =>
    cases hk
    exact ⟨q, rfl, ha, h⟩
  | k + 1 => exact hX.2 k x hk
theorem zPt.nil {D : va_G} : zPt D [] [] := zPt.rf
/-- the cells of a layout from the k-th on -/
def zwl (cT ad : Nat → Nat) (σ : Sg) : Nat → List Dsc → va_W
  | _, [] => []
  | k, d :: t => (ad k, zent cT ad d (σ k)) :: zwl cT ad σ (k + 1) t
theorem zwl_mi {cT ad : Nat → Nat} {σ : Sg} : ∀ (L : List Dsc) (k : Nat), L.mapIdx (fun i d => (ad (k + i), zent cT ad d (σ (k + i)))) = zwl cT ad σ k L
  | [], k => rfl
  | d :: t, k => by
    rw [List.mapIdx_cons]
    show _ :: _ = _ :: _
    rw [← zwl_mi t (k + 1)]
    congr 1
    apply List.ext_getElem?
    intro i
    simp only [List.getElem?_mapIdx]
    rw [show k + (i + 1) = k + 1 + i by omega]
theorem zw_zwl {cT ad : Nat → Nat} {σ : Sg} {L : List Dsc} : zw cT ad L σ = zwl cT ad σ 0 L := by
  rw [← zwl_mi L 0]
  unfold zw
  simp only [Nat.zero_add]
theorem zwl_app {cT ad : Nat → Nat} {σ : Sg} : ∀ (L M : List Dsc) (k : Nat), zwl cT ad σ k (L ++ M) = zwl cT ad σ k L ++ zwl cT ad σ (k + L.length) M
  | [], M, k => rfl
  | d :: t, M, k => by
    show _ :: zwl cT ad σ (k + 1) (t ++ M) = _ :: (_ ++ _)
    rw [zwl_app t M (k + 1), List.length_cons, show k + 1 + t.length = k + (t.length + 1) by omega]
set_option maxHeartbeats 4000000 in
theorem pt_C {D : va_G} {cT : Nat → Nat} {b z : Nat} {r : Nat → Nat → Nat} : zPt D (kF4 cT b r) (zw cT (acO b r z) Lc sg0) := by
  rw [zw_zwl]
  unfold kF4 kF1 kF0
  simp only [List.cons_append, List.nil_append]
  unfold Lc
  refine zPt.cons rfl (fun H h => h) ?_
  refine zPt.cons rfl (fun H h => h) ?_
  refine zPt.cons rfl (fun H h => h) ?_
  refine zPt.cons rfl (fun H h => h) ?_
  refine zPt.cons rfl (fun H h => h) ?_
  refine zPt.cons rfl (fun H h => zq_at (fun i hi => by match i, hi with | 0, _ => rfl | 1, _ => rfl | 2, _ => rfl) h) ?_
  refine zPt.cons rfl (fun H h => zq_at (fun i hi => by match i, hi with | 0, _ => rfl | 1, _ => rfl | 2, _ => rfl) h) ?_
  refine zPt.cons rfl (fun H h => h) ?_
  refine zPt.cons rfl (fun H h => h) ?_
  refine zPt.cons rfl (fun H h => h) ?_
  refine zPt.cons rfl (fun H h => h) ?_
  refine zPt.cons rfl (fun H h => h) ?_
  refine zPt.cons rfl (fun H h => h) ?_
  refine zPt.cons rfl (fun H h => h) ?_
  refine zPt.cons rfl (fun H h => h) ?_
  refine zPt.cons rfl (fun H h => h) ?_
  refine zPt.cons rfl (fun H h => zq_at (fun i hi => by match i, hi with | 0, _ => rfl | 1, _ => rfl | 2, _ => rfl) h) ?_
  refine zPt.cons rfl (fun H h => h) ?_
  refine zPt.cons rfl (fun H h => h) ?_
  refine zPt.cons rfl (fun H h => h) ?_
  refine zPt.cons rfl (fun H h => h) ?_
  refine zPt.cons rfl (fun H h => h) ?_
  refine zPt.cons rfl (fun H h => zq_at (fun i hi => by match i, hi with | 0, _ => rfl | 1, _ => rfl | 2, _ => rfl) h) ?_
  refine zPt.cons rfl (fun H h => h) ?_
  refine zPt.cons rfl (fun H h => h) ?_
  refine zPt.cons rfl (fun H h => h) ?_
  refine zPt.cons rfl (fun H h => h) ?_
  exact zPt.nil
set_option maxHeartbeats 4000000 in
theorem pt_R {D : va_G} {cT : Nat → Nat} {b : Nat} {r : Nat → Nat → Nat} : zPt D ((List.range 24).map (fun i => (r 1 i, zrow cT 3)) ++ (List.range 24).map (fun i => (r 2 i, zrow cT 3))) (zwl cT (amO b r) mu0 11 (List.replicate 48 (.inl (0, 3)))) := by
  refine zPt.cons rfl (fun H h => h) ?_
  refine zPt.cons rfl (fun H h => h) ?_
  refine zPt.cons rfl (fun H h => h) ?_
  refine zPt.cons rfl (fun H h => h) ?_
  refine zPt.cons rfl (fun H h => h) ?_
  refine zPt.cons rfl (fun H h => h) ?_
  refine zPt.cons rfl (fun H h => h) ?_
  refine zPt.cons rfl (fun H h => h) ?_
  refine zPt.cons rfl (fun H h => h) ?_
  refine zPt.cons rfl (fun H h => h) ?_
  refine zPt.cons rfl (fun H h => h) ?_
  refine zPt.cons rfl (fun H h => h) ?_
  refine zPt.cons rfl (fun H h => h) ?_
  refine zPt.cons rfl (fun H h => h) ?_
  refine zPt.cons rfl (fun H h => h) ?_
  refine zPt.cons rfl (fun H h => h) ?_
  refine zPt.cons rfl (fun H h => h) ?_
  refine zPt.cons rfl (fun H h => h) ?_
  refine zPt.cons rfl (fun H h => h) ?_
  refine zPt.cons rfl (fun H h => h) ?_
  refine zPt.cons rfl (fun H h => h) ?_
  refine zPt.cons rfl (fun H h => h) ?_
  refine zPt.cons rfl (fun H h => h) ?_
  refine zPt.cons rfl (fun H h => h) ?_
  refine zPt.cons rfl (fun H h => h) ?_
  refine zPt.cons rfl (fun H h => h) ?_
  refine zPt.cons rfl (fun H h => h) ?_
  refine zPt.cons rfl (fun H h => h) ?_
  refine zPt.cons rfl (fun H h => h) ?_
  refine zPt.cons rfl (fun H h => h) ?_
  refine zPt.cons rfl (fun H h => h) ?_
  refine zPt.cons rfl (fun H h => h) ?_
  refine zPt.cons rfl (fun H h => h) ?_
  refine zPt.cons rfl (fun H h => h) ?_
  refine zPt.cons rfl (fun H h => h) ?_
  refine zPt.cons rfl (fun H h => h) ?_
  refine zPt.cons rfl (fun H h => h) ?_
  refine zPt.cons rfl (fun H h => h) ?_
  refine zPt.cons rfl (fun H h => h) ?_
  refine zPt.cons rfl (fun H h => h) ?_
  refine zPt.cons rfl (fun H h => h) ?_
  refine zPt.cons rfl (fun H h => h) ?_
  refine zPt.cons rfl (fun H h => h) ?_
  refine zPt.cons rfl (fun H h => h) ?_
  refine zPt.cons rfl (fun H h => h) ?_
  refine zPt.cons rfl (fun H h => h) ?_
  refine zPt.cons rfl (fun H h => h) ?_
  refine zPt.cons rfl (fun H h => h) ?_
  exact zPt.nil
def mz (f : Nat → Option Nat → Value) : Nat → List (Option Nat) → List Value
  | _, [] => []
  | k, x :: t => f k x :: mz f (k + 1) t
theorem mz_mi {f : Nat → Option Nat → Value} : ∀ (L : List (Option Nat)) (k : Nat), L.mapIdx (fun i d => f (k + i) d) = mz f k L
  | [], k => rfl
  | d :: t, k => by
    rw [List.mapIdx_cons]
    show _ :: _ = _ :: _
    rw [← mz_mi t (k + 1)]
    congr 1
    apply List.ext_getElem?
    intro i
    simp only [List.getElem?_mapIdx]
    rw [show k + (i + 1) = k + 1 + i by omega]
theorem mz_eq {f : Nat → Option Nat → Value} (L : List (Option Nat)) : L.mapIdx f = mz f 0 L := by
  rw [← mz_mi L 0]
  simp only [Nat.zero_add]
set_option maxHeartbeats 4000000 in
theorem pt_M {D : va_G} {cT : Nat → Nat} {b : Nat} {r : Nat → Nat → Nat} : zPt D (kF5 cT b r) (zw cT (amO b r) Lm mu0) := by
  rw [zw_zwl]
  unfold kF5 Lm
  rw [zwl_app]
  refine zPt.app ?_ pt_R
  refine zPt.cons rfl (fun H h => ?_) ?_
  · show va_at D vwCl (b, Sum.inr (4, List.mapIdx (zfv (amO b r) (mu0 0)) [some 1, none, some 2, some 3, some 4, some 5, some 6, none, some 7, some 8, none, none, none, none, some 9, some 10, none, none])) H
    rw [mz_eq]
    exact h
  refine zPt.cons rfl (fun H h => h) ?_
  refine zPt.cons rfl (fun H h => h) ?_
  refine zPt.cons rfl (fun H h => h) ?_
  refine zPt.cons rfl (fun H h => zq_at (fun i hi => (congrArg some (am_1 b r hi)).symm) h) ?_
  refine zPt.cons rfl (fun H h => zq_at (fun i _ => (congrArg some (am_2 b r i)).symm) h) ?_
  refine zPt.cons rfl (fun H h => h) ?_
  refine zPt.cons rfl (fun H h => h) ?_
  refine zPt.cons rfl (fun H h => h) ?_
  refine zPt.cons rfl (fun H h => h) ?_
  refine zPt.cons rfl (fun H h => h) ?_
  exact zPt.nil
theorem CP0 : CP sg0 mu0 := by
  refine ⟨0, 0, 0, 0, 30, fun _ => 0, ?_⟩
  refine ⟨⟨⟨rfl, rfl, by omega⟩, ⟨rfl, rfl, by omega⟩, ⟨rfl, rfl, by omega⟩, ⟨rfl, rfl, by omega⟩, rfl, rfl, by omega, by omega⟩, rfl, ⟨rfl, fun r hr => absurd hr (Nat.not_lt_zero r)⟩, ⟨rfl, fun r hr => absurd hr (Nat.not_lt_zero r)⟩, ⟨fun s r hs hr => ?_, fun s r _ hr => absurd hr (Nat.not_lt_zero r)⟩, fun f r hf hr => ?_, ⟨fun r hr => ⟨fun h => ?_, fun h => absurd h.1 (Nat.not_lt_zero r)⟩, fun r _ => rfl⟩, ⟨fun i hi => absurd hi (Nat.not_lt_zero i), fun a b i j hi => absurd hi (Nat.not_lt_zero i), fun a b _ _ => ⟨fun h => ?_, fun h => ?_⟩⟩, rfl, rfl⟩
  · rw [Nat.add_comm 7 s, Nat.add_comm 11 r]; rfl
  · rw [Nat.add_comm 10 f, Nat.add_comm 35 r]; rfl
  · exfalso
    have h2 : tb (0 : Int32) r = true := h
    unfold tb at h2
    simp at h2
  · exfalso
    have h2 : tb (0 : Int32) b = true := h
    unfold tb at h2
    simp at h2
  · obtain ⟨i, hi, -⟩ := h
    exact absurd hi (Nat.not_lt_zero i)
section LST
variable {TB : Method → Code → Prop} {l : Launch} {R : Room} {own : String} {cc : ByteArray} {nL : Nat} {ret : Option FieldType} {D : va_G} {cT : Nat → Nat} {A : Nat → Prop} {Z : List Frame → Array Value → State → State → Prop} {X X' : va_W} {pc : Nat} {ls : List (Nat × Value)} {st : List Value} {σ : Sg} {k n : Nat}
theorem wl_imp (h : zImp D A X X') (kk : Wm TB l R own cc nL ret D cT zI [] A Z X' pc ls st σ k n) : Wm TB l R own cc nL ret D cT zI [] A Z X pc ls st σ k n := by
  intro p e s m args below meth c H locs la C w hl
  have hP := w.2.2.1
  have hD := w.2.2.2.1
  rw [zw_I0] at hP hD
  exact kk p e s m args below meth c H locs la C ⟨w.1, w.2.1, by rw [zw_I0]; exact h.1 H hP, by rw [zw_I0]; exact h.2 hD, w.2.2.2.2⟩ hl
end LST
theorem law_start (l : Launch) (hst : l.stackTraces = false) {D : va_G} {cT : Nat → Nat} {b N sz : Nat} {xs : Nat → Int32} (hN : N ≤ 2560) : Wm (fun _ _ => True) l room_1 RL cL_law 8 (some .boolean) D cT zI [] (lA sz) (lZ b N sz xs) [] 0 [(0, .ref b)] [] (fun _ _ => 0) 0 0 := by
  refine wk_new (ci := 3) (C := RX4) (T := TX4) (N := 6) (ty0 := tyX4) (fs := [.null, .null, .null, .null, .int 0, .int 0]) 3 rfl dL_law_0 rfl zin_X4 aw_1_0 aw_1_1 aw_1_2 tyX4_ok (by decide +kernel) ⟨Nat.le_of_ble_eq_true rfl, Nat.le_of_ble_eq_true rfl⟩ (fun a0 => ?_)
  refine wm_dup 4 rfl rfl dL_law_3 ?_
  refine wk_callP 7 rfl dL_law_4 (k_X4_init_X4 l) rfl ⟨aw_1_10, aw_1_2, by decide +kernel, by decide +kernel, by decide +kernel⟩ aw_1_9 aw_1_8 ⟨Nat.le_of_ble_eq_true rfl, Nat.le_of_ble_eq_true rfl⟩ (Nat.le_of_ble_eq_true rfl) ⟨Nat.le_of_ble_eq_true rfl, Nat.le_of_ble_eq_true rfl⟩ (fun r0 => ?_)
  refine wm_astore_n (ls' := [(1, _), (0, _)]) 8 rfl dL_law_7 rfl (by decide) rfl ?_
  generalize hF4 : kF4 cT a0 r0 = F4
  refine wk_new (ci := 4) (C := RX5) (T := TX5) (N := 18) (ty0 := tyX5) (fs := [.null, .int 0, .null, .null, .null, .null, .null, .int 0, .null, .null, .int 0, .int 0, .int 0, .int 0, .null, .null, .int 0, .int 0]) 11 rfl dL_law_8 rfl zin_X5 aw_1_3 aw_1_4 aw_1_5 tyX5_ok (by decide +kernel) ⟨Nat.le_of_ble_eq_true rfl, Nat.le_of_ble_eq_true rfl⟩ (fun a1 => ?_)
  refine wm_dup 12 rfl rfl dL_law_11 ?_
  refine wk_callP 15 rfl dL_law_12 (k_X5_init_X5 l) rfl ⟨aw_3_4, aw_1_5, by decide +kernel, by decide +kernel, by decide +kernel⟩ aw_3_3 aw_3_2 ⟨Nat.le_of_ble_eq_true rfl, Nat.le_of_ble_eq_true rfl⟩ (Nat.le_of_ble_eq_true rfl) ⟨Nat.le_of_ble_eq_true rfl, Nat.le_of_ble_eq_true rfl⟩ (fun r1 => ?_)
  refine wm_astore_n (ls' := [(2, _), (1, _), (0, _)]) 16 rfl dL_law_15 rfl (by decide) rfl ?_
  generalize hF5 : kF5 cT a1 r1 = F5
  refine wm_iconst (v := 1) 17 rfl dL_law_16 (by decide) ?_
  refine wk_newa (ty := .long) (a0 := (1, .inr (.inl (fun _ => 0)))) (i := 3) (N' := 1) 19 rfl dL_law_17 aw_1_6 rfl rfl ra_long (fun _ => rfl) (by decide) (by decide) (by decide) ⟨Nat.le_of_ble_eq_true rfl, Nat.le_of_ble_eq_true rfl⟩ (fun a2 => ?_)
  refine wm_astore_n (ls' := [(3, _), (2, _), (1, _), (0, _)]) 20 rfl dL_law_19 rfl (by decide) rfl ?_
  refine wm_iconst (v := 1) 21 rfl dL_law_20 (by decide) ?_
  refine wk_newa (ty := .double) (a0 := (1, .inr (.inr (.inr (.inl (fun _ => 0)))))) (i := 4) (N' := 1) 23 rfl dL_law_21 aw_1_7 rfl rfl ra_double (fun _ => rfl) (by decide) (by decide) (by decide) ⟨Nat.le_of_ble_eq_true rfl, Nat.le_of_ble_eq_true rfl⟩ (fun a3 => ?_)
  refine wm_astore (ls' := [(4, _), (3, _), (2, _), (1, _), (0, _)]) 25 rfl dL_law_23 (by decide) rfl ?_
  refine wm_iconst (v := 0) 26 rfl dL_law_25 (by decide) ?_
  refine wm_istore (ls' := [(5, _), (4, _), (3, _), (2, _), (1, _), (0, _)]) 28 rfl dL_law_26 (by decide) rfl ?_
  refine wm_loc (ls2 := [(0, .ref b), (1, .ref a0), (2, .ref a1), (3, .ref a2), (4, .ref a3), (5, .int 0)]) [5, 4, 3, 2, 1, 0] rfl ?_
  refine wl_imp (X' := lX cT (acO a0 r0 a2) (amO a1 r1) a3 sg0 mu0 (fun _ => 0) (fun _ => 0)) ?_ ?_
  · refine zImp.tr (zImp.perm (perm4 F4 F5 [(a2, oL cT (fun _ => 0))] [(a3, oD cT (fun _ => 0))])) (zPt.imp ?_)
    rw [← hF4, ← hF5]
    exact zPt.app (zPt.app pt_C zPt.rf) (zPt.app pt_M zPt.rf)
  · exact law_loop l hst hN (N + 1) 0 sg0 mu0 (fun _ => 0) (fun _ => 0) _ _ (by omega) (Nat.zero_le _) (Nat.le_of_ble_eq_true rfl) (Nat.le_of_ble_eq_true rfl) CP0
/-- from the entry, for every script of at most 2560 ints, the law comes to its end with true -/
theorem whole_start {p : Program} {e : Env} {s : State} {m : MethodId} {below : List Frame} {meth : Method} {c : Code} (l : Launch) (hflags : l.flags = flags0) {b L : Nat} {xs : Nat → Int32} (hL : L ≤ 2560) (C0 : lw_At p s m meth c b L xs) : W p l e room_1 s m #[Value.ref b] below meth c s.heap [] 0 0 (lw_Z below #[Value.ref b] s) (entryFrame m ([Value.ref b] : List Value).toArray 8) := by
  obtain ⟨hx, hb, hr, hml, hown, hts, hX, hbl, hlocks, hgv⟩ := id C0
  obtain ⟨D, cT, hK⟩ := zK_start hts
  have hl := lv_entry ([.ref b]) (n := 8) (Nat.le_of_ble_eq_true rfl)
  rw [lg_entry_eq]
  generalize (lg_sl ([.ref b]) ++ List.replicate (8 - (lg_sl ([.ref b])).length) Slot.unset).toArray = la at hl ⊢
  have hl : lv_has la 8 (zlm zI [(0, .ref b)]) := hl
  have hW := law_start l (st_off hflags) (D := D) (cT := cT) (b := b) (sz := s.heap.size) (xs := xs) hL p e s m #[Value.ref b] below meth c s.heap [] la ⟨hx, hb, hml, hown, fun w hw => zTb_hts hts w (zin_tbl w hw), hr, hlocks, trivial⟩ ⟨⟨fun q hq => hq, zE_start hts hgv (fun a ha h => absurd h (Nat.not_le.mpr ha))⟩, hK, (fun k q h => by rw [zw_I0] at h; exact absurd h (by simp)), ⟨fun i j x y h => by rw [zw_I0] at h; exact absurd h (by simp), fun k q h => by rw [zw_I0] at h; exact absurd h (by simp)⟩, va_S.rf⟩ hl
  intro T hT Xs
  obtain ⟨t, a1, b1⟩ := hW T hT Xs
  exact ⟨t, a1, b1 ⟨rfl, rfl, hbl, hX⟩⟩
