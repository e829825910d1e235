/-! THE LAW'S START: the object, the first memory -/
def zImp (D : va_G) (A : Nat → Prop) (X X' : va_W) : Prop := (∀ H, va_P D vwCl X H → va_P D vwCl X' H) ∧ (va_D A X → va_D A X')
def zPt (D : va_G) (X X' : va_W) : Prop := X.length = X'.length ∧ ∀ (k : Nat) (q' : Nat × va_E), X'[k]? = some q' → ∃ q, X[k]? = some q ∧ q.1 = q'.1 ∧ ∀ H, va_at D vwCl q H → va_at D vwCl q' H
theorem zPt.rf {D : va_G} {X : va_W} : zPt D X X := ⟨rfl, fun _ q' h => ⟨q', h, rfl, fun _ h => h⟩⟩
theorem zPt.imp {D : va_G} {A : Nat → Prop} {X X' : va_W} (h : zPt D X X') : zImp D A X X' := by
  refine ⟨fun H hP k q' hk => ?_, fun hD => ⟨fun i j x y hi hj hxy => ?_, fun k q' hk => ?_⟩⟩
  · obtain ⟨q, h1, -, h3⟩ := h.2 k q' hk
    exact h3 H (hP k q h1)
  · obtain ⟨x0, h1, h2, -⟩ := h.2 i x hi
    obtain ⟨y0, h3, h4, -⟩ := h.2 j y hj
    exact hD.1 i j x0 y0 h1 h3 (h2.trans (hxy.trans h4.symm))
  · obtain ⟨q, h1, h2, -⟩ := h.2 k q' hk
    rw [← h2]
    exact hD.2 k q h1
theorem zq_at {D : va_G} {H : Heap} {a n : Nat} {c : ClassId} {f f' : Nat → Option Nat} (hf : ∀ i, i < n → f i = f' i) (h : va_at D vwCl (a, .inl (c, n, .inr (.inr (.inr (.inr f))))) H) : va_at D vwCl (a, .inl (c, n, .inr (.inr (.inr (.inr f'))))) H := by
  have h1 : H[a]? = some (vp_cell c (n, .inr (.inr (.inr (.inr f))))) := h
  show H[a]? = some (vp_cell c (n, .inr (.inr (.inr (.inr f')))))
  rw [h1, zq_cell hf]
def acO (b : Nat) (r : Nat → Nat → Nat) (z : Nat) : Nat → Nat := fun k => match k with
  | 0 => b | 1 => r 0 0 | 2 => r 0 1 | 3 => r 0 2 | 4 => r 0 3 | 5 => r 0 4 | 6 => r 0 5 | 7 => r 1 0 | 8 => r 1 1 | 9 => r 1 2 | 10 => r 2 0 | 11 => r 2 1 | 12 => r 2 2 | 13 => r 0 6 | 14 => r 0 13
  | 15 => r 0 7 | 16 => r 0 8 | 17 => r 3 0 | 18 => r 3 1 | 19 => r 3 2 | 20 => r 0 9 | 21 => r 0 10 | 22 => r 0 11 | 23 => r 4 0 | 24 => r 4 1 | 25 => r 4 2 | 26 => r 0 12 | _ => z
def sg0 : Sg := fun a => match a with
  | 0 => fun b => match b with | 5 => 30 | _ => 0
  | _ => fun _ => 0
theorem zPt.cons {D : va_G} {q q' : Nat × va_E} {X X' : va_W} (ha : q.1 = q'.1) (h : ∀ H, va_at D vwCl q H → va_at D vwCl q' H) (hX : zPt D X X') : zPt D (q :: X) (q' :: X') := by
  refine ⟨congrArg (· + 1) hX.1, fun k x hk => ?_⟩
  match k with
  | 0 =>
    cases hk
    exact ⟨q, rfl, ha, h⟩
  | k + 1 => exact hX.2 k x hk
theorem zPt.nil {D : va_G} : zPt D [] [] := zPt.rf
def zwl (cT ad : Nat → Nat) (σ : Sg) : Nat → List Dsc → va_W
  | _, [] => []
  | k, d :: t => (ad k, zent cT ad d (σ k)) :: zwl cT ad σ (k + 1) t
theorem zwl_mi {cT ad : Nat → Nat} {σ : Sg} : ∀ (L : List Dsc) (k : Nat), L.mapIdx (fun i d => (ad (k + i), zent cT ad d (σ (k + i)))) = zwl cT ad σ k L
  | [], k => rfl
  | d :: t, k => by
    rw [List.mapIdx_cons]
    show _ :: _ = _ :: _
    rw [← zwl_mi t (k + 1)]
    congr 1
    apply List.ext_getElem?
    intro i
    simp only [List.getElem?_mapIdx]
    rw [show k + (i + 1) = k + 1 + i by omega]
theorem zw_zwl {cT ad : Nat → Nat} {σ : Sg} {L : List Dsc} : zw cT ad L σ = zwl cT ad σ 0 L := by
  rw [← zwl_mi L 0]
  unfold zw
  simp only [Nat.zero_add]
set_option maxHeartbeats 4000000 in
theorem pt_C {D : va_G} {cT : Nat → Nat} {b z : Nat} {r : Nat → Nat → Nat} : zPt D (kF4 cT b r) (zw cT (acO b r z) Lc sg0) := by
  rw [zw_zwl]
  unfold kF4 kF1 kF0
  simp only [List.cons_append, List.nil_append]
  unfold Lc
  refine zPt.cons rfl (fun H h => h) ?_
  refine zPt.cons rfl (fun H h => h) ?_
  refine zPt.cons rfl (fun H h => h) ?_
  refine zPt.cons rfl (fun H h => h) ?_
  refine zPt.cons rfl (fun H h => h) ?_
  refine zPt.cons rfl (fun H h => zq_at (fun i hi => by match i, hi with | 0, _ => rfl | 1, _ => rfl | 2, _ => rfl) h) ?_
  refine zPt.cons rfl (fun H h => zq_at (fun i hi => by match i, hi with | 0, _ => rfl | 1, _ => rfl | 2, _ => rfl) h) ?_
  refine zPt.cons rfl (fun H h => h) ?_
  refine zPt.cons rfl (fun H h => h) ?_
  refine zPt.cons rfl (fun H h => h) ?_
  refine zPt.cons rfl (fun H h => h) ?_
  refine zPt.cons rfl (fun H h => h) ?_
  refine zPt.cons rfl (fun H h => h) ?_
  refine zPt.cons rfl (fun H h => h) ?_
  refine zPt.cons rfl (fun H h => h) ?_
  refine zPt.cons rfl (fun H h => h) ?_
  refine zPt.cons rfl (fun H h => zq_at (fun i hi => by match i, hi with | 0, _ => rfl | 1, _ => rfl | 2, _ => rfl) h) ?_
  refine zPt.cons rfl (fun H h => h) ?_
  refine zPt.cons rfl (fun H h => h) ?_
  refine zPt.cons rfl (fun H h => h) ?_
  refine zPt.cons rfl (fun H h => h) ?_
  refine zPt.cons rfl (fun H h => h) ?_
  refine zPt.cons rfl (fun H h => zq_at (fun i hi => by match i, hi with | 0, _ => rfl | 1, _ => rfl | 2, _ => rfl) h) ?_
  refine zPt.cons rfl (fun H h => h) ?_
  refine zPt.cons rfl (fun H h => h) ?_
  refine zPt.cons rfl (fun H h => h) ?_
  refine zPt.cons rfl (fun H h => h) ?_
  exact zPt.nil
theorem zw_I0 (cT : Nat → Nat) (σ : Sg) (X : va_W) : zw cT zI [] σ ++ X = X := rfl
section LST
variable {TB : Method → Code → Prop} {l : Launch} {R : Room} {own : String} {cc : ByteArray} {nL : Nat} {ret : Option FieldType} {D : va_G} {cT ad : Nat → Nat} {A : Nat → Prop} {Z : List Frame → Array Value → State → State → Prop} {X : va_W} {pc : Nat} {ls ls' : List (Nat × Value)} {σ σ0 : Sg} {k n : Nat}
/-- from the cells as they were made to the class's world -/
theorem wl_sw (h : zPt D X (zw cT ad Lc σ)) (hls : zlm zI ls = zlm ad ls') (kk : Wm TB l R own cc nL ret D cT ad Lc A Z [] pc ls' [] σ k n) : Wm TB l R own cc nL ret D cT zI [] A Z X pc ls [] σ0 k n := by
  intro p e s m args below meth c H locs la C w hl
  have hP := w.2.2.1
  have hD := w.2.2.2.1
  rw [zw_I0] at hP hD
  have hi := zPt.imp (A := A) h
  rw [hls] at hl
  exact kk p e s m args below meth c H locs la C ⟨w.1, w.2.1, by rw [List.append_nil]; exact hi.1 H hP, by rw [List.append_nil]; exact hi.2 hD, w.2.2.2.2⟩ hl
end LST
theorem CI0 : CI sg0 0 0 0 0 30 (fun _ => 0) := by
  refine ⟨⟨rfl, by omega⟩, ⟨rfl, by omega⟩, ⟨rfl, by omega⟩, ⟨fun r hr => absurd hr (Nat.not_lt_zero r), rfl, by omega, rfl, by omega, by omega⟩, fun r hr => absurd hr (Nat.not_lt_zero r), fun s r _ hr => absurd hr (Nat.not_lt_zero r), fun s r _ hr => absurd hr (Nat.not_lt_zero r), fun r hr ht => ?_, [], List.nodup_nil, rfl, fun q hq => absurd hq List.not_mem_nil, fun a b ha hb => ⟨fun ht => ?_, fun q => q.elim (fun q => absurd q List.not_mem_nil) (fun q => absurd q List.not_mem_nil)⟩⟩
  · exfalso
    have h2 : tb (0 : Int32) r = true := ht
    unfold tb at h2
    simp at h2
  · exfalso
    have h2 : tb (0 : Int32) b = true := ht
    unfold tb at h2
    simp at h2
theorem law_start (l : Launch) (hst : l.stackTraces = false) {D : va_G} {cT : Nat → Nat} {b N sz : Nat} {xs : Nat → Int32} (hN : N ≤ 260) : Wm (fun _ _ => True) l room_1 RL cL_law 16 (some .boolean) D cT zI [] (lA sz) (lZ b N sz xs) [] 0 [(0, .ref b)] [] (fun _ _ => 0) 0 0 := by
  refine wk_new (ci := 3) (C := RX4) (T := TX4) (N := 6) (ty0 := tyX4) (fs := [.null, .null, .null, .null, .int 0, .int 0]) 3 rfl dL_law_0 rfl zin_X4 aw_1_0 aw_1_1 aw_1_2 tyX4_ok (by decide +kernel) ⟨Nat.le_of_ble_eq_true rfl, Nat.le_of_ble_eq_true rfl⟩ (fun a0 => ?_)
  refine wm_dup 4 rfl rfl dL_law_3 ?_
  refine wk_callP 7 rfl dL_law_4 (k_X4_init_X4 l) rfl ⟨aw_1_11, aw_1_2, by decide +kernel, by decide +kernel, by decide +kernel⟩ aw_1_10 aw_1_9 ⟨Nat.le_of_ble_eq_true rfl, Nat.le_of_ble_eq_true rfl⟩ (Nat.le_of_ble_eq_true rfl) ⟨Nat.le_of_ble_eq_true rfl, Nat.le_of_ble_eq_true rfl⟩ (fun r0 => ?_)
  refine wm_astore_n (ls' := [(1, _), (0, _)]) 8 rfl dL_law_7 rfl (by decide) rfl ?_
  refine wl_sw (ad := acO a0 r0 b) (σ := sg0) (ls' := [(1, .ref 0), (0, .ref 27)]) pt_C rfl ?_
  refine wm_iconst (v := 0) 9 rfl dL_law_8 (by decide) ?_
  refine wm_istore_n (ls' := [(2, _), (1, _), (0, _)]) 10 rfl dL_law_9 rfl (by decide) rfl ?_
  refine wm_iconst (v := 0) 11 rfl dL_law_10 (by decide) ?_
  refine wm_istore_n (ls' := [(3, _), (2, _), (1, _), (0, _)]) 12 rfl dL_law_11 rfl (by decide) rfl ?_
  refine wm_aload_n 13 rfl dL_law_12 rfl rfl ?_
  refine wm_iconst (v := 0) 14 rfl dL_law_13 (by decide) ?_
  refine wl_at (j := 0) (by omega) (by omega) 17 rfl dL_law_14 ⟨Nat.le_of_ble_eq_true rfl, Nat.le_of_ble_eq_true rfl⟩ (Nat.le_of_ble_eq_true rfl) (show _ ≤ 676585 ∧ _ ≤ 7071868 from ⟨Nat.le_of_ble_eq_true rfl, Nat.le_of_ble_eq_true rfl⟩) rfl (fun v9 => ?_)
  refine wm_bipush (v := 58) 19 rfl dL_law_17 (by decide) ?_
  refine wm_callSi (ty := .int) 22 rfl dL_law_19 (k_some l _ (c := 58) (by decide) (by decide)) ca_L_some aw_3_8 aw_3_7 ⟨Nat.le_of_ble_eq_true rfl, Nat.le_of_ble_eq_true rfl⟩ (Nat.le_of_ble_eq_true rfl) (show _ ≤ 676585 ∧ _ ≤ 7071868 from ⟨Nat.le_of_ble_eq_true rfl, Nat.le_of_ble_eq_true rfl⟩) ?_
  rintro r9 σ9 ⟨rfl, S, hS, rfl⟩
  refine wm_istore (ls' := [(4, _), (3, _), (2, _), (1, _), (0, _)]) 24 rfl dL_law_22 (by decide) rfl ?_
  refine wm_iconst (v := 0) 25 rfl dL_law_24 (by decide) ?_
  refine wm_istore (ls' := [(5, _), (4, _), (3, _), (2, _), (1, _), (0, _)]) 27 rfl dL_law_25 (by decide) rfl ?_
  refine wm_loc (ls2 := [(0, _), (1, _), (2, _), (3, _), (4, _), (5, _)]) [5, 4, 3, 2, 1, 0] rfl ?_
  exact wl_widen (k1 := 100 + 2850 * 0) (n1 := 1000 + 17100 * 0) (Nat.le_of_ble_eq_true rfl) (Nat.le_of_ble_eq_true rfl) (law_loop l hst hN rfl hS S 0 sg0 0 0 0 0 30 (fun _ => 0) rfl (Nat.zero_le _) CI0 (fun q => absurd q (by omega)))
/-- from the entry, for every script of at most 260 ints, the law comes to its end with true -/
theorem whole_start {p : Program} {e : Env} {s : State} {m : MethodId} {below : List Frame} {meth : Method} {c : Code} (l : Launch) (hflags : l.flags = flags0) {b L : Nat} {xs : Nat → Int32} (hL : L ≤ 260) (C0 : lw_At p s m meth c b L xs) : W p l e room_1 s m #[Value.ref b] below meth c s.heap [] 0 0 (lw_Z below #[Value.ref b] s) (entryFrame m ([Value.ref b] : List Value).toArray 16) := by
  obtain ⟨hx, hb, hr, hml, hown, hts, hX, hbl, hlocks, hgv⟩ := id C0
  obtain ⟨D, cT, hK⟩ := zK_start hts
  have hl := lv_entry ([.ref b]) (n := 16) (Nat.le_of_ble_eq_true rfl)
  rw [lg_entry_eq]
  generalize (lg_sl ([.ref b]) ++ List.replicate (16 - (lg_sl ([.ref b])).length) Slot.unset).toArray = la at hl ⊢
  have hl : lv_has la 16 (zlm zI [(0, .ref b)]) := hl
  have hW := law_start l (st_off hflags) (D := D) (cT := cT) (b := b) (sz := s.heap.size) (xs := xs) hL p e s m #[Value.ref b] below meth c s.heap [] la ⟨hx, hb, hml, hown, fun w hw => zTb_hts hts w (zin_tbl w hw), hr, hlocks, trivial⟩ ⟨⟨fun q hq => hq, zE_start hts hgv (fun a ha h => absurd h (Nat.not_le.mpr ha))⟩, hK, (fun k q h => by rw [zw_I0] at h; exact absurd h (by simp)), ⟨fun i j x y h => by rw [zw_I0] at h; exact absurd h (by simp), fun k q h => by rw [zw_I0] at h; exact absurd h (by simp)⟩, va_S.rf⟩ hl
  intro T hT Xs
  obtain ⟨t, a1, b1⟩ := hW T hT Xs
  exact ⟨t, a1, b1 ⟨rfl, rfl, hbl, hX⟩⟩
