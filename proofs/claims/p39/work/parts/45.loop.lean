theorem ca_L_some : zCal yL_some cL_some 3 (some .int) 2 := ⟨aw_3_9, aw_3_5, by decide +kernel, by decide +kernel, by decide +kernel⟩
/-! THE LAW'S LOOP -/
theorem mx_eq {n : Nat} (hn : n ≤ 24) : (if (1 : Int32) < nI n then nI n else 1) = nI (max 1 n) := by
  have h1 : (1 : Int32) = nI 1 := rfl
  rw [h1]
  by_cases h : 1 < n
  · rw [if_pos (nI_lt h (by omega)), Nat.max_eq_right (by omega)]
  · rw [if_neg (nI_nlt (by omega) (by omega)), Nat.max_eq_left (by omega)]
theorem lt_of_nge {v : Int32} (h : ¬ -1000 ≤ v) : v < -1000 := fa_nlt h
theorem law_disp (l : Launch) (hst : l.stackTraces = false) {D : va_G} {cT ad : Nat → Nat} {b N sz : Nat} {xs : Nat → Int32} {σ : Sg} {n m p d L : Nat} {sn : Nat → Nat} (hC : CI σ n m p d L sn) {wn r o : Nat} (hw : wn < 2 ^ 31) (hr : r < 24) (ho : o < 24) {y4 y5 y10 : Int32} {y11 : Int64} {kb nb : Nat} (hk : kb + 30 ≤ 676585 ∧ nb + 180 ≤ 7071868) (kk : kk606 l D cT ad b N sz xs σ y4 y5 (nI wn) y10 y11 kb nb) {κ : Nat} (hκ : κ < 20) (hκ0 : κ ≠ 0 → 1 ≤ m) : Wl l D cT ad b N sz xs 139 [(0, .ref 27), (1, .ref 0), (2, .int (nI n)), (3, .int (nI m)), (4, .int y4), (5, .int y5), (7, .int (nI wn)), (8, .int (nI r)), (9, .int (nI o)), (10, .int y10), (11, .long y11), (14, .int (nI κ))] [] σ kb nb := by
  refine wm_iload 141 rfl dL_law_139 rfl ?_
  refine wm_iconst (v := 1) 142 rfl dL_law_141 (by decide) ?_
  refine wm_icmp_ge 175 145 rfl (by decide) dL_law_142 (fun c142 => ?_) (fun c142 => ?_)
  · have hm := hκ0 (fun q => by subst q; exact absurd c142 (by decide))
    refine wm_iload 177 rfl dL_law_175 rfl ?_
    refine wm_bipush (v := 7) 179 rfl dL_law_177 (by decide) ?_
    refine wm_icmp_ge 267 182 rfl (by decide) dL_law_179 (fun c179 => ?_) (fun c179 => ?_)
    · refine wm_iload 269 rfl dL_law_267 rfl ?_
      refine wm_bipush (v := 10) 271 rfl dL_law_269 (by decide) ?_
      refine wm_icmp_ge 303 274 rfl (by decide) dL_law_271 (fun c271 => ?_) (fun c271 => ?_)
      · refine wm_iload 305 rfl dL_law_303 rfl ?_
        refine wm_bipush (v := 12) 307 rfl dL_law_305 (by decide) ?_
        refine wm_icmp_ge 338 310 rfl (by decide) dL_law_307 (fun c307 => ?_) (fun c307 => ?_)
        · refine wm_iload 340 rfl dL_law_338 rfl ?_
          refine wm_bipush (v := 13) 342 rfl dL_law_340 (by decide) ?_
          refine wm_icmp_ge 357 345 rfl (by decide) dL_law_342 (fun c342 => ?_) (fun c342 => ?_)
          · refine wm_iload 359 rfl dL_law_357 rfl ?_
            refine wm_bipush (v := 14) 361 rfl dL_law_359 (by decide) ?_
            refine wm_icmp_ge 420 364 rfl (by decide) dL_law_361 (fun c361 => ?_) (fun c361 => ?_)
            · refine wm_iload 422 rfl dL_law_420 rfl ?_
              refine wm_bipush (v := 16) 424 rfl dL_law_422 (by decide) ?_
              refine wm_icmp_ge 457 427 rfl (by decide) dL_law_424 (fun c424 => ?_) (fun c424 => ?_)
              · refine wm_iload 459 rfl dL_law_457 rfl ?_
                refine wm_bipush (v := 17) 461 rfl dL_law_459 (by decide) ?_
                refine wm_icmp_ge 505 464 rfl (by decide) dL_law_461 (fun c461 => ?_) (fun c461 => ?_)
                · refine wm_iload 507 rfl dL_law_505 rfl ?_
                  refine wm_bipush (v := 18) 509 rfl dL_law_507 (by decide) ?_
                  refine wm_icmp_ge 527 512 rfl (by decide) dL_law_509 (fun c509 => ?_) (fun c509 => ?_)
                  · refine wm_iload 529 rfl dL_law_527 rfl ?_
                    refine wm_bipush (v := 19) 531 rfl dL_law_529 (by decide) ?_
                    refine wm_icmp_ge 594 534 rfl (by decide) dL_law_531 (fun c531 => ?_) (fun c531 => ?_)
                    · refine wm_loc (ls2 := [(0, _), (1, _), (2, _), (3, _), (4, _), (5, _), (7, _), (8, _), (9, _), (10, _), (11, _)]) [0, 1, 2, 3, 4, 5, 6, 7, 8, 9, 10] rfl ?_
                      exact cs_594 l hst hC hw hr ho hm hk kk
                    · refine wm_loc (ls2 := [(0, _), (1, _), (2, _), (3, _), (4, _), (5, _), (7, _), (8, _), (9, _), (10, _), (11, _)]) [0, 1, 2, 3, 4, 5, 6, 7, 8, 9, 10] rfl ?_
                      exact cs_534 l hst hC hw hr ho hm hk kk
                  · refine wm_loc (ls2 := [(0, _), (1, _), (2, _), (3, _), (4, _), (5, _), (7, _), (8, _), (9, _), (10, _), (11, _)]) [0, 1, 2, 3, 4, 5, 6, 7, 8, 9, 10] rfl ?_
                    exact cs_512 l hst hC hw hr ho hm hk kk
                · refine wm_loc (ls2 := [(0, _), (1, _), (2, _), (3, _), (4, _), (5, _), (7, _), (8, _), (9, _), (10, _), (11, _)]) [0, 1, 2, 3, 4, 5, 6, 7, 8, 9, 10] rfl ?_
                  exact cs_464 l hst hC hw hr ho hm hk kk
              · refine wm_loc (ls2 := [(0, _), (1, _), (2, _), (3, _), (4, _), (5, _), (7, _), (8, _), (9, _), (10, _), (11, _)]) [0, 1, 2, 3, 4, 5, 6, 7, 8, 9, 10] rfl ?_
                exact cs_427 l hst hC hw hr ho hm hk kk
            · refine wm_loc (ls2 := [(0, _), (1, _), (2, _), (3, _), (4, _), (5, _), (7, _), (8, _), (9, _), (10, _), (11, _)]) [0, 1, 2, 3, 4, 5, 6, 7, 8, 9, 10] rfl ?_
              exact cs_364 l hst hC hw hr ho hm hk kk
          · refine wm_loc (ls2 := [(0, _), (1, _), (2, _), (3, _), (4, _), (5, _), (7, _), (8, _), (9, _), (10, _), (11, _)]) [0, 1, 2, 3, 4, 5, 6, 7, 8, 9, 10] rfl ?_
            exact cs_345 l hst hC hw hr ho hm hk kk
        · refine wm_loc (ls2 := [(0, _), (1, _), (2, _), (3, _), (4, _), (5, _), (7, _), (8, _), (9, _), (10, _), (11, _)]) [0, 1, 2, 3, 4, 5, 6, 7, 8, 9, 10] rfl ?_
          exact cs_310 l hst hC hw hr ho hm hk kk
      · refine wm_loc (ls2 := [(0, _), (1, _), (2, _), (3, _), (4, _), (5, _), (7, _), (8, _), (9, _), (10, _), (11, _)]) [0, 1, 2, 3, 4, 5, 6, 7, 8, 9, 10] rfl ?_
        exact cs_274 l hst hC hw hr ho hm hk kk
    · refine wm_loc (ls2 := [(0, _), (1, _), (2, _), (3, _), (4, _), (5, _), (7, _), (8, _), (9, _), (10, _), (11, _)]) [0, 1, 2, 3, 4, 5, 6, 7, 8, 9, 10] rfl ?_
      exact cs_182 l hst hC hw hr ho hm hk kk
  · refine wm_loc (ls2 := [(0, _), (1, _), (2, _), (3, _), (4, _), (5, _), (7, _), (8, _), (9, _), (10, _), (11, _)]) [0, 1, 2, 3, 4, 5, 6, 7, 8, 9, 10] rfl ?_
    exact cs_145 l hst hC hw hr ho hk kk
theorem law_loop (l : Launch) (hst : l.stackTraces = false) {D : va_G} {cT ad : Nat → Nat} {b N sz : Nat} {xs : Nat → Int32} (hN : N ≤ 260) (hb9 : ad 27 = b) {S : Nat} (hS : S < 58) : ∀ (q k : Nat) (σ : Sg) (n m p d L : Nat) (sn : Nat → Nat), S - k = q → k ≤ S → CI σ n m p d L sn → (1 ≤ k → 1 ≤ m) → Wl l D cT ad b N sz xs 27 [(0, .ref 27), (1, .ref 0), (2, .int (nI n)), (3, .int (nI m)), (4, .int (nI S)), (5, .int (nI k))] [] σ (100 + 2850 * k) (1000 + 17100 * k) := by
  intro q
  induction q with
  | zero =>
    intro k σ n m p d L sn hq hkS hC hm
    have ek : k = S := by omega
    subst ek
    refine wm_iload 29 rfl dL_law_27 rfl ?_
    refine wm_iload 31 rfl dL_law_29 rfl ?_
    refine wm_icmp_ge 656 34 rfl (by decide) dL_law_31 (fun c31 => ?_) (fun c31 => ?_)
    · refine wm_loc (ls2 := [(1, _), (2, _), (3, _), (4, _)]) [1, 2, 3, 4] rfl ?_
      exact law_tail l hst hC (by omega) ⟨by omega, by omega⟩
    · exact absurd (Int32.le_refl _) c31
  | succ q ih =>
    intro k σ n m p d L sn hq hkS hC hm
    have hk : k < S := by omega
    have h24 := hC.n24
    have next : ∀ (n' m' p' d' L' : Nat) (sn' : Nat → Nat) (σ' : Sg), CI σ' n' m' p' d' L' sn' → 1 ≤ m' → Wl l D cT ad b N sz xs 650 [(0, .ref 27), (1, .ref 0), (2, .int (nI n')), (3, .int (nI m')), (4, .int (nI S)), (5, .int (nI k))] [] σ' (100 + 2850 * k + 2850) (1000 + 17100 * k + 17100) := by
      intro n' m' p' d' L' sn' σ' hC' hm'
      refine wm_iinc (ls' := [(5, _), (0, _), (1, _), (2, _), (3, _), (4, _)]) 653 rfl dL_law_650 rfl (nI_inc _) (by decide) rfl ?_
      refine wm_goto 27 (by decide) dL_law_653 ?_
      refine wm_loc (ls2 := [(0, _), (1, _), (2, _), (3, _), (4, _), (5, _)]) [1, 2, 3, 4, 5, 0] rfl ?_
      exact wl_widen (k1 := 100 + 2850 * (k + 1)) (n1 := 1000 + 17100 * (k + 1)) (by omega) (by omega) (ih (k + 1) σ' n' m' p' d' L' sn' (dn_s hq) hk hC' (fun _ => hm'))
    have c629 : ∀ (wn : Nat), wn < 2 ^ 31 → ∀ (n' m' p' d' L' : Nat) (sn' : Nat → Nat) (σ' : Sg), CI σ' n' m' p' d' L' sn' → 1 ≤ m' → Wl l D cT ad b N sz xs 629 [(0, .ref 27), (1, .ref 0), (2, .int (nI n')), (3, .int (nI m')), (4, .int (nI S)), (5, .int (nI k)), (7, .int (nI wn))] [] σ' (100 + 2850 * k + 900) (1000 + 17100 * k + 5400) := by
      intro wn hw n' m' p' d' L' sn' σ' hC' hm'
      refine wm_iload 631 rfl dL_law_629 rfl ?_
      refine wm_bipush (v := 9) 633 rfl dL_law_631 (by decide) ?_
      refine wm_irem 634 rfl dL_law_633 (by decide) ?_
      refine wm_bipush (v := 8) 636 rfl dL_law_634 (by decide) ?_
      refine wm_icmp_ne 650 639 rfl (by decide) dL_law_636 (fun c636 => ?_) (fun c636 => ?_)
      · refine wm_loc (ls2 := [(0, _), (1, _), (2, _), (3, _), (4, _), (5, _)]) [0, 1, 2, 3, 4, 5] rfl ?_
        first
          | exact wl_widen (k1 := 100 + 2850 * k + 2850) (n1 := 1000 + 17100 * k + 17100) (by omega) (by omega) (next _ _ _ _ _ _ _ (hC'.st hs9) hm')
          | exact wl_widen (k1 := 100 + 2850 * k + 2850) (n1 := 1000 + 17100 * k + 17100) (by omega) (by omega) (next _ _ _ _ _ _ _ hC' hm')
      · refine wm_aload_n 640 rfl dL_law_639 rfl rfl ?_
        refine wm_iload 642 rfl dL_law_640 rfl ?_
        refine wl_callPi 645 rfl dL_law_642 (k_sound l hst hC' (stb.rf σ') hw) cw_L_isSound aw_20_23 aw_20_22 ⟨Nat.le_of_ble_eq_true rfl, Nat.le_of_ble_eq_true rfl⟩ (Nat.le_of_ble_eq_true rfl) (show _ ≤ 676585 ∧ _ ≤ 7071868 from ⟨by omega, by omega⟩) (fun r9 σ9 hp => ?_)
        obtain ⟨hs9, rfl⟩ := hp
        refine wm_if_ne 650 648 rfl (by decide) dL_law_645 (fun c645 => ?_) (fun c645 => ?_)
        · refine wm_loc (ls2 := [(0, _), (1, _), (2, _), (3, _), (4, _), (5, _)]) [0, 1, 2, 3, 4, 5] rfl ?_
          first
            | exact wl_widen (k1 := 100 + 2850 * k + 2850) (n1 := 1000 + 17100 * k + 17100) (by omega) (by omega) (next _ _ _ _ _ _ _ (hC'.st hs9) hm')
            | exact wl_widen (k1 := 100 + 2850 * k + 2850) (n1 := 1000 + 17100 * k + 17100) (by omega) (by omega) (next _ _ _ _ _ _ _ hC' hm')
        · exact absurd c645 (by decide)
    have c606 : ∀ (wn : Nat), wn < 2 ^ 31 → ∀ (y10 : Int32) (B : Int64) (σ1 : Sg), stb σ σ1 → (¬ y10 = 0 → B = dgR σ n sn d L 24) → kk606 l D cT ad b N sz xs σ1 (nI S) (nI k) (nI wn) y10 B (100 + 2850 * k + 434) (1000 + 17100 * k + 2604) := by
      intro wn hw y10 B σ1 hs1 hB its n' m' p' d' L' sn' σ' hC' hm' hz
      refine wm_iload 608 rfl dL_law_606 rfl ?_
      refine wm_sipush (v := (-1000)) 611 rfl dL_law_608 (by decide) ?_
      refine wm_icmp_ge 629 614 rfl (by decide) dL_law_611 (fun c611 => ?_) (fun c611 => ?_)
      · refine wm_loc (ls2 := [(0, _), (1, _), (2, _), (3, _), (4, _), (5, _), (7, _)]) [0, 1, 2, 3, 4, 5, 6] rfl ?_
        first
          | exact wl_widen (k1 := 100 + 2850 * k + 900) (n1 := 1000 + 17100 * k + 5400) (by omega) (by omega) (c629 wn hw _ _ _ _ _ _ _ (hC'.st hj2) hm')
          | exact wl_widen (k1 := 100 + 2850 * k + 900) (n1 := 1000 + 17100 * k + 5400) (by omega) (by omega) (c629 wn hw _ _ _ _ _ _ _ hC' hm')
      · have hss := hs1.tr (hz (lt_of_nge c611))
        refine wm_iload 616 rfl dL_law_614 rfl ?_
        refine wm_if_eq 629 619 rfl (by decide) dL_law_616 (fun c616 => ?_) (fun c616 => ?_)
        · refine wm_loc (ls2 := [(0, _), (1, _), (2, _), (3, _), (4, _), (5, _), (7, _)]) [0, 1, 2, 3, 4, 5, 6] rfl ?_
          first
            | exact wl_widen (k1 := 100 + 2850 * k + 900) (n1 := 1000 + 17100 * k + 5400) (by omega) (by omega) (c629 wn hw _ _ _ _ _ _ _ (hC'.st hj2) hm')
            | exact wl_widen (k1 := 100 + 2850 * k + 900) (n1 := 1000 + 17100 * k + 5400) (by omega) (by omega) (c629 wn hw _ _ _ _ _ _ _ hC' hm')
        · refine wm_aload_n 620 rfl dL_law_619 rfl rfl ?_
          refine wl_callPl 623 rfl dL_law_620 (k_sum l hst hC hss) cw_L_sum aw_3_11 aw_3_10 ⟨Nat.le_of_ble_eq_true rfl, Nat.le_of_ble_eq_true rfl⟩ (Nat.le_of_ble_eq_true rfl) (show _ ≤ 676585 ∧ _ ≤ 7071868 from ⟨by omega, by omega⟩) (fun B2 σ2 hp => ?_)
          obtain ⟨hs2, eB⟩ := hp
          rw [← hB c616] at eB
          subst eB
          have hj2 : stb σ' σ2 := hss.sy.tr hs2
          refine wm_lload 625 rfl dL_law_623 rfl ?_
          refine wm_lcmp 626 rfl dL_law_625 ?_
          refine wm_if_ne 648 629 rfl (by decide) dL_law_626 (fun c626 => ?_) (fun c626 => ?_)
          · exact absurd (lg_self _) c626
          · refine wm_loc (ls2 := [(0, _), (1, _), (2, _), (3, _), (4, _), (5, _), (7, _)]) [0, 1, 2, 3, 4, 5, 6] rfl ?_
            first
              | exact wl_widen (k1 := 100 + 2850 * k + 900) (n1 := 1000 + 17100 * k + 5400) (by omega) (by omega) (c629 wn hw _ _ _ _ _ _ _ (hC'.st hj2) hm')
              | exact wl_widen (k1 := 100 + 2850 * k + 900) (n1 := 1000 + 17100 * k + 5400) (by omega) (by omega) (c629 wn hw _ _ _ _ _ _ _ hC' hm')
    have c108 : ∀ (V r o : Nat) (y10 : Int32) (B : Int64) (σ1 : Sg), V < 100000000 → r < 24 → o < 24 → stb σ σ1 → (¬ y10 = 0 → B = dgR σ n sn d L 24) → Wl l D cT ad b N sz xs 108 [(0, .ref 27), (1, .ref 0), (2, .int (nI n)), (3, .int (nI m)), (4, .int (nI S)), (5, .int (nI k)), (6, .int (nI V)), (7, .int (nI (V / 20))), (8, .int (nI r)), (9, .int (nI o)), (10, .int y10), (11, .long B)] [] σ1 (100 + 2850 * k + 434) (1000 + 17100 * k + 2604) := by
      intro V r o y10 B σ1 hV hr ho hs1 hB
      have c137 : ∀ κ : Nat, κ < 20 → (κ ≠ 0 → 1 ≤ m) → Wl l D cT ad b N sz xs 137 [(0, .ref 27), (1, .ref 0), (2, .int (nI n)), (3, .int (nI m)), (4, .int (nI S)), (5, .int (nI k)), (6, .int (nI V)), (7, .int (nI (V / 20))), (8, .int (nI r)), (9, .int (nI o)), (10, .int y10), (11, .long B), (13, .int 0)] [.int (nI κ)] σ1 (100 + 2850 * k + 434) (1000 + 17100 * k + 2604) := by
        intro κ hκ hκ0
        refine wm_istore (ls' := [(14, _), (0, _), (1, _), (2, _), (3, _), (4, _), (5, _), (6, _), (7, _), (8, _), (9, _), (10, _), (11, _), (13, _)]) 139 rfl dL_law_137 (by decide) rfl ?_
        refine wm_loc (ls2 := [(0, _), (1, _), (2, _), (3, _), (4, _), (5, _), (7, _), (8, _), (9, _), (10, _), (11, _), (14, _)]) [1, 2, 3, 4, 5, 6, 8, 9, 10, 11, 12, 0] rfl ?_
        exact law_disp l hst (hC.st hs1) (by omega) hr ho ⟨by omega, by omega⟩ (c606 (V / 20) (by omega) y10 B σ1 hs1 hB) hκ hκ0
      refine wm_iconst (v := 0) 109 rfl dL_law_108 (by decide) ?_
      refine wm_istore (ls' := [(13, _), (0, _), (1, _), (2, _), (3, _), (4, _), (5, _), (6, _), (7, _), (8, _), (9, _), (10, _), (11, _)]) 111 rfl dL_law_109 (by decide) rfl ?_
      refine wm_iload 113 rfl dL_law_111 rfl ?_
      refine wm_iconst (v := 2) 114 rfl dL_law_113 (by decide) ?_
      refine wm_icmp_ge 121 117 rfl (by decide) dL_law_114 (fun c114 => ?_) (fun c114 => ?_)
      · have hk2 := le_of_nI (a := 2) c114 (by omega) (by omega)
        refine wm_iload 123 rfl dL_law_121 rfl ?_
        refine wm_bipush (v := 6) 125 rfl dL_law_123 (by decide) ?_
        refine wm_icmp_ge 132 128 rfl (by decide) dL_law_125 (fun c125 => ?_) (fun c125 => ?_)
        · refine wm_iload 134 rfl dL_law_132 rfl ?_
          refine wm_bipush (v := 20) 136 rfl dL_law_134 (by decide) ?_
          refine wm_irem 137 rfl dL_law_136 (by decide) ?_
          refine wm_loc (ls2 := [(0, _), (1, _), (2, _), (3, _), (4, _), (5, _), (6, _), (7, _), (8, _), (9, _), (10, _), (11, _), (13, _)]) [1, 2, 3, 4, 5, 6, 7, 8, 9, 10, 11, 12, 0] rfl ?_
          first
            | exact c137 0 (by omega) (fun q => absurd rfl q)
            | exact c137 1 (by omega) (fun _ => hm (by omega))
            | rw [show nI V - nI V / 20 * 20 = nI (V % 20) from pk_rem (d := 20) (by omega) (by omega) (by omega)]
              exact c137 (V % 20) (by omega) (fun _ => hm (by omega))
        · refine wm_iconst (v := 1) 129 rfl dL_law_128 (by decide) ?_
          refine wm_goto 137 (by decide) dL_law_129 ?_
          refine wm_loc (ls2 := [(0, _), (1, _), (2, _), (3, _), (4, _), (5, _), (6, _), (7, _), (8, _), (9, _), (10, _), (11, _), (13, _)]) [1, 2, 3, 4, 5, 6, 7, 8, 9, 10, 11, 12, 0] rfl ?_
          first
            | exact c137 0 (by omega) (fun q => absurd rfl q)
            | exact c137 1 (by omega) (fun _ => hm (by omega))
            | rw [show nI V - nI V / 20 * 20 = nI (V % 20) from pk_rem (d := 20) (by omega) (by omega) (by omega)]
              exact c137 (V % 20) (by omega) (fun _ => hm (by omega))
      · refine wm_iconst (v := 0) 118 rfl dL_law_117 (by decide) ?_
        refine wm_goto 137 (by decide) dL_law_118 ?_
        refine wm_loc (ls2 := [(0, _), (1, _), (2, _), (3, _), (4, _), (5, _), (6, _), (7, _), (8, _), (9, _), (10, _), (11, _), (13, _)]) [1, 2, 3, 4, 5, 6, 7, 8, 9, 10, 11, 12, 0] rfl ?_
        first
          | exact c137 0 (by omega) (fun q => absurd rfl q)
          | exact c137 1 (by omega) (fun _ => hm (by omega))
          | rw [show nI V - nI V / 20 * 20 = nI (V % 20) from pk_rem (d := 20) (by omega) (by omega) (by omega)]
            exact c137 (V % 20) (by omega) (fun _ => hm (by omega))
    refine wm_iload 29 rfl dL_law_27 rfl ?_
    refine wm_iload 31 rfl dL_law_29 rfl ?_
    refine wm_icmp_ge 656 34 rfl (by decide) dL_law_31 (fun c31 => ?_) (fun c31 => ?_)
    · exact absurd (le_of_nI c31 (by omega) (by omega)) (by omega)
    · refine wm_aload_n 35 rfl dL_law_34 rfl rfl ?_
      refine wm_iconst (v := 1) 36 rfl dL_law_35 (by decide) ?_
      refine wm_iload 38 rfl dL_law_36 rfl ?_
      refine wm_iadd 39 rfl dL_law_38 ?_
      rw [show (1 : Int32) + nI k = nI (1 + k) from nI_add 1 k]
      refine wl_at (j := 1 + k) (by omega) (by omega) 42 rfl dL_law_39 ⟨Nat.le_of_ble_eq_true rfl, Nat.le_of_ble_eq_true rfl⟩ (Nat.le_of_ble_eq_true rfl) (show _ ≤ 676585 ∧ _ ≤ 7071868 from ⟨by omega, by omega⟩) hb9 (fun v9 => ?_)
      refine wm_ldc 44 rfl dL_law_42 aw_1_3 ?_
      refine wm_callSi (ty := .int) 47 rfl dL_law_44 (k_some l _ (c := 100000000) (by decide) (by decide)) ca_L_some aw_3_8 aw_3_7 ⟨Nat.le_of_ble_eq_true rfl, Nat.le_of_ble_eq_true rfl⟩ (Nat.le_of_ble_eq_true rfl) (show _ ≤ 676585 ∧ _ ≤ 7071868 from ⟨by omega, by omega⟩) ?_
      rintro r9 σ9 ⟨rfl, V, hV, rfl⟩
      refine wm_istore (ls' := [(6, _), (0, _), (1, _), (2, _), (3, _), (4, _), (5, _)]) 49 rfl dL_law_47 (by decide) rfl ?_
      refine wm_iload 51 rfl dL_law_49 rfl ?_
      refine wm_bipush (v := 20) 53 rfl dL_law_51 (by decide) ?_
      refine wm_idiv 54 rfl dL_law_53 (by decide) ?_
      rw [show nI V / 20 = nI (V / 20) from pk_div (d := 20) (by omega) (by omega) (by omega)]
      refine wm_istore (ls' := [(7, _), (6, _), (0, _), (1, _), (2, _), (3, _), (4, _), (5, _)]) 56 rfl dL_law_54 (by decide) rfl ?_
      refine wm_iload 58 rfl dL_law_56 rfl ?_
      refine wm_iconst (v := 1) 59 rfl dL_law_58 (by decide) ?_
      refine wm_iload_n 60 rfl dL_law_59 rfl rfl ?_
      refine wm_max 63 rfl dL_law_60 aw_1_4 aw_1_5 aw_1_6 aw_1_7 ⟨Nat.le_of_ble_eq_true rfl, Nat.le_of_ble_eq_true rfl⟩ (Nat.le_of_ble_eq_true rfl) (show _ ≤ 676585 ∧ _ ≤ 7071868 from ⟨by omega, by omega⟩) ?_
      rw [mx_eq h24]
      refine wm_irem 64 rfl dL_law_63 (nI_ne0 (by omega) (by omega)) ?_
      rw [pk_rem (d := max 1 n) (by omega) (by omega) (by omega)]
      have hr : V / 20 % max 1 n < 24 := Nat.lt_of_lt_of_le (Nat.mod_lt _ (by omega)) (by omega)
      generalize V / 20 % max 1 n = r at hr ⊢
      refine wm_istore (ls' := [(8, _), (7, _), (6, _), (0, _), (1, _), (2, _), (3, _), (4, _), (5, _)]) 66 rfl dL_law_64 (by decide) rfl ?_
      refine wm_iload 68 rfl dL_law_66 rfl ?_
      refine wm_bipush (v := 31) 70 rfl dL_law_68 (by decide) ?_
      refine wm_idiv 71 rfl dL_law_70 (by decide) ?_
      rw [show nI (V / 20) / 31 = nI (V / 20 / 31) from pk_div (d := 31) (by omega) (by omega) (by omega)]
      refine wm_iconst (v := 1) 72 rfl dL_law_71 (by decide) ?_
      refine wm_iload_n 73 rfl dL_law_72 rfl rfl ?_
      refine wm_max 76 rfl dL_law_73 aw_1_4 aw_1_5 aw_1_6 aw_1_7 ⟨Nat.le_of_ble_eq_true rfl, Nat.le_of_ble_eq_true rfl⟩ (Nat.le_of_ble_eq_true rfl) (show _ ≤ 676585 ∧ _ ≤ 7071868 from ⟨by omega, by omega⟩) ?_
      rw [mx_eq h24]
      refine wm_irem 77 rfl dL_law_76 (nI_ne0 (by omega) (by omega)) ?_
      rw [pk_rem (d := max 1 n) (by omega) (by omega) (by omega)]
      have ho : V / 20 / 31 % max 1 n < 24 := Nat.lt_of_lt_of_le (Nat.mod_lt _ (by omega)) (by omega)
      generalize V / 20 / 31 % max 1 n = o at ho ⊢
      refine wm_istore (ls' := [(9, _), (8, _), (7, _), (6, _), (0, _), (1, _), (2, _), (3, _), (4, _), (5, _)]) 79 rfl dL_law_77 (by decide) rfl ?_
      refine wm_iload 81 rfl dL_law_79 rfl ?_
      refine wm_iconst (v := 3) 82 rfl dL_law_81 (by decide) ?_
      refine wm_irem 83 rfl dL_law_82 (by decide) ?_
      refine wm_if_ne 90 86 rfl (by decide) dL_law_83 (fun c83 => ?_) (fun c83 => ?_)
      · refine wm_iconst (v := 0) 91 rfl dL_law_90 (by decide) ?_
        refine wm_istore (ls' := [(10, _), (9, _), (8, _), (7, _), (6, _), (0, _), (1, _), (2, _), (3, _), (4, _), (5, _)]) 93 rfl dL_law_91 (by decide) rfl ?_
        refine wm_iload 95 rfl dL_law_93 rfl ?_
        refine wm_if_eq 105 98 rfl (by decide) dL_law_95 (fun c95 => ?_) (fun c95 => ?_)
        · refine wm_lconst (v := 0) 106 rfl dL_law_105 (by decide) ?_
          refine wm_lstore (ls' := [(11, _), (10, _), (9, _), (8, _), (7, _), (6, _), (0, _), (1, _), (2, _), (3, _), (4, _), (5, _)]) 108 rfl dL_law_106 (by decide) rfl ?_
          refine wm_loc (ls2 := [(0, _), (1, _), (2, _), (3, _), (4, _), (5, _), (6, _), (7, _), (8, _), (9, _), (10, _), (11, _)]) [6, 7, 8, 9, 10, 11, 5, 4, 3, 2, 1, 0] rfl ?_
          first
            | refine wl_widen (k1 := 100 + 2850 * k + 434) (n1 := 1000 + 17100 * k + 2604) (by omega) (by omega) ?_
              exact c108 V r o _ _ _ hV hr ho hs2 (fun _ => eB)
            | refine wl_widen (k1 := 100 + 2850 * k + 434) (n1 := 1000 + 17100 * k + 2604) (by omega) (by omega) ?_
              exact c108 V r o _ _ _ hV hr ho (stb.rf σ) (fun q => absurd rfl q)
        · exact absurd rfl c95
      · refine wm_iconst (v := 1) 87 rfl dL_law_86 (by decide) ?_
        refine wm_goto 91 (by decide) dL_law_87 ?_
        refine wm_istore (ls' := [(10, _), (9, _), (8, _), (7, _), (6, _), (0, _), (1, _), (2, _), (3, _), (4, _), (5, _)]) 93 rfl dL_law_91 (by decide) rfl ?_
        refine wm_iload 95 rfl dL_law_93 rfl ?_
        refine wm_if_eq 105 98 rfl (by decide) dL_law_95 (fun c95 => ?_) (fun c95 => ?_)
        · exact absurd c95 (by decide)
        · refine wm_aload_n 99 rfl dL_law_98 rfl rfl ?_
          refine wl_callPl 102 rfl dL_law_99 (k_sum l hst hC (stb.rf σ)) cw_L_sum aw_3_11 aw_3_10 ⟨Nat.le_of_ble_eq_true rfl, Nat.le_of_ble_eq_true rfl⟩ (Nat.le_of_ble_eq_true rfl) (show _ ≤ 676585 ∧ _ ≤ 7071868 from ⟨by omega, by omega⟩) (fun B2 σ2 hp => ?_)
          obtain ⟨hs2, eB⟩ := hp
          refine wm_goto 106 (by decide) dL_law_102 ?_
          refine wm_lstore (ls' := [(11, _), (10, _), (9, _), (8, _), (7, _), (6, _), (0, _), (1, _), (2, _), (3, _), (4, _), (5, _)]) 108 rfl dL_law_106 (by decide) rfl ?_
          refine wm_loc (ls2 := [(0, _), (1, _), (2, _), (3, _), (4, _), (5, _), (6, _), (7, _), (8, _), (9, _), (10, _), (11, _)]) [6, 7, 8, 9, 10, 11, 5, 4, 3, 2, 1, 0] rfl ?_
          first
            | refine wl_widen (k1 := 100 + 2850 * k + 434) (n1 := 1000 + 17100 * k + 2604) (by omega) (by omega) ?_
              exact c108 V r o _ _ _ hV hr ho hs2 (fun _ => eB)
            | refine wl_widen (k1 := 100 + 2850 * k + 434) (n1 := 1000 + 17100 * k + 2604) (by omega) (by omega) ?_
              exact c108 V r o _ _ _ hV hr ho (stb.rf σ) (fun q => absurd rfl q)
