theorem cw_L_agreement : zCalW yL_agreement (Cond.codeWith yL_agreement cL_agreement 4 (some .float) [(0, 6, 7, 17), (0, 6, 11, 81)]) 3 := ⟨aw_21_3, aw_3_5, by decide +kernel, by decide +kernel, by decide +kernel⟩
theorem cw_L_pair : zCalW yL_pair (Cond.codeWith yL_pair cL_pair 5 (some .int) [(0, 69, 70, 17), (0, 69, 76, 19), (0, 69, 82, 21), (0, 69, 88, 81)]) 4 := ⟨aw_18_10, aw_3_5, by decide +kernel, by decide +kernel, by decide +kernel⟩
theorem ca_X4_nextGhostByDays : zCal yX4_nextGhostByDays cX4_nextGhostByDays 3 (some .int) 0 := ⟨aw_21_12, aw_1_2, by decide +kernel, by decide +kernel, by decide +kernel⟩
theorem cv_X4_nextGhostByDays : zCaV RX4 yX4_nextGhostByDays := ⟨aw_21_10, aw_21_11⟩
/-! WHETHER IT IS SOUND: every record, its thing told both ways, members, steps, facts -/
section IB
variable {σ : Sg} {n m p d L r f x k : Nat} {sn : Nat → Nat} {v : Int32}
theorem fT_t (h : hd σ n r) : fThing σ n r = nI (gC σ n 2 r) := iP_t h
theorem fT_g {t : Nat} (h : hd σ n r) (e : gC σ n 2 r = t) : fThing σ n r = nI t := by rw [fT_t h, e]
theorem fT_pos (h : 0 ≤ fThing σ n r) : hd σ n r := by
  by_cases q : hd σ n r
  · exact q
  · rw [fThing, iP_f q] at h; exact absurd h (by decide)
theorem fT_neg (hg : hd σ n r → GR σ n) (hn : n ≤ 24) (h : ¬ 0 ≤ fThing σ n r) : ¬ hd σ n r := fun q => h (by
  rw [fT_t q]
  have h1 := (hg q).lt q.1
  have h2 := q.1
  exact nI_pos' (by omega))
theorem mbr_self (h : hd σ n r) : mbr σ n (gC σ n 2) (gC σ n 2 r) r := ⟨h, rfl⟩
theorem cq_pos (h : hd σ n r) : 0 < cq (mbr σ n (gC σ n 2) (gC σ n 2 r)) n := Nat.lt_of_le_of_lt (Nat.zero_le _) (cq_upp h.1 (mbr_self h))
theorem mem_0 (hg : GR σ n) (hh : hd σ n r) (h : (∃ x, x < n ∧ mbr σ n (gC σ n 2) (gC σ n 2 r) x ∧ cq (mbr σ n (gC σ n 2) (gC σ n 2 r)) x = 0 ∧ v = nI x) ∨ (v = -1002 ∧ ∀ x, x < n → mbr σ n (gC σ n 2) (gC σ n 2 r) x → cq (mbr σ n (gC σ n 2) (gC σ n 2 r)) x ≠ 0)) : v = nI (gC σ n 2 r) := by
  have h1 : mbr σ n (gC σ n 2) (gC σ n 2 r) (gC σ n 2 r) := ⟨hg.hd hh, hg.id hh.1⟩
  have h2 : cq (mbr σ n (gC σ n 2) (gC σ n 2 r)) (gC σ n 2 r) = 0 := cq_zero (fun y hy q => by
    have h3 := hg.lt q.1.1
    have h4 := q.2
    omega)
  rcases h with ⟨x, hx, hm, hc, rfl⟩ | ⟨-, h⟩
  · rw [cq_inj1 hm h1 (by rw [hc, h2])]
  · exact absurd h2 (h _ (hg.hd hh).1 h1)
theorem mem_n (h : (∃ x, x < n ∧ mbr σ n (gC σ n 2) (gC σ n 2 r) x ∧ cq (mbr σ n (gC σ n 2) (gC σ n 2 r)) x = cq (mbr σ n (gC σ n 2) (gC σ n 2 r)) n ∧ v = nI x) ∨ (v = -1002 ∧ ∀ x, x < n → mbr σ n (gC σ n 2) (gC σ n 2 r) x → cq (mbr σ n (gC σ n 2) (gC σ n 2 r)) x ≠ cq (mbr σ n (gC σ n 2) (gC σ n 2 r)) n)) : v = -1002 := by
  rcases h with ⟨x, hx, hm, hc, -⟩ | ⟨h, -⟩
  · have := cq_upp hx hm; omega
  · exact h
theorem mem_j {j : Nat} (hj : j < cq (mbr σ n (gC σ n 2) (gC σ n 2 r)) n) (h : (∃ x, x < n ∧ mbr σ n (gC σ n 2) (gC σ n 2 r) x ∧ cq (mbr σ n (gC σ n 2) (gC σ n 2 r)) x = j ∧ v = nI x) ∨ (v = -1002 ∧ ∀ x, x < n → mbr σ n (gC σ n 2) (gC σ n 2 r) x → cq (mbr σ n (gC σ n 2) (gC σ n 2 r)) x ≠ j)) : ∃ x, hd σ n x ∧ gC σ n 2 x = gC σ n 2 r ∧ v = nI x := by
  rcases h with ⟨x, hx, hm, hc, hv⟩ | ⟨-, h⟩
  · exact ⟨x, hm.1, hm.2, hv⟩
  · obtain ⟨x, hx, hm, hc⟩ := cq_ix hj
    exact absurd hc (h x hx hm)
theorem fF_pos (hh : hd σ n r) (h : ¬ fFrom σ n r f < 0) : hasF σ n r f ∧ fFrom σ n r f = nI (bsX σ n r f) := by
  by_cases q : hasF σ n r f
  · exact ⟨q, by rw [fFrom, iP_t hh, iP_t q]⟩
  · rw [fFrom, iP_t hh, iP_f q] at h; exact absurd (by decide) h
theorem bsX_g (hF : hasF σ n r f) : hd σ n (bsX σ n r f) ∧ gC σ n 2 (bsX σ n r f) = gC σ n 2 r := (hasF_bst hF).2.1.1
theorem key_ok (hh : hd σ n r) (hx : hd σ n x) (hK : σ (7 + k) r ≠ -1 → σ (7 + k) x ≠ -1 → σ (7 + k) r = σ (7 + k) x) (c1 : ¬ fKey σ n r k < 0) (c2 : ¬ fKey σ n x k < 0) : fKey σ n r k = fKey σ n x k := by
  rw [fKey, iP_t hh] at c1 ⊢
  rw [fKey, iP_t hx] at c2 ⊢
  exact hK (fun q => c1 (by rw [q]; decide)) (fun q => c2 (by rw [q]; decide))
theorem zp_01 {P : Prop} : zp P = 0 ∨ zp P = 1 := by
  by_cases h : P
  · exact Or.inr (zp_t h)
  · exact Or.inl (zp_f h)
theorem THs_t (hh : hd σ n r) (e : gC σ n 2 r = r) : nI (cq (THs σ n) r) + 1 = nI (cq (THs σ n) (r + 1)) := by
  rw [cq_t (show THs σ n r from ⟨hh, e⟩)]
  exact (nI_succ _).symm
theorem THs_f (h : ¬ (hd σ n r ∧ gC σ n 2 r = r)) : cq (THs σ n) r = cq (THs σ n) (r + 1) := (cq_f (show ¬ THs σ n r from h)).symm
theorem hd_t (hh : hd σ n r) : cq (hd σ n) r + 1 = cq (hd σ n) (r + 1) := (cq_t hh).symm
theorem hd_f (hh : ¬ hd σ n r) : cq (hd σ n) r = cq (hd σ n) (r + 1) := (cq_f hh).symm
theorem cq_24 {P : Nat → Prop} (hn : n ≤ 24) (h : ∀ r, P r → r < n) : cq P 24 = cq P n := by
  have e3 := cq_ext (P := P) (n := n) h (24 - n)
  rw [show n + (24 - n) = 24 by omega] at e3
  exact e3
theorem ng_in {σ : Sg} {n d L : Nat} {sn : Nat → Nat} (h : NG σ n (gC σ n 2) sn d L n v) (h0 : ¬ v < 0) (hd9 : d ≤ 999) : ¬ v ≤ nI d := by
  rcases h with ⟨e, -⟩ | ⟨t, e, ht, hd, -⟩
  · exact absurd (by rw [e]; decide) h0
  · intro q
    rw [e] at q
    have := le_of_nI q (by omega) (by omega)
    omega
theorem step_0 : ∀ s, s < 0 → σ (7 + s) r ≠ -1 → σ (7 + s) x ≠ -1 → σ (7 + s) r = σ (7 + s) x := fun s hs => absurd hs (Nat.not_lt_zero s)
end IB
theorem k_sound (l : Launch) (hst : l.stackTraces = false) {σ τ : Sg} {n m p d L : Nat} {sn : Nat → Nat} (hC : CI σ n m p d L sn) (hs0 : stb σ τ) {wn : Nat} (hw : wn < 2 ^ 31) : sMi l yL_isSound cL_isSound 11 .boolean 10 1944 11664 [.ref 0, .int (nI wn)] τ (fun v σ1 => stb σ σ1 ∧ v = 1) := by
  have h24 := hC.n24
  refine lMet_of (by decide +kernel) (Nat.le_of_ble_eq_true rfl) (fun D cT ad sz => ?_)
  show Wm (fun _ _ => True) l (rmx 10 1944 11664) RL cL_isSound 11 (some .boolean) D cT ad Lc (zA ad Lc.length sz) (zZl (fun D cT ad L9 sz => zQi D cT ad L9 sz (fun v σ1 => stb σ σ1 ∧ v = 1)) 1944 11664 D cT ad Lc sz) [] 0 (lv_args 0 [.ref 0, .int (nI wn)]) [] τ 0 0
  have facts : ∀ r : Nat, r < 24 → GR σ n → hd σ n r → (∀ τ9, stb σ τ9 → Wm (fun _ _ => True) l (rmx 10 1944 11664) RL cL_isSound 11 (some .boolean) D cT ad Lc (zA ad Lc.length sz) (zZl (fun D cT ad L9 sz => zQi D cT ad L9 sz (fun v σ1 => stb σ σ1 ∧ v = 1)) 1944 11664 D cT ad Lc sz) [] 338 [(0, .ref 0), (1, .int (nI wn)), (2, .int (nI (cq (THs σ n) (r + 1)))), (3, .int (nI (cq (hd σ n) (r + 1)))), (4, .int (nI r)), (5, .int (nI (gC σ n 2 r)))] [] τ9 (81 * r + 81) (486 * r + 486)) → ∀ (q f : Nat) (τ1 : Sg), 3 - f = q → f ≤ 3 → stb σ τ1 → Wm (fun _ _ => True) l (rmx 10 1944 11664) RL cL_isSound 11 (some .boolean) D cT ad Lc (zA ad Lc.length sz) (zZl (fun D cT ad L9 sz => zQi D cT ad L9 sz (fun v σ1 => stb σ σ1 ∧ v = 1)) 1944 11664 D cT ad Lc sz) [] 249 [(0, .ref 0), (1, .int (nI wn)), (2, .int (nI (cq (THs σ n) (r + 1)))), (3, .int (nI (cq (hd σ n) (r + 1)))), (4, .int (nI r)), (5, .int (nI (gC σ n 2 r))), (9, .int (nI f))] [] τ1 (81 * r + 33 + 16 * f) (486 * r + 198 + 96 * f) := by
    intro r hr hg hh kk q
    induction q with
    | zero =>
      intro f τ1 hm hf hs1
      have gf : f = 3 := by omega
      subst gf
      refine wm_iload 251 rfl dL_isSound_249 rfl ?_
      refine wm_iconst (v := 3) 252 rfl dL_isSound_251 (by decide) ?_
      refine wm_icmp_ge 338 255 rfl (by decide) dL_isSound_252 (fun c252 => ?_) (fun c252 => ?_)
      · refine wm_loc (ls2 := [(0, _), (1, _), (2, _), (3, _), (4, _), (5, _)]) [0, 1, 2, 3, 4, 5] rfl ?_
        exact kk τ1 hs1
      · exact absurd (show nI 3 ≤ nI 3 from Int32.le_refl _) c252
    | succ q ih =>
      intro f τ1 hm hf hs1
      have gf : f < 3 := by omega
      have fin : ∀ τ9, stb σ τ9 → Wm (fun _ _ => True) l (rmx 10 1944 11664) RL cL_isSound 11 (some .boolean) D cT ad Lc (zA ad Lc.length sz) (zZl (fun D cT ad L9 sz => zQi D cT ad L9 sz (fun v σ1 => stb σ σ1 ∧ v = 1)) 1944 11664 D cT ad Lc sz) [] 332 [(0, .ref 0), (1, .int (nI wn)), (2, .int (nI (cq (THs σ n) (r + 1)))), (3, .int (nI (cq (hd σ n) (r + 1)))), (4, .int (nI r)), (5, .int (nI (gC σ n 2 r))), (9, .int (nI f))] [] τ9 (81 * r + 33 + 16 * f + 16) (486 * r + 198 + 96 * f + 96) := by
        intro τ9 hs9
        refine wm_iinc (ls' := [(9, _), (0, _), (1, _), (2, _), (3, _), (4, _), (5, _)]) 335 rfl dL_isSound_332 rfl (nI_inc _) (by decide) rfl ?_
        refine wm_goto 249 (by decide) dL_isSound_335 ?_
        refine wm_loc (ls2 := [(0, _), (1, _), (2, _), (3, _), (4, _), (5, _), (9, _)]) [1, 2, 3, 4, 5, 6, 0] rfl ?_
        exact ih (f + 1) τ9 (dn_s hm) gf hs9
      refine wm_iload 251 rfl dL_isSound_249 rfl ?_
      refine wm_iconst (v := 3) 252 rfl dL_isSound_251 (by decide) ?_
      refine wm_icmp_ge 338 255 rfl (by decide) dL_isSound_252 (fun c252 => ?_) (fun c252 => ?_)
      · exact absurd (le_of_nI (a := 3) c252 (by omega) (by omega)) (by omega)
      · refine wm_aload_n 256 rfl dL_isSound_255 rfl rfl ?_
        refine wm_iload 258 rfl dL_isSound_256 rfl ?_
        refine wm_iload 260 rfl dL_isSound_258 rfl ?_
        refine wm_iconst (v := 2) 261 rfl dL_isSound_260 (by decide) ?_
        refine wl_callWi 264 rfl dL_isSound_261 (h_fact2 l (nI r) (nI f) (k_X4_factFrom l hst (hs1.cIy hC.cI) (hs1.cSy hC.cS) (nI r) (nI f)) (show ∀ E ∈ [eIO, eIO, eNS], E ∈ [eIO, eNS] by decide)) cw_L_fact aw_14_0 aw_13_23 ⟨Nat.le_of_ble_eq_true rfl, Nat.le_of_ble_eq_true rfl⟩ (Nat.le_of_ble_eq_true rfl) (show _ ≤ 1944 ∧ _ ≤ 11664 from ⟨by omega, by omega⟩) (fun r9 τ2 hp => ?_)
        obtain ⟨hs2, rfl⟩ := s_from hC hs1 hg hr gf hp
        refine wm_istore (ls' := [(10, _), (0, _), (1, _), (2, _), (3, _), (4, _), (5, _), (9, _)]) 266 rfl dL_isSound_264 (by decide) rfl ?_
        refine wm_aload_n 267 rfl dL_isSound_266 rfl rfl ?_
        refine wm_iload 269 rfl dL_isSound_267 rfl ?_
        refine wm_iload 271 rfl dL_isSound_269 rfl ?_
        refine wm_iconst (v := 0) 272 rfl dL_isSound_271 (by decide) ?_
        refine wl_callWi 275 rfl dL_isSound_272 (h_fact0 l (nI r) (nI f) (k_X4_fact l hst (hs2.cIy hC.cI) (hs2.cSy hC.cS) (nI r) (nI f)) (show ∀ E ∈ [eIO, eIO, eNS], E ∈ [eIO, eNS] by decide)) cw_L_fact aw_14_0 aw_13_23 ⟨Nat.le_of_ble_eq_true rfl, Nat.le_of_ble_eq_true rfl⟩ (Nat.le_of_ble_eq_true rfl) (show _ ≤ 1944 ∧ _ ≤ 11664 from ⟨by omega, by omega⟩) (fun r9 τ3 hp => ?_)
        obtain ⟨hs3, rfl⟩ := s_fact hC hs2 hg hr gf hp
        refine wm_aload_n 276 rfl dL_isSound_275 rfl rfl ?_
        refine wm_iload 278 rfl dL_isSound_276 rfl ?_
        refine wm_iload 280 rfl dL_isSound_278 rfl ?_
        refine wm_iconst (v := 1) 281 rfl dL_isSound_280 (by decide) ?_
        refine wl_callWi 284 rfl dL_isSound_281 (h_fact1 l (nI r) (nI f) (k_X4_factByPairs l hst (hs3.cIy hC.cI) (hs3.cSy hC.cS) (nI r) (nI f)) (show ∀ E ∈ [eIO, eIO, eNS], E ∈ [eIO, eNS] by decide)) cw_L_fact aw_14_0 aw_13_23 ⟨Nat.le_of_ble_eq_true rfl, Nat.le_of_ble_eq_true rfl⟩ (Nat.le_of_ble_eq_true rfl) (show _ ≤ 1944 ∧ _ ≤ 11664 from ⟨by omega, by omega⟩) (fun r9 τ4 hp => ?_)
        obtain ⟨hs4, rfl⟩ := s_fact hC hs3 hg hr gf hp
        refine wm_icmp_ne 330 287 rfl (by decide) dL_isSound_284 (fun c284 => ?_) (fun c284 => ?_)
        · exact absurd rfl c284
        · refine wm_iload 289 rfl dL_isSound_287 rfl ?_
          refine wm_if_lt 332 292 rfl (by decide) dL_isSound_289 (fun c289 => ?_) (fun c289 => ?_)
          · refine wm_loc (ls2 := [(0, _), (1, _), (2, _), (3, _), (4, _), (5, _), (9, _)]) [1, 2, 3, 4, 5, 6, 7] rfl ?_
            first
              | exact wl_widen (k1 := 81 * r + 33 + 16 * f + 16) (n1 := 486 * r + 198 + 96 * f + 96) (by omega) (by omega) (fin τ7 hs7)
              | exact wl_widen (k1 := 81 * r + 33 + 16 * f + 16) (n1 := 486 * r + 198 + 96 * f + 96) (by omega) (by omega) (fin τ4 hs4)
          · obtain ⟨hF, eF⟩ := fF_pos hh c289
            have hy := bsX_g hF
            have hy24 : bsX σ n r f < 24 := by have := hy.1.1; omega
            rw [eF]
            refine wm_aload_n 293 rfl dL_isSound_292 rfl rfl ?_
            refine wm_iload 295 rfl dL_isSound_293 rfl ?_
            refine wm_iconst (v := 3) 296 rfl dL_isSound_295 (by decide) ?_
            refine wl_callWi 299 rfl dL_isSound_296 (h_one3 l (nI (bsX σ n r f)) (k_X4_thing l hst (hs4.cIy hC.cI) (nI (bsX σ n r f))) (show ∀ E ∈ [eIO], E ∈ [eIO] by decide)) cw_L_one aw_10_7 aw_10_6 ⟨Nat.le_of_ble_eq_true rfl, Nat.le_of_ble_eq_true rfl⟩ (Nat.le_of_ble_eq_true rfl) (show _ ≤ 1944 ∧ _ ≤ 11664 from ⟨by omega, by omega⟩) (fun r9 τ5 hp => ?_)
            obtain ⟨hs5, rfl, -⟩ := s_thing hC hs4 hy24 hp
            refine wm_iload 301 rfl dL_isSound_299 rfl ?_
            refine wm_icmp_ne 330 304 rfl (by decide) dL_isSound_301 (fun c301 => ?_) (fun c301 => ?_)
            · exact absurd (fT_g hy.1 hy.2) c301
            · refine wm_aload_n 305 rfl dL_isSound_304 rfl rfl ?_
              refine wm_iload 307 rfl dL_isSound_305 rfl ?_
              refine wm_iload 309 rfl dL_isSound_307 rfl ?_
              refine wl_callWf 312 rfl dL_isSound_309 (h_agreement l (nI r) (nI f) (k_X4_agreement l hst (hs5.cIy hC.cI) (hs5.cSy hC.cS) (nI r) (nI f)) (show ∀ E ∈ [eIO, eIO, eNS], E ∈ [eIO, eNS] by decide)) cw_L_agreement aw_21_2 aw_21_1 ⟨Nat.le_of_ble_eq_true rfl, Nat.le_of_ble_eq_true rfl⟩ (Nat.le_of_ble_eq_true rfl) (show _ ≤ 1944 ∧ _ ≤ 11664 from ⟨by omega, by omega⟩) (fun r9 τ6 hp => ?_)
              obtain ⟨hs6, ha6, -⟩ := s_agr hC hs5 hg hh gf hF hp
              refine wm_fconst0 313 rfl dL_isSound_312 ?_
              refine wm_fcmp 314 rfl dL_isSound_313 ?_
              refine wm_if_le 330 317 rfl (by decide) dL_isSound_314 (fun c314 => ?_) (fun c314 => ?_)
              · exact absurd c314 ha6
              · refine wm_aload_n 318 rfl dL_isSound_317 rfl rfl ?_
                refine wm_iload 320 rfl dL_isSound_318 rfl ?_
                refine wm_iload 322 rfl dL_isSound_320 rfl ?_
                refine wl_callWf 325 rfl dL_isSound_322 (h_agreement l (nI r) (nI f) (k_X4_agreement l hst (hs6.cIy hC.cI) (hs6.cSy hC.cS) (nI r) (nI f)) (show ∀ E ∈ [eIO, eIO, eNS], E ∈ [eIO, eNS] by decide)) cw_L_agreement aw_21_2 aw_21_1 ⟨Nat.le_of_ble_eq_true rfl, Nat.le_of_ble_eq_true rfl⟩ (Nat.le_of_ble_eq_true rfl) (show _ ≤ 1944 ∧ _ ≤ 11664 from ⟨by omega, by omega⟩) (fun r8 τ7 hp => ?_)
                obtain ⟨hs7, -, ha7⟩ := s_agr hC hs6 hg hh gf hF hp
                refine wm_fconst1 326 rfl dL_isSound_325 ?_
                refine wm_fcmp 327 rfl dL_isSound_326 ?_
                refine wm_if_le 332 330 rfl (by decide) dL_isSound_327 (fun c327 => ?_) (fun c327 => ?_)
                · refine wm_loc (ls2 := [(0, _), (1, _), (2, _), (3, _), (4, _), (5, _), (9, _)]) [1, 2, 3, 4, 5, 6, 7] rfl ?_
                  first
                    | exact wl_widen (k1 := 81 * r + 33 + 16 * f + 16) (n1 := 486 * r + 198 + 96 * f + 96) (by omega) (by omega) (fin τ7 hs7)
                    | exact wl_widen (k1 := 81 * r + 33 + 16 * f + 16) (n1 := 486 * r + 198 + 96 * f + 96) (by omega) (by omega) (fin τ4 hs4)
                · exact absurd ha7 c327
  have keys : ∀ r : Nat, r < 24 → GR σ n → hd σ n r → (∀ τ9, stb σ τ9 → Wm (fun _ _ => True) l (rmx 10 1944 11664) RL cL_isSound 11 (some .boolean) D cT ad Lc (zA ad Lc.length sz) (zZl (fun D cT ad L9 sz => zQi D cT ad L9 sz (fun v σ1 => stb σ σ1 ∧ v = 1)) 1944 11664 D cT ad Lc sz) [] 338 [(0, .ref 0), (1, .int (nI wn)), (2, .int (nI (cq (THs σ n) (r + 1)))), (3, .int (nI (cq (hd σ n) (r + 1)))), (4, .int (nI r)), (5, .int (nI (gC σ n 2 r)))] [] τ9 (81 * r + 81) (486 * r + 486)) → ∀ x K : Nat, hd σ n x → K < 3 → (∀ s, s < K → σ (7 + s) r ≠ -1 → σ (7 + s) x ≠ -1 → σ (7 + s) r = σ (7 + s) x) → ∀ (q j : Nat) (τ1 : Sg), K - j = q → j ≤ K → stb σ τ1 → Wm (fun _ _ => True) l (rmx 10 1944 11664) RL cL_isSound 11 (some .boolean) D cT ad Lc (zA ad Lc.length sz) (zZl (fun D cT ad L9 sz => zQi D cT ad L9 sz (fun v σ1 => stb σ σ1 ∧ v = 1)) 1944 11664 D cT ad Lc sz) [] 186 [(0, .ref 0), (1, .int (nI wn)), (2, .int (nI (cq (THs σ n) (r + 1)))), (3, .int (nI (cq (hd σ n) (r + 1)))), (4, .int (nI r)), (5, .int (nI (gC σ n 2 r))), (7, .int (nI x)), (8, .int (nI K)), (9, .int (nI j))] [] τ1 (81 * r + 17 + 8 * j) (486 * r + 102 + 48 * j) := by
    intro r hr hg hh kk x K hx hK3 hK q
    have hx24 : x < 24 := by have := hx.1; omega
    induction q with
    | zero =>
      intro j τ1 hm hj hs1
      have gj : j = K := by omega
      subst gj
      refine wm_iload 188 rfl dL_isSound_186 rfl ?_
      refine wm_iload 190 rfl dL_isSound_188 rfl ?_
      refine wm_icmp_ge 246 193 rfl (by decide) dL_isSound_190 (fun c190 => ?_) (fun c190 => ?_)
      · refine wm_iconst (v := 0) 247 rfl dL_isSound_246 (by decide) ?_
        refine wm_istore (ls' := [(9, _), (0, _), (1, _), (2, _), (3, _), (4, _), (5, _), (7, _), (8, _)]) 249 rfl dL_isSound_247 (by decide) rfl ?_
        refine wm_loc (ls2 := [(0, _), (1, _), (2, _), (3, _), (4, _), (5, _), (9, _)]) [1, 2, 3, 4, 5, 6, 0] rfl ?_
        exact wl_widen (k1 := 81 * r + 33 + 16 * 0) (n1 := 486 * r + 198 + 96 * 0) (by omega) (by omega) (facts r hr hg hh kk 3 0 τ1 rfl (Nat.zero_le _) hs1)
      · exact absurd (Int32.le_refl _) c190
    | succ q ih =>
      intro j τ1 hm hj hs1
      have gj : j < K := by omega
      have gj3 : j < 3 := by omega
      have fin : ∀ τ9, stb σ τ9 → Wm (fun _ _ => True) l (rmx 10 1944 11664) RL cL_isSound 11 (some .boolean) D cT ad Lc (zA ad Lc.length sz) (zZl (fun D cT ad L9 sz => zQi D cT ad L9 sz (fun v σ1 => stb σ σ1 ∧ v = 1)) 1944 11664 D cT ad Lc sz) [] 240 [(0, .ref 0), (1, .int (nI wn)), (2, .int (nI (cq (THs σ n) (r + 1)))), (3, .int (nI (cq (hd σ n) (r + 1)))), (4, .int (nI r)), (5, .int (nI (gC σ n 2 r))), (7, .int (nI x)), (8, .int (nI K)), (9, .int (nI j))] [] τ9 (81 * r + 17 + 8 * j + 8) (486 * r + 102 + 48 * j + 48) := by
        intro τ9 hs9
        refine wm_iinc (ls' := [(9, _), (0, _), (1, _), (2, _), (3, _), (4, _), (5, _), (7, _), (8, _)]) 243 rfl dL_isSound_240 rfl (nI_inc _) (by decide) rfl ?_
        refine wm_goto 186 (by decide) dL_isSound_243 ?_
        refine wm_loc (ls2 := [(0, _), (1, _), (2, _), (3, _), (4, _), (5, _), (7, _), (8, _), (9, _)]) [1, 2, 3, 4, 5, 6, 7, 8, 0] rfl ?_
        exact ih (j + 1) τ9 (dn_s hm) gj hs9
      refine wm_iload 188 rfl dL_isSound_186 rfl ?_
      refine wm_iload 190 rfl dL_isSound_188 rfl ?_
      refine wm_icmp_ge 246 193 rfl (by decide) dL_isSound_190 (fun c190 => ?_) (fun c190 => ?_)
      · exact absurd (le_of_nI c190 (by omega) (by omega)) (by omega)
      · refine wm_aload_n 194 rfl dL_isSound_193 rfl rfl ?_
        refine wm_iload 196 rfl dL_isSound_194 rfl ?_
        refine wm_iload 198 rfl dL_isSound_196 rfl ?_
        refine wm_iconst (v := 0) 199 rfl dL_isSound_198 (by decide) ?_
        refine wl_callWi 202 rfl dL_isSound_199 (h_key0 l (nI r) (nI j) (k_X4_key l hst (hs1.cIy hC.cI) (nI r) (nI j)) (show ∀ E ∈ [eIO, eIO], E ∈ [eIO, eNS] by decide)) cw_L_key aw_13_2 aw_13_1 ⟨Nat.le_of_ble_eq_true rfl, Nat.le_of_ble_eq_true rfl⟩ (Nat.le_of_ble_eq_true rfl) (show _ ≤ 1944 ∧ _ ≤ 11664 from ⟨by omega, by omega⟩) (fun r9 τ2 hp => ?_)
        obtain ⟨hs2, rfl⟩ := s_key hC hs1 hr gj3 hp
        refine wm_if_lt 240 205 rfl (by decide) dL_isSound_202 (fun c202 => ?_) (fun c202 => ?_)
        · exact wl_widen (k1 := 81 * r + 17 + 8 * j + 8) (n1 := 486 * r + 102 + 48 * j + 48) (by omega) (by omega) (fin τ2 hs2)
        · refine wm_aload_n 206 rfl dL_isSound_205 rfl rfl ?_
          refine wm_iload 208 rfl dL_isSound_206 rfl ?_
          refine wm_iload 210 rfl dL_isSound_208 rfl ?_
          refine wm_iconst (v := 0) 211 rfl dL_isSound_210 (by decide) ?_
          refine wl_callWi 214 rfl dL_isSound_211 (h_key0 l (nI x) (nI j) (k_X4_key l hst (hs2.cIy hC.cI) (nI x) (nI j)) (show ∀ E ∈ [eIO, eIO], E ∈ [eIO, eNS] by decide)) cw_L_key aw_13_2 aw_13_1 ⟨Nat.le_of_ble_eq_true rfl, Nat.le_of_ble_eq_true rfl⟩ (Nat.le_of_ble_eq_true rfl) (show _ ≤ 1944 ∧ _ ≤ 11664 from ⟨by omega, by omega⟩) (fun r9 τ3 hp => ?_)
          obtain ⟨hs3, rfl⟩ := s_key hC hs2 hx24 gj3 hp
          refine wm_if_lt 240 217 rfl (by decide) dL_isSound_214 (fun c214 => ?_) (fun c214 => ?_)
          · exact wl_widen (k1 := 81 * r + 17 + 8 * j + 8) (n1 := 486 * r + 102 + 48 * j + 48) (by omega) (by omega) (fin τ3 hs3)
          · refine wm_aload_n 218 rfl dL_isSound_217 rfl rfl ?_
            refine wm_iload 220 rfl dL_isSound_218 rfl ?_
            refine wm_iload 222 rfl dL_isSound_220 rfl ?_
            refine wm_iconst (v := 0) 223 rfl dL_isSound_222 (by decide) ?_
            refine wl_callWi 226 rfl dL_isSound_223 (h_key0 l (nI r) (nI j) (k_X4_key l hst (hs3.cIy hC.cI) (nI r) (nI j)) (show ∀ E ∈ [eIO, eIO], E ∈ [eIO, eNS] by decide)) cw_L_key aw_13_2 aw_13_1 ⟨Nat.le_of_ble_eq_true rfl, Nat.le_of_ble_eq_true rfl⟩ (Nat.le_of_ble_eq_true rfl) (show _ ≤ 1944 ∧ _ ≤ 11664 from ⟨by omega, by omega⟩) (fun r9 τ4 hp => ?_)
            obtain ⟨hs4, rfl⟩ := s_key hC hs3 hr gj3 hp
            refine wm_aload_n 227 rfl dL_isSound_226 rfl rfl ?_
            refine wm_iload 229 rfl dL_isSound_227 rfl ?_
            refine wm_iload 231 rfl dL_isSound_229 rfl ?_
            refine wm_iconst (v := 0) 232 rfl dL_isSound_231 (by decide) ?_
            refine wl_callWi 235 rfl dL_isSound_232 (h_key0 l (nI x) (nI j) (k_X4_key l hst (hs4.cIy hC.cI) (nI x) (nI j)) (show ∀ E ∈ [eIO, eIO], E ∈ [eIO, eNS] by decide)) cw_L_key aw_13_2 aw_13_1 ⟨Nat.le_of_ble_eq_true rfl, Nat.le_of_ble_eq_true rfl⟩ (Nat.le_of_ble_eq_true rfl) (show _ ≤ 1944 ∧ _ ≤ 11664 from ⟨by omega, by omega⟩) (fun r9 τ5 hp => ?_)
            obtain ⟨hs5, rfl⟩ := s_key hC hs4 hx24 gj3 hp
            refine wm_icmp_eq 240 238 rfl (by decide) dL_isSound_235 (fun c235 => ?_) (fun c235 => ?_)
            · exact wl_widen (k1 := 81 * r + 17 + 8 * j + 8) (n1 := 486 * r + 102 + 48 * j + 48) (by omega) (by omega) (fin τ5 hs5)
            · exact absurd (key_ok hh hx (hK j gj) c202 c214) c235
  have rest : ∀ (r : Nat) (τ1 : Sg), r < 24 → GR σ n → hd σ n r → (∀ τ9, stb σ τ9 → Wm (fun _ _ => True) l (rmx 10 1944 11664) RL cL_isSound 11 (some .boolean) D cT ad Lc (zA ad Lc.length sz) (zZl (fun D cT ad L9 sz => zQi D cT ad L9 sz (fun v σ1 => stb σ σ1 ∧ v = 1)) 1944 11664 D cT ad Lc sz) [] 338 [(0, .ref 0), (1, .int (nI wn)), (2, .int (nI (cq (THs σ n) (r + 1)))), (3, .int (nI (cq (hd σ n) (r + 1)))), (4, .int (nI r)), (5, .int (nI (gC σ n 2 r)))] [] τ9 (81 * r + 81) (486 * r + 486)) → stb σ τ1 → Wm (fun _ _ => True) l (rmx 10 1944 11664) RL cL_isSound 11 (some .boolean) D cT ad Lc (zA ad Lc.length sz) (zZl (fun D cT ad L9 sz => zQi D cT ad L9 sz (fun v σ1 => stb σ σ1 ∧ v = 1)) 1944 11664 D cT ad Lc sz) [] 63 [(0, .ref 0), (1, .int (nI wn)), (2, .int (nI (cq (THs σ n) (r + 1)))), (3, .int (nI (cq (hd σ n) (r + 1)))), (4, .int (nI r)), (5, .int (nI (gC σ n 2 r)))] [] τ1 (81 * r + 2) (486 * r + 12) := by
    intro r τ1 hr hg hh kk hs1
    have hle := hg.lt hh.1
    have ht24 : gC σ n 2 r < 24 := by omega
    have hS0 := cq_pos hh
    have hSn := cq_le (mbr σ n (gC σ n 2) (gC σ n 2 r)) n
    refine wm_aload_n 64 rfl dL_isSound_63 rfl rfl ?_
    refine wm_iload 66 rfl dL_isSound_64 rfl ?_
    refine wm_iconst (v := 5) 67 rfl dL_isSound_66 (by decide) ?_
    refine wl_callWi 70 rfl dL_isSound_67 (h_one5 l (nI r) (k_X4_size l hst (hs1.cIy hC.cI) (nI r)) (show ∀ E ∈ [eIO], E ∈ [eIO] by decide)) cw_L_one aw_10_7 aw_10_6 ⟨Nat.le_of_ble_eq_true rfl, Nat.le_of_ble_eq_true rfl⟩ (Nat.le_of_ble_eq_true rfl) (show _ ≤ 1944 ∧ _ ≤ 11664 from ⟨by omega, by omega⟩) (fun r9 τ2 hp => ?_)
    obtain ⟨hs2, rfl⟩ := s_size hC hs1 hh hg hp
    refine wm_istore (ls' := [(6, _), (0, _), (1, _), (2, _), (3, _), (4, _), (5, _)]) 72 rfl dL_isSound_70 (by decide) rfl ?_
    refine wm_iload 74 rfl dL_isSound_72 rfl ?_
    refine wm_iload 76 rfl dL_isSound_74 rfl ?_
    refine wm_icmp_gt 119 79 rfl (by decide) dL_isSound_76 (fun c76 => ?_) (fun c76 => ?_)
    · exact absurd (nI_gt c76 (by omega) (by omega)) (by omega)
    · refine wm_aload_n 80 rfl dL_isSound_79 rfl rfl ?_
      refine wm_iload 82 rfl dL_isSound_80 rfl ?_
      refine wm_iconst (v := 3) 83 rfl dL_isSound_82 (by decide) ?_
      refine wl_callWi 86 rfl dL_isSound_83 (h_one3 l (nI (gC σ n 2 r)) (k_X4_thing l hst (hs2.cIy hC.cI) (nI (gC σ n 2 r))) (show ∀ E ∈ [eIO], E ∈ [eIO] by decide)) cw_L_one aw_10_7 aw_10_6 ⟨Nat.le_of_ble_eq_true rfl, Nat.le_of_ble_eq_true rfl⟩ (Nat.le_of_ble_eq_true rfl) (show _ ≤ 1944 ∧ _ ≤ 11664 from ⟨by omega, by omega⟩) (fun r9 τ3 hp => ?_)
      obtain ⟨hs3, rfl, -⟩ := s_thing hC hs2 ht24 hp
      refine wm_iload 88 rfl dL_isSound_86 rfl ?_
      refine wm_icmp_ne 119 91 rfl (by decide) dL_isSound_88 (fun c88 => ?_) (fun c88 => ?_)
      · exact absurd (fT_g (hg.hd hh) (hg.id hh.1)) c88
      · refine wm_aload_n 92 rfl dL_isSound_91 rfl rfl ?_
        refine wm_iload 94 rfl dL_isSound_92 rfl ?_
        refine wm_iconst (v := 0) 95 rfl dL_isSound_94 (by decide) ?_
        refine wm_iconst (v := 1) 96 rfl dL_isSound_95 (by decide) ?_
        refine wl_callWi 99 rfl dL_isSound_96 (h_key1 l (nI r) (nI 0) (k_X4_member l hst (hs3.cIy hC.cI) (nI r) (nI 0)) (show ∀ E ∈ [eIO, eNS], E ∈ [eIO, eNS] by decide)) cw_L_key aw_13_2 aw_13_1 ⟨Nat.le_of_ble_eq_true rfl, Nat.le_of_ble_eq_true rfl⟩ (Nat.le_of_ble_eq_true rfl) (show _ ≤ 1944 ∧ _ ≤ 11664 from ⟨by omega, by omega⟩) (fun r9 τ4 hp => ?_)
        obtain ⟨hs4, hm4⟩ := s_member hC hs3 hg hh (j := 0) (by omega) hp
        have e4 := mem_0 hg hh hm4
        subst e4
        refine wm_iload 101 rfl dL_isSound_99 rfl ?_
        refine wm_icmp_ne 119 104 rfl (by decide) dL_isSound_101 (fun c101 => ?_) (fun c101 => ?_)
        · exact absurd rfl c101
        · refine wm_aload_n 105 rfl dL_isSound_104 rfl rfl ?_
          refine wm_iload 107 rfl dL_isSound_105 rfl ?_
          refine wm_iload 109 rfl dL_isSound_107 rfl ?_
          refine wm_iconst (v := 1) 110 rfl dL_isSound_109 (by decide) ?_
          refine wl_callWi 113 rfl dL_isSound_110 (h_key1 l (nI r) (nI (cq (mbr σ n (gC σ n 2) (gC σ n 2 r)) n)) (k_X4_member l hst (hs4.cIy hC.cI) (nI r) (nI (cq (mbr σ n (gC σ n 2) (gC σ n 2 r)) n))) (show ∀ E ∈ [eIO, eNS], E ∈ [eIO, eNS] by decide)) cw_L_key aw_13_2 aw_13_1 ⟨Nat.le_of_ble_eq_true rfl, Nat.le_of_ble_eq_true rfl⟩ (Nat.le_of_ble_eq_true rfl) (show _ ≤ 1944 ∧ _ ≤ 11664 from ⟨by omega, by omega⟩) (fun r9 τ5 hp => ?_)
          obtain ⟨hs5, hm5⟩ := s_member hC hs4 hg hh (by omega) hp
          have e5 := mem_n hm5
          subst e5
          refine wm_sipush (v := (-1002)) 116 rfl dL_isSound_113 (by decide) ?_
          refine wm_icmp_eq 121 119 rfl (by decide) dL_isSound_116 (fun c116 => ?_) (fun c116 => ?_)
          · refine wm_aload_n 122 rfl dL_isSound_121 rfl rfl ?_
            refine wm_iload 124 rfl dL_isSound_122 rfl ?_
            refine wm_iload_n 125 rfl dL_isSound_124 rfl rfl ?_
            refine wm_iload 127 rfl dL_isSound_125 rfl ?_
            refine wm_irem 128 rfl dL_isSound_127 (nI_ne0 hS0 (by omega)) ?_
            rw [pk_rem hw hS0 (by omega)]
            refine wm_iconst (v := 1) 129 rfl dL_isSound_128 (by decide) ?_
            refine wl_callWi 132 rfl dL_isSound_129 (h_key1 l (nI r) (nI (wn % (cq (mbr σ n (gC σ n 2) (gC σ n 2 r)) n))) (k_X4_member l hst (hs5.cIy hC.cI) (nI r) (nI (wn % (cq (mbr σ n (gC σ n 2) (gC σ n 2 r)) n)))) (show ∀ E ∈ [eIO, eNS], E ∈ [eIO, eNS] by decide)) cw_L_key aw_13_2 aw_13_1 ⟨Nat.le_of_ble_eq_true rfl, Nat.le_of_ble_eq_true rfl⟩ (Nat.le_of_ble_eq_true rfl) (show _ ≤ 1944 ∧ _ ≤ 11664 from ⟨by omega, by omega⟩) (fun r9 τ6 hp => ?_)
            obtain ⟨hs6, hm6⟩ := s_member hC hs5 hg hh (j := wn % (cq (mbr σ n (gC σ n 2) (gC σ n 2 r)) n)) (by have := Nat.mod_lt wn hS0; omega) hp
            obtain ⟨x, hx, ex, rfl⟩ := mem_j (Nat.mod_lt wn hS0) hm6
            have hx24 : x < 24 := by have := hx.1; omega
            refine wm_istore (ls' := [(7, _), (6, _), (0, _), (1, _), (2, _), (3, _), (4, _), (5, _)]) 134 rfl dL_isSound_132 (by decide) rfl ?_
            refine wm_aload_n 135 rfl dL_isSound_134 rfl rfl ?_
            refine wm_iload 137 rfl dL_isSound_135 rfl ?_
            refine wm_iconst (v := 3) 138 rfl dL_isSound_137 (by decide) ?_
            refine wl_callWi 141 rfl dL_isSound_138 (h_one3 l (nI x) (k_X4_thing l hst (hs6.cIy hC.cI) (nI x)) (show ∀ E ∈ [eIO], E ∈ [eIO] by decide)) cw_L_one aw_10_7 aw_10_6 ⟨Nat.le_of_ble_eq_true rfl, Nat.le_of_ble_eq_true rfl⟩ (Nat.le_of_ble_eq_true rfl) (show _ ≤ 1944 ∧ _ ≤ 11664 from ⟨by omega, by omega⟩) (fun r9 τ7 hp => ?_)
            obtain ⟨hs7, rfl, -⟩ := s_thing hC hs6 hx24 hp
            refine wm_iload 143 rfl dL_isSound_141 rfl ?_
            refine wm_icmp_ne 159 146 rfl (by decide) dL_isSound_143 (fun c143 => ?_) (fun c143 => ?_)
            · exact absurd (fT_g hx ex) c143
            · refine wm_aload_n 147 rfl dL_isSound_146 rfl rfl ?_
              refine wm_iload 149 rfl dL_isSound_147 rfl ?_
              refine wm_iload 151 rfl dL_isSound_149 rfl ?_
              refine wm_iconst (v := 2) 152 rfl dL_isSound_151 (by decide) ?_
              refine wl_callWi 155 rfl dL_isSound_152 (h_pair2 l (nI r) (nI x) (k_X4_areTogether l hst (hs7.cIy hC.cI) (nI r) (nI x)) (show ∀ E ∈ [eIO, eIO], E ∈ [eIO, eIA, eIS, eNS] by decide) (fun v σ1 h => by obtain ⟨x, y, -, -, -, -, -, rfl⟩ := h; exact zp_01)) cw_L_pair aw_18_9 aw_18_8 ⟨Nat.le_of_ble_eq_true rfl, Nat.le_of_ble_eq_true rfl⟩ (Nat.le_of_ble_eq_true rfl) (show _ ≤ 1944 ∧ _ ≤ 11664 from ⟨by omega, by omega⟩) (fun r9 τ8 hp => ?_)
              obtain ⟨hs8, -, rfl⟩ := s_tog hC hs7 hh hx hp
              refine wm_iconst (v := 1) 156 rfl dL_isSound_155 (by decide) ?_
              refine wm_icmp_eq 161 159 rfl (by decide) dL_isSound_156 (fun c156 => ?_) (fun c156 => ?_)
              · refine wm_iload 163 rfl dL_isSound_161 rfl ?_
                refine wm_iload 165 rfl dL_isSound_163 rfl ?_
                refine wm_icmp_ne 172 168 rfl (by decide) dL_isSound_165 (fun c165 => ?_) (fun c165 => ?_)
                · have hne : r ≠ x := fun q => c165 (by rw [q])
                  refine wm_aload_n 173 rfl dL_isSound_172 rfl rfl ?_
                  refine wm_iload 175 rfl dL_isSound_173 rfl ?_
                  refine wm_iload 177 rfl dL_isSound_175 rfl ?_
                  refine wm_iconst (v := 3) 178 rfl dL_isSound_177 (by decide) ?_
                  refine wl_callWi 181 rfl dL_isSound_178 (h_pair3 l (nI r) (nI x) (k_X4_step l hst (hs8.cIy hC.cI) (nI r) (nI x)) (show ∀ E ∈ [eIO, eIO, eIA, eNS], E ∈ [eIO, eIA, eIS, eNS] by decide)) cw_L_pair aw_18_9 aw_18_8 ⟨Nat.le_of_ble_eq_true rfl, Nat.le_of_ble_eq_true rfl⟩ (Nat.le_of_ble_eq_true rfl) (show _ ≤ 1944 ∧ _ ≤ 11664 from ⟨by omega, by omega⟩) (fun r9 τ9 hp => ?_)
                  obtain ⟨hs9, K, hK3, rfl, eK, mK⟩ := s_step hC hs8 hg hh hx hne ex.symm hp
                  refine wm_istore (ls' := [(8, _), (7, _), (6, _), (0, _), (1, _), (2, _), (3, _), (4, _), (5, _)]) 183 rfl dL_isSound_181 (by decide) rfl ?_
                  refine wm_iconst (v := 0) 184 rfl dL_isSound_183 (by decide) ?_
                  refine wm_istore (ls' := [(9, _), (8, _), (7, _), (6, _), (0, _), (1, _), (2, _), (3, _), (4, _), (5, _)]) 186 rfl dL_isSound_184 (by decide) rfl ?_
                  refine wm_loc (ls2 := [(0, _), (1, _), (2, _), (3, _), (4, _), (5, _), (7, _), (8, _), (9, _)]) [4, 5, 6, 7, 8, 9, 2, 1, 0] rfl ?_
                  first
                    | exact wl_widen (k1 := 81 * r + 17 + 8 * 0) (n1 := 486 * r + 102 + 48 * 0) (by omega) (by omega) (keys r hr hg hh kk x K hx hK3 (grs_keys hg hh.1 hx.1 hh hx hne hK3 eK mK) K 0 τ9 rfl (Nat.zero_le _) hs9)
                    | exact wl_widen (k1 := 81 * r + 17 + 8 * 0) (n1 := 486 * r + 102 + 48 * 0) (by omega) (by omega) (keys r hr hg hh kk x 0 hx (by omega) step_0 0 0 τ8 rfl (Nat.zero_le _) hs8)
                · refine wm_iconst (v := 0) 169 rfl dL_isSound_168 (by decide) ?_
                  refine wm_goto 181 (by decide) dL_isSound_169 ?_
                  refine wm_istore (ls' := [(8, _), (7, _), (6, _), (0, _), (1, _), (2, _), (3, _), (4, _), (5, _)]) 183 rfl dL_isSound_181 (by decide) rfl ?_
                  refine wm_iconst (v := 0) 184 rfl dL_isSound_183 (by decide) ?_
                  refine wm_istore (ls' := [(9, _), (8, _), (7, _), (6, _), (0, _), (1, _), (2, _), (3, _), (4, _), (5, _)]) 186 rfl dL_isSound_184 (by decide) rfl ?_
                  refine wm_loc (ls2 := [(0, _), (1, _), (2, _), (3, _), (4, _), (5, _), (7, _), (8, _), (9, _)]) [4, 5, 6, 7, 8, 9, 2, 1, 0] rfl ?_
                  first
                    | exact wl_widen (k1 := 81 * r + 17 + 8 * 0) (n1 := 486 * r + 102 + 48 * 0) (by omega) (by omega) (keys r hr hg hh kk x K hx hK3 (grs_keys hg hh.1 hx.1 hh hx hne hK3 eK mK) K 0 τ9 rfl (Nat.zero_le _) hs9)
                    | exact wl_widen (k1 := 81 * r + 17 + 8 * 0) (n1 := 486 * r + 102 + 48 * 0) (by omega) (by omega) (keys r hr hg hh kk x 0 hx (by omega) step_0 0 0 τ8 rfl (Nat.zero_le _) hs8)
              · exact absurd (zp_t ex.symm) c156
          · exact absurd rfl c116
  have tail : ∀ τ1 : Sg, stb σ τ1 → Wm (fun _ _ => True) l (rmx 10 1944 11664) RL cL_isSound 11 (some .boolean) D cT ad Lc (zA ad Lc.length sz) (zZl (fun D cT ad L9 sz => zQi D cT ad L9 sz (fun v σ1 => stb σ σ1 ∧ v = 1)) 1944 11664 D cT ad Lc sz) [] 344 [(0, .ref 0), (2, .int (nI (cq (THs σ n) 24))), (3, .int (nI (cq (hd σ n) 24)))] [] τ1 (81 * 24) (486 * 24) := by
    intro τ1 hs1
    refine wm_aload_n 345 rfl dL_isSound_344 rfl rfl ?_
    refine wm_callVi (ty := .int) 348 rfl dL_isSound_345 (k_X4_nextGhost l (hs1.cIy hC.cI) (hs1.cDy hC.cD) ) ca_X4_nextGhost cv_X4_nextGhost rfl aw_10_2 rfl rfl ⟨Nat.le_of_ble_eq_true rfl, Nat.le_of_ble_eq_true rfl⟩ (Nat.le_of_ble_eq_true rfl) (show _ ≤ 1944 ∧ _ ≤ 11664 from ⟨by omega, by omega⟩) ?_
    intro r9 τ2 hp
    obtain ⟨hs2, rfl, hN⟩ := s_ng hs1 hp
    refine wm_istore (ls' := [(4, _), (0, _), (2, _), (3, _)]) 350 rfl dL_isSound_348 (by decide) rfl ?_
    refine wm_iload_n 351 rfl dL_isSound_350 rfl rfl ?_
    refine wm_aload_n 352 rfl dL_isSound_351 rfl rfl ?_
    refine wm_callVi (ty := .int) 355 rfl dL_isSound_352 (k_X4_things l (hs2.cIy hC.cI) ) ca_X4_things cv_X4_things rfl aw_4_12 rfl rfl ⟨Nat.le_of_ble_eq_true rfl, Nat.le_of_ble_eq_true rfl⟩ (Nat.le_of_ble_eq_true rfl) (show _ ≤ 1944 ∧ _ ≤ 11664 from ⟨by omega, by omega⟩) ?_
    intro r9 τ3 hp
    obtain ⟨hs3, hg, rfl⟩ := s_things hs2 hp
    refine wm_icmp_ne 401 358 rfl (by decide) dL_isSound_355 (fun c355 => ?_) (fun c355 => ?_)
    · exact absurd (congrArg nI (cq_24 h24 (fun r hr => hr.1.1))) c355
    · refine wm_iload_n 359 rfl dL_isSound_358 rfl rfl ?_
      refine wm_aload_n 360 rfl dL_isSound_359 rfl rfl ?_
      refine wm_callVi (ty := .int) 363 rfl dL_isSound_360 (k_X4_records l) ca_X4_records cv_X4_records rfl aw_3_20 rfl rfl ⟨Nat.le_of_ble_eq_true rfl, Nat.le_of_ble_eq_true rfl⟩ (Nat.le_of_ble_eq_true rfl) (show _ ≤ 1944 ∧ _ ≤ 11664 from ⟨by omega, by omega⟩) ?_
      rintro r9 σ9 ⟨rfl, rfl⟩
      rw [hs3 1 (by omega)]
      refine wm_icmp_ne 401 366 rfl (by decide) dL_isSound_363 (fun c363 => ?_) (fun c363 => ?_)
      · exact absurd (congrArg nI hC.pop.symm) c363
      · refine wm_aload_n 367 rfl dL_isSound_366 rfl rfl ?_
        refine wm_callVi (ty := .int) 370 rfl dL_isSound_367 (k_X4_ghosts l (hs3.cIy hC.cI) (hs3.cDy hC.cD) ) ca_X4_ghosts cv_X4_ghosts rfl aw_9_12 rfl rfl ⟨Nat.le_of_ble_eq_true rfl, Nat.le_of_ble_eq_true rfl⟩ (Nat.le_of_ble_eq_true rfl) (show _ ≤ 1944 ∧ _ ≤ 11664 from ⟨by omega, by omega⟩) ?_
        intro r9 τ4 hp
        obtain ⟨hs4, rfl⟩ := s_ghosts hs3 hp
        refine wm_iload_n 371 rfl dL_isSound_370 rfl rfl ?_
        refine wm_icmp_gt 401 374 rfl (by decide) dL_isSound_371 (fun c371 => ?_) (fun c371 => ?_)
        · have q1 := cq_mono (P := fun h => mbr σ n (gC σ n 2) h h ∧ gho σ n (gC σ n 2) sn L d h) (Q := THs σ n) (n := n) (fun r _ q => q.1)
          have q2 := cq_le (THs σ n) n
          rw [cq_24 (P := THs σ n) h24 (fun r hr => hr.1.1)] at c371
          exact absurd (nI_gt c371 (by omega) (by omega)) (by omega)
        · refine wm_iload 376 rfl dL_isSound_374 rfl ?_
          refine wm_aload_n 377 rfl dL_isSound_376 rfl rfl ?_
          refine wm_callVi (ty := .int) 380 rfl dL_isSound_377 (k_X4_nextGhostByDays l (hs4.cIy hC.cI) (hs4.cDy hC.cD) ) ca_X4_nextGhostByDays cv_X4_nextGhostByDays rfl aw_21_9 rfl rfl ⟨Nat.le_of_ble_eq_true rfl, Nat.le_of_ble_eq_true rfl⟩ (Nat.le_of_ble_eq_true rfl) (show _ ≤ 1944 ∧ _ ≤ 11664 from ⟨by omega, by omega⟩) ?_
          intro r9 τ5 hp
          obtain ⟨hs5, rfl, -⟩ := s_ng hs4 hp
          refine wm_icmp_ne 401 383 rfl (by decide) dL_isSound_380 (fun c380 => ?_) (fun c380 => ?_)
          · exact absurd rfl c380
          · refine wm_iload 385 rfl dL_isSound_383 rfl ?_
            refine wm_if_lt 397 388 rfl (by decide) dL_isSound_385 (fun c385 => ?_) (fun c385 => ?_)
            · refine wm_iconst (v := 1) 398 rfl dL_isSound_397 (by decide) ?_
              refine wm_goto 402 (by decide) dL_isSound_398 ?_
              exact wll_iret dL_isSound_402 (by first | rfl | exact zp_nar) (⟨hs5, rfl⟩) (by omega) (by omega)
            · refine wm_iload 390 rfl dL_isSound_388 rfl ?_
              refine wm_aload_n 391 rfl dL_isSound_390 rfl rfl ?_
              refine wm_callVi (ty := .int) 394 rfl dL_isSound_391 (k_X4_today l) ca_X4_today cv_X4_today rfl aw_9_7 rfl rfl ⟨Nat.le_of_ble_eq_true rfl, Nat.le_of_ble_eq_true rfl⟩ (Nat.le_of_ble_eq_true rfl) (show _ ≤ 1944 ∧ _ ≤ 11664 from ⟨by omega, by omega⟩) ?_
              rintro r9 σ9 ⟨rfl, rfl⟩
              rw [hs5 0 (by omega), hC.cD.2.1]
              refine wm_icmp_le 401 397 rfl (by decide) dL_isSound_394 (fun c394 => ?_) (fun c394 => ?_)
              · exact absurd c394 (ng_in hN c385 hC.cD.2.2.1)
              · refine wm_iconst (v := 1) 398 rfl dL_isSound_397 (by decide) ?_
                refine wm_goto 402 (by decide) dL_isSound_398 ?_
                exact wll_iret dL_isSound_402 (by first | rfl | exact zp_nar) (⟨hs5, rfl⟩) (by omega) (by omega)
  have outer : ∀ (q r : Nat) (τ1 : Sg), 24 - r = q → r ≤ 24 → stb σ τ1 → Wm (fun _ _ => True) l (rmx 10 1944 11664) RL cL_isSound 11 (some .boolean) D cT ad Lc (zA ad Lc.length sz) (zZl (fun D cT ad L9 sz => zQi D cT ad L9 sz (fun v σ1 => stb σ σ1 ∧ v = 1)) 1944 11664 D cT ad Lc sz) [] 7 [(0, .ref 0), (1, .int (nI wn)), (2, .int (nI (cq (THs σ n) r))), (3, .int (nI (cq (hd σ n) r))), (4, .int (nI r))] [] τ1 (81 * r) (486 * r) := by
    intro q
    induction q with
    | zero =>
      intro r τ1 hm hr9 hs1
      have gr : r = 24 := by omega
      subst gr
      refine wm_iload 9 rfl dL_isSound_7 rfl ?_
      refine wm_bipush (v := 24) 11 rfl dL_isSound_9 (by decide) ?_
      refine wm_icmp_ge 344 14 rfl (by decide) dL_isSound_11 (fun c11 => ?_) (fun c11 => ?_)
      · refine wm_loc (ls2 := [(0, _), (2, _), (3, _)]) [0, 2, 3] rfl ?_
        exact tail τ1 hs1
      · exact absurd (show nI 24 ≤ nI 24 from Int32.le_refl _) c11
    | succ q ih =>
      intro r τ1 hm hr9 hs1
      have hr : r < 24 := by omega
      have next : ∀ (y : Int32) (τ9 : Sg), stb σ τ9 → Wm (fun _ _ => True) l (rmx 10 1944 11664) RL cL_isSound 11 (some .boolean) D cT ad Lc (zA ad Lc.length sz) (zZl (fun D cT ad L9 sz => zQi D cT ad L9 sz (fun v σ1 => stb σ σ1 ∧ v = 1)) 1944 11664 D cT ad Lc sz) [] 338 [(0, .ref 0), (1, .int (nI wn)), (2, .int (nI (cq (THs σ n) (r + 1)))), (3, .int (nI (cq (hd σ n) (r + 1)))), (4, .int (nI r)), (5, .int y)] [] τ9 (81 * r + 81) (486 * r + 486) := by
        intro y τ9 hs9
        refine wm_iinc (ls' := [(4, _), (0, _), (1, _), (2, _), (3, _), (5, _)]) 341 rfl dL_isSound_338 rfl (nI_inc _) (by decide) rfl ?_
        refine wm_goto 7 (by decide) dL_isSound_341 ?_
        refine wm_loc (ls2 := [(0, _), (1, _), (2, _), (3, _), (4, _)]) [1, 2, 3, 4, 0] rfl ?_
        exact wl_widen (k1 := 81 * (r + 1)) (n1 := 486 * (r + 1)) (by omega) (by omega) (ih (r + 1) τ9 (dn_s hm) hr hs9)
      refine wm_iload 9 rfl dL_isSound_7 rfl ?_
      refine wm_bipush (v := 24) 11 rfl dL_isSound_9 (by decide) ?_
      refine wm_icmp_ge 344 14 rfl (by decide) dL_isSound_11 (fun c11 => ?_) (fun c11 => ?_)
      · exact absurd (le_of_nI (a := 24) c11 (by omega) (by omega)) (by omega)
      · refine wm_aload_n 15 rfl dL_isSound_14 rfl rfl ?_
        refine wm_iload 17 rfl dL_isSound_15 rfl ?_
        refine wm_iconst (v := 3) 18 rfl dL_isSound_17 (by decide) ?_
        refine wl_callWi 21 rfl dL_isSound_18 (h_one3 l (nI r) (k_X4_thing l hst (hs1.cIy hC.cI) (nI r)) (show ∀ E ∈ [eIO], E ∈ [eIO] by decide)) cw_L_one aw_10_7 aw_10_6 ⟨Nat.le_of_ble_eq_true rfl, Nat.le_of_ble_eq_true rfl⟩ (Nat.le_of_ble_eq_true rfl) (show _ ≤ 1944 ∧ _ ≤ 11664 from ⟨by omega, by omega⟩) (fun r9 τ2 hp => ?_)
        obtain ⟨hs2, rfl, hgi⟩ := s_thing hC hs1 hr hp
        refine wm_istore (ls' := [(5, _), (0, _), (1, _), (2, _), (3, _), (4, _)]) 23 rfl dL_isSound_21 (by decide) rfl ?_
        refine wm_iload 25 rfl dL_isSound_23 rfl ?_
        refine wm_aload_n 26 rfl dL_isSound_25 rfl rfl ?_
        refine wm_iload 28 rfl dL_isSound_26 rfl ?_
        refine wm_iconst (v := 4) 29 rfl dL_isSound_28 (by decide) ?_
        refine wl_callWi 32 rfl dL_isSound_29 (h_one4 l (nI r) (k_X4_thingByRounds l hst (hs2.cIy hC.cI) (nI r)) (show ∀ E ∈ [eIO], E ∈ [eIO] by decide)) cw_L_one aw_10_7 aw_10_6 ⟨Nat.le_of_ble_eq_true rfl, Nat.le_of_ble_eq_true rfl⟩ (Nat.le_of_ble_eq_true rfl) (show _ ≤ 1944 ∧ _ ≤ 11664 from ⟨by omega, by omega⟩) (fun r9 τ3 hp => ?_)
        obtain ⟨hs3, rfl⟩ := s_rounds hC hs2 hr hgi hp
        refine wm_icmp_eq 37 35 rfl (by decide) dL_isSound_32 (fun c32 => ?_) (fun c32 => ?_)
        · refine wm_iload 39 rfl dL_isSound_37 rfl ?_
          refine wm_if_ge 45 42 rfl (by decide) dL_isSound_39 (fun c39 => ?_) (fun c39 => ?_)
          · have hh := fT_pos c39
            have hg := hgi hh
            rw [fT_t hh]
            refine wm_iinc (ls' := [(3, _), (5, _), (0, _), (1, _), (2, _), (4, _)]) 48 rfl dL_isSound_45 rfl (nI_inc _) (by decide) rfl ?_
            refine wm_iload_n 49 rfl dL_isSound_48 rfl rfl ?_
            refine wm_iload 51 rfl dL_isSound_49 rfl ?_
            refine wm_iload 53 rfl dL_isSound_51 rfl ?_
            refine wm_icmp_ne 60 56 rfl (by decide) dL_isSound_53 (fun c53 => ?_) (fun c53 => ?_)
            · have hne : gC σ n 2 r ≠ r := fun q => c53 (by rw [q])
              refine wm_iconst (v := 0) 61 rfl dL_isSound_60 (by decide) ?_
              refine wm_iadd 62 rfl dL_isSound_61 ?_
              refine wm_istore_n (ls' := [(2, _), (3, _), (5, _), (0, _), (1, _), (4, _)]) 63 rfl dL_isSound_62 rfl (by decide) rfl ?_
              refine wm_loc (ls2 := [(0, _), (1, _), (2, _), (3, _), (4, _), (5, _)]) [3, 4, 0, 1, 5, 2] rfl ?_
              first
                | rw [THs_t hh heq, hd_t hh]
                  exact wl_widen (k1 := 81 * r + 2) (n1 := 486 * r + 12) (by omega) (by omega) (rest r τ3 hr hg hh (next _) hs3)
                | rw [Int32.add_zero, THs_f (fun q => hne q.2), hd_t hh]
                  exact wl_widen (k1 := 81 * r + 2) (n1 := 486 * r + 12) (by omega) (by omega) (rest r τ3 hr hg hh (next _) hs3)
            · have heq : gC σ n 2 r = r := by have h1 := hg.lt hh.1; exact eq_of_nI c53 (by omega) (by omega)
              refine wm_iconst (v := 1) 57 rfl dL_isSound_56 (by decide) ?_
              refine wm_goto 61 (by decide) dL_isSound_57 ?_
              refine wm_iadd 62 rfl dL_isSound_61 ?_
              refine wm_istore_n (ls' := [(2, _), (3, _), (5, _), (0, _), (1, _), (4, _)]) 63 rfl dL_isSound_62 rfl (by decide) rfl ?_
              refine wm_loc (ls2 := [(0, _), (1, _), (2, _), (3, _), (4, _), (5, _)]) [3, 4, 0, 1, 5, 2] rfl ?_
              first
                | rw [THs_t hh heq, hd_t hh]
                  exact wl_widen (k1 := 81 * r + 2) (n1 := 486 * r + 12) (by omega) (by omega) (rest r τ3 hr hg hh (next _) hs3)
                | rw [Int32.add_zero, THs_f (fun q => hne q.2), hd_t hh]
                  exact wl_widen (k1 := 81 * r + 2) (n1 := 486 * r + 12) (by omega) (by omega) (rest r τ3 hr hg hh (next _) hs3)
          · have hh := fT_neg hgi h24 c39
            refine wm_goto 338 (by decide) dL_isSound_42 ?_
            refine wm_loc (ls2 := [(0, _), (1, _), (2, _), (3, _), (4, _), (5, _)]) [1, 2, 3, 4, 5, 0] rfl ?_
            rw [THs_f (fun q => hh q.1), hd_f hh]
            exact wl_widen (k1 := 81 * r + 81) (n1 := 486 * r + 486) (by omega) (by omega) (next _ τ3 hs3)
        · exact absurd rfl c32
  refine wm_iconst (v := 0) 1 rfl dL_isSound_0 (by decide) ?_
  refine wm_istore_n (ls' := [(2, _), (0, _), (1, _)]) 2 rfl dL_isSound_1 rfl (by decide) rfl ?_
  refine wm_iconst (v := 0) 3 rfl dL_isSound_2 (by decide) ?_
  refine wm_istore_n (ls' := [(3, _), (2, _), (0, _), (1, _)]) 4 rfl dL_isSound_3 rfl (by decide) rfl ?_
  refine wm_iconst (v := 0) 5 rfl dL_isSound_4 (by decide) ?_
  refine wm_istore (ls' := [(4, _), (3, _), (2, _), (0, _), (1, _)]) 7 rfl dL_isSound_5 (by decide) rfl ?_
  refine wm_loc (ls2 := [(0, _), (1, _), (2, _), (3, _), (4, _)]) [3, 4, 2, 1, 0] rfl ?_
  exact outer 24 0 τ rfl (by omega) hs0
