theorem cw_L_key : zCalW yL_key (Cond.codeWith yL_key cL_key 5 (some .int) [(0, 19, 20, 17), (0, 19, 26, 81)]) 4 := ⟨aw_13_3, aw_3_5, by decide +kernel, by decide +kernel, by decide +kernel⟩
theorem cw_L_fact : zCalW yL_fact (Cond.codeWith yL_fact cL_fact 5 (some .int) [(0, 33, 34, 17), (0, 33, 40, 81)]) 4 := ⟨aw_14_1, aw_3_5, by decide +kernel, by decide +kernel, by decide +kernel⟩
theorem cw_L_one : zCalW yL_one (Cond.codeWith yL_one cL_one 4 (some .int) [(0, 53, 110, 17), (54, 59, 110, 17), (60, 65, 110, 17), (66, 71, 110, 17), (72, 77, 110, 17), (78, 83, 110, 17), (84, 89, 110, 17), (90, 95, 110, 17), (96, 109, 110, 17)]) 3 := ⟨aw_10_8, aw_3_5, by decide +kernel, by decide +kernel, by decide +kernel⟩
theorem ca_X4_records : zCal yX4_records cX4_records 1 (some .int) 0 := ⟨aw_3_23, aw_1_2, by decide +kernel, by decide +kernel, by decide +kernel⟩
theorem cv_X4_records : zCaV RX4 yX4_records := ⟨aw_3_21, aw_3_22⟩
theorem ca_X4_things : zCal yX4_things cX4_things 1 (some .int) 0 := ⟨aw_4_15, aw_1_2, by decide +kernel, by decide +kernel, by decide +kernel⟩
theorem cv_X4_things : zCaV RX4 yX4_things := ⟨aw_4_13, aw_4_14⟩
theorem ca_X4_mark : zCal yX4_mark cX4_mark 6 (some .long) 0 := ⟨aw_8_22, aw_1_2, by decide +kernel, by decide +kernel, by decide +kernel⟩
theorem cv_X4_mark : zCaV RX4 yX4_mark := ⟨aw_8_20, aw_8_21⟩
theorem ca_X4_today : zCal yX4_today cX4_today 1 (some .int) 0 := ⟨aw_9_10, aw_1_2, by decide +kernel, by decide +kernel, by decide +kernel⟩
theorem cv_X4_today : zCaV RX4 yX4_today := ⟨aw_9_8, aw_9_9⟩
theorem ca_X4_ghosts : zCal yX4_ghosts cX4_ghosts 3 (some .int) 0 := ⟨aw_9_15, aw_1_2, by decide +kernel, by decide +kernel, by decide +kernel⟩
theorem cv_X4_ghosts : zCaV RX4 yX4_ghosts := ⟨aw_9_13, aw_9_14⟩
theorem ca_X4_nextGhost : zCal yX4_nextGhost cX4_nextGhost 4 (some .int) 0 := ⟨aw_10_5, aw_1_2, by decide +kernel, by decide +kernel, by decide +kernel⟩
theorem cv_X4_nextGhost : zCaV RX4 yX4_nextGhost := ⟨aw_10_3, aw_10_4⟩
/-! THE DIGEST: what it is of a memory -/
theorem dn_s {a j q : Nat} (h : a - j = q + 1) : a - (j + 1) = q := by omega
noncomputable def fMark (σ : Sg) (n : Nat) : Int64 := lN (sq (fun h => mbr σ n (gC σ n 2) h h) (fun h => cq (mbr σ n (gC σ n 2) h) n * cq (mbr σ n (gC σ n 2) h) n * sq (mbr σ n (gC σ n 2) h) (fun r => r) n + 1) n)
noncomputable def fGh (σ : Sg) (n : Nat) (sn : Nat → Nat) (d L : Nat) : Int32 := nI (cq (fun h => mbr σ n (gC σ n 2) h h ∧ gho σ n (gC σ n 2) sn L d h) n)
noncomputable def fNG (σ : Sg) (n : Nat) (sn : Nat → Nat) (d L : Nat) : Int32 := Classical.epsilon (NG σ n (gC σ n 2) sn d L n)
noncomputable def dgI (σ : Sg) (n : Nat) (sn : Nat → Nat) (d L : Nat) : Int64 := (((((nI (popc (σ 1 6))).toInt64 + 31 * (nI (cq (THs σ n) n)).toInt64) + 961 * fMark σ n) + 7 * (σ 0 4).toInt64) + 11 * (fGh σ n sn d L).toInt64) + 13 * (fNG σ n sn d L).toInt64
noncomputable def dgK (σ : Sg) (n r : Nat) (b : Int64) : Nat → Int64
  | 0 => b
  | k + 1 => (31 * dgK σ n r b k + (fKey σ n r k).toInt64) + 3 * (fFrom σ n r k).toInt64
noncomputable def dgR (σ : Sg) (n : Nat) (sn : Nat → Nat) (d L : Nat) : Nat → Int64
  | 0 => dgI σ n sn d L
  | r + 1 => dgK σ n r (((31 * dgR σ n sn d L r + (fSeen σ n r).toInt64) + 3 * (fThing σ n r).toInt64) + 5 * (fWei σ n r).toInt64) 3
section SB
variable {σ τ τ1 : Sg} {n m p d L : Nat} {sn : Nat → Nat} {v : Int32}
theorem s_things (hs : stb σ τ) (h : JD τ n τ1 ∧ v = nI (cq (fun h => mbr τ n (gC τ n 2) h h) n)) : stb σ τ1 ∧ GR σ n ∧ v = nI (cq (THs σ n) n) := by
  have hg := GR_stb hs h.1.gr
  exact ⟨hs.tr h.1.1, hg.1, h.2.trans (congrArg nI (THs_b hs hg.1))⟩
theorem s_mark (hs : stb σ τ) {v : Int64} (h : JD τ n τ1 ∧ v = lN (sq (fun h => mbr τ n (gC τ n 2) h h) (fun h => cq (mbr τ n (gC τ n 2) h) n * cq (mbr τ n (gC τ n 2) h) n * sq (mbr τ n (gC τ n 2) h) (fun r => r) n + 1) n)) : stb σ τ1 ∧ v = fMark σ n := by
  have hg := GR_stb hs h.1.gr
  refine ⟨hs.tr h.1.1, h.2.trans ?_⟩
  unfold fMark
  have e1 : ∀ x, cq (mbr τ n (gC τ n 2) x) n = cq (mbr σ n (gC σ n 2) x) n := fun x => cq_cong (fun r hr => mbr_b hs hg.1 x hr)
  have e2 : ∀ x, sq (mbr τ n (gC τ n 2) x) (fun r => r) n = sq (mbr σ n (gC σ n 2) x) (fun r => r) n := fun x => sq_cong (fun r hr => mbr_b hs hg.1 x hr) (fun _ _ _ => rfl)
  exact congrArg lN (sq_cong (fun r hr => mbr_b hs hg.1 r hr) (fun r _ _ => by rw [e1, e2]))
theorem lst_b (hs : stb σ τ) (hg : GR σ n) (x : Nat) : lst τ n (gC τ n 2) sn x = lst σ n (gC σ n 2) sn x := mxq_cong (fun r hr => mbr_b hs hg x hr) (fun _ _ => rfl)
theorem s_ghosts (hs : stb σ τ) (h : JD τ n τ1 ∧ v = nI (cq (fun h => mbr τ n (gC τ n 2) h h ∧ gho τ n (gC τ n 2) sn L d h) n)) : stb σ τ1 ∧ v = fGh σ n sn d L := by
  have hg := GR_stb hs h.1.gr
  refine ⟨hs.tr h.1.1, h.2.trans (congrArg nI (cq_cong (fun r hr => ?_)))⟩
  unfold gho
  rw [mbr_b hs hg.1 r hr, lst_b hs hg.1]
theorem NG_one {T T' : Nat → Prop} {ls ls' : Nat → Nat} {d L n : Nat} {v w : Int32} (hT : ∀ r, r < n → (T r ↔ T' r)) (hl : ∀ r, r < n → ls r = ls' r) (h1 : (v = -1 ∧ ∀ h, h < n → T h → ¬ (d < ls h + L + 1 ∧ ls h + L + 1 ≤ 999)) ∨ ∃ t, v = nI t ∧ t ≤ 999 ∧ d < t ∧ (∃ h, h < n ∧ T h ∧ t = ls h + L + 1) ∧ ∀ h, h < n → T h → d < ls h + L + 1 → t ≤ ls h + L + 1) (h2 : (w = -1 ∧ ∀ h, h < n → T' h → ¬ (d < ls' h + L + 1 ∧ ls' h + L + 1 ≤ 999)) ∨ ∃ t, w = nI t ∧ t ≤ 999 ∧ d < t ∧ (∃ h, h < n ∧ T' h ∧ t = ls' h + L + 1) ∧ ∀ h, h < n → T' h → d < ls' h + L + 1 → t ≤ ls' h + L + 1) : v = w := by
  rcases h1 with ⟨e1, h1⟩ | ⟨t, e1, ht, hd, ⟨x, hx, hx1, hx2⟩, hm⟩
  · rcases h2 with ⟨e2, -⟩ | ⟨u, e2, hu, hd2, ⟨y, hy, hy1, hy2⟩, -⟩
    · rw [e1, e2]
    · exact absurd ⟨by rw [hl y hy]; omega, by rw [hl y hy]; omega⟩ (h1 y hy ((hT y hy).mpr hy1))
  · rcases h2 with ⟨e2, h2⟩ | ⟨u, e2, hu, hd2, ⟨y, hy, hy1, hy2⟩, hm2⟩
    · exact absurd ⟨by rw [← hl x hx]; omega, by rw [← hl x hx]; omega⟩ (h2 x hx ((hT x hx).mp hx1))
    · have k1 := hm y hy ((hT y hy).mpr hy1) (by rw [hl y hy]; omega)
      have k2 := hm2 x hx ((hT x hx).mp hx1) (by rw [← hl x hx]; omega)
      rw [hl y hy] at k1
      rw [← hl x hx] at k2
      rw [e1, e2, show t = u by omega]
theorem NG_b (hs : stb σ τ) (hg : GR σ n) (h : NG τ n (gC τ n 2) sn d L n v) : NG σ n (gC σ n 2) sn d L n v := by
  unfold NG at h ⊢
  simp only [lst_b hs hg] at h
  rcases h with ⟨e, h⟩ | ⟨t, e, ht, hd, ⟨x, hx, hx1, hx2⟩, hm⟩
  · exact Or.inl ⟨e, fun r hr hm => h r hr ((mbr_b hs hg r hr).mpr hm)⟩
  · exact Or.inr ⟨t, e, ht, hd, ⟨x, hx, (mbr_b hs hg x hx).mp hx1, hx2⟩, fun r hr q => hm r hr ((mbr_b hs hg r hr).mpr q)⟩
theorem s_ng (hs : stb σ τ) (h : JD τ n τ1 ∧ NG τ n (gC τ n 2) sn d L n v) : stb σ τ1 ∧ v = fNG σ n sn d L ∧ NG σ n (gC σ n 2) sn d L n v := by
  have hg := GR_stb hs h.1.gr
  have h1 := NG_b hs hg.1 h.2
  have h2 : NG σ n (gC σ n 2) sn d L n (fNG σ n sn d L) := Classical.epsilon_spec ⟨v, h1⟩
  exact ⟨hs.tr h.1.1, NG_one (fun _ _ => Iff.rfl) (fun _ _ => rfl) h1 h2, h1⟩
end SB
theorem k_sum (l : Launch) (hst : l.stackTraces = false) {σ τ : Sg} {n m p d L : Nat} {sn : Nat → Nat} (hC : CI σ n m p d L sn) (hs0 : stb σ τ) : sMl l yL_sum cL_sum 5 10 432 2592 [.ref 0] τ (fun v σ1 => stb σ σ1 ∧ v = dgR σ n sn d L 24) := by
  have h24 := hC.n24
  refine lMet_of (by decide +kernel) (Nat.le_of_ble_eq_true rfl) (fun D cT ad sz => ?_)
  show Wm (fun _ _ => True) l (rmx 10 432 2592) RL cL_sum 5 (some .long) D cT ad Lc (zA ad Lc.length sz) (zZl (fun D cT ad L9 sz => zQl D cT ad L9 sz (fun v σ1 => stb σ σ1 ∧ v = dgR σ n sn d L 24)) 432 2592 D cT ad Lc sz) [] 0 (lv_args 0 [.ref 0]) [] τ 0 0
  have inner : GR σ n → ∀ (r : Nat) (b : Int64), r < 24 → (∀ τ1, stb σ τ1 → Wm (fun _ _ => True) l (rmx 10 432 2592) RL cL_sum 5 (some .long) D cT ad Lc (zA ad Lc.length sz) (zZl (fun D cT ad L9 sz => zQl D cT ad L9 sz (fun v σ1 => stb σ σ1 ∧ v = dgR σ n sn d L 24)) 432 2592 D cT ad Lc sz) [] 147 [(0, .ref 0), (1, .long (dgK σ n r b 3)), (3, .int (nI r)), (4, .int (nI 3))] [] τ1 (18 * r + 18) (108 * r + 108)) → ∀ (q j : Nat) (τ1 : Sg), 3 - j = q → j ≤ 3 → stb σ τ1 → Wm (fun _ _ => True) l (rmx 10 432 2592) RL cL_sum 5 (some .long) D cT ad Lc (zA ad Lc.length sz) (zZl (fun D cT ad L9 sz => zQl D cT ad L9 sz (fun v σ1 => stb σ σ1 ∧ v = dgR σ n sn d L 24)) 432 2592 D cT ad Lc sz) [] 105 [(0, .ref 0), (1, .long (dgK σ n r b j)), (3, .int (nI r)), (4, .int (nI j))] [] τ1 (18 * r + 3 + 5 * j) (108 * r + 18 + 30 * j) := by
    intro hg r b hr kk q
    induction q with
    | zero =>
      intro j τ1 hm hj hs1
      have gj : j = 3 := by omega
      subst gj
      refine wm_iload 107 rfl dL_sum_105 rfl ?_
      refine wm_iconst (v := 3) 108 rfl dL_sum_107 (by decide) ?_
      refine wm_icmp_ge 147 111 rfl (by decide) dL_sum_108 (fun c108 => ?_) (fun c108 => ?_)
      · exact kk τ1 hs1
      · exact absurd (show nI 3 ≤ nI 3 from Int32.le_refl _) c108
    | succ q ih =>
      intro j τ1 hm hj hs1
      have gj : j < 3 := by omega
      refine wm_iload 107 rfl dL_sum_105 rfl ?_
      refine wm_iconst (v := 3) 108 rfl dL_sum_107 (by decide) ?_
      refine wm_icmp_ge 147 111 rfl (by decide) dL_sum_108 (fun c108 => ?_) (fun c108 => ?_)
      · exact absurd (le_of_nI (a := 3) c108 (by omega) (by omega)) (by omega)
      · refine wm_ldc2 114 rfl dL_sum_111 aw_3_13 ?_
        refine wm_lload_n 115 rfl dL_sum_114 rfl rfl ?_
        refine wm_lmul 116 rfl dL_sum_115 ?_
        refine wm_aload_n 117 rfl dL_sum_116 rfl rfl ?_
        refine wm_iload_n 118 rfl dL_sum_117 rfl rfl ?_
        refine wm_iload 120 rfl dL_sum_118 rfl ?_
        refine wm_iconst (v := 0) 121 rfl dL_sum_120 (by decide) ?_
        refine wl_callWi 124 rfl dL_sum_121 (h_key0 l (nI r) (nI j) (k_X4_key l hst (hs1.cIy hC.cI) (nI r) (nI j)) (show ∀ E ∈ [eIO, eIO], E ∈ [eIO, eNS] by decide)) cw_L_key aw_13_2 aw_13_1 ⟨Nat.le_of_ble_eq_true rfl, Nat.le_of_ble_eq_true rfl⟩ (Nat.le_of_ble_eq_true rfl) (show _ ≤ 432 ∧ _ ≤ 2592 from ⟨by omega, by omega⟩) (fun r9 τ2 hp => ?_)
        obtain ⟨hs2, rfl⟩ := s_key hC hs1 hr gj hp
        refine wm_i2l 125 rfl dL_sum_124 ?_
        refine wm_ladd 126 rfl dL_sum_125 ?_
        refine wm_ldc2 129 rfl dL_sum_126 aw_3_18 ?_
        refine wm_aload_n 130 rfl dL_sum_129 rfl rfl ?_
        refine wm_iload_n 131 rfl dL_sum_130 rfl rfl ?_
        refine wm_iload 133 rfl dL_sum_131 rfl ?_
        refine wm_iconst (v := 2) 134 rfl dL_sum_133 (by decide) ?_
        refine wl_callWi 137 rfl dL_sum_134 (h_fact2 l (nI r) (nI j) (k_X4_factFrom l hst (hs2.cIy hC.cI) (hs2.cSy hC.cS) (nI r) (nI j)) (show ∀ E ∈ [eIO, eIO, eNS], E ∈ [eIO, eNS] by decide)) cw_L_fact aw_14_0 aw_13_23 ⟨Nat.le_of_ble_eq_true rfl, Nat.le_of_ble_eq_true rfl⟩ (Nat.le_of_ble_eq_true rfl) (show _ ≤ 432 ∧ _ ≤ 2592 from ⟨by omega, by omega⟩) (fun r9 τ3 hp => ?_)
        obtain ⟨hs3, rfl⟩ := s_from hC hs2 hg hr gj hp
        refine wm_i2l 138 rfl dL_sum_137 ?_
        refine wm_lmul 139 rfl dL_sum_138 ?_
        refine wm_ladd 140 rfl dL_sum_139 ?_
        refine wm_lstore_n (ls' := [(1, _), (0, _), (3, _), (4, _)]) 141 rfl dL_sum_140 rfl (by decide) rfl ?_
        refine wm_iinc (ls' := [(4, _), (1, _), (0, _), (3, _)]) 144 rfl dL_sum_141 rfl (nI_inc _) (by decide) rfl ?_
        refine wm_goto 105 (by decide) dL_sum_144 ?_
        refine wm_loc (ls2 := [(0, _), (1, _), (3, _), (4, _)]) [2, 1, 3, 0] rfl ?_
        refine wl_widen (k1 := 18 * r + 3 + 5 * (j + 1)) (n1 := 108 * r + 18 + 30 * (j + 1)) (by omega) (by omega) ?_
        exact ih (j + 1) τ3 (dn_s hm) gj hs3
  have outer : GR σ n → ∀ (q r : Nat) (τ1 : Sg), 24 - r = q → r ≤ 24 → stb σ τ1 → Wm (fun _ _ => True) l (rmx 10 432 2592) RL cL_sum 5 (some .long) D cT ad Lc (zA ad Lc.length sz) (zZl (fun D cT ad L9 sz => zQl D cT ad L9 sz (fun v σ1 => stb σ σ1 ∧ v = dgR σ n sn d L 24)) 432 2592 D cT ad Lc sz) [] 57 [(0, .ref 0), (1, .long (dgR σ n sn d L r)), (3, .int (nI r))] [] τ1 (18 * r) (108 * r) := by
    intro hg q
    induction q with
    | zero =>
      intro r τ1 hm hr9 hs1
      have gr : r = 24 := by omega
      subst gr
      refine wm_iload_n 58 rfl dL_sum_57 rfl rfl ?_
      refine wm_bipush (v := 24) 60 rfl dL_sum_58 (by decide) ?_
      refine wm_icmp_ge 153 63 rfl (by decide) dL_sum_60 (fun c60 => ?_) (fun c60 => ?_)
      · refine wm_lload_n 154 rfl dL_sum_153 rfl rfl ?_
        exact wll_lret dL_sum_154 (⟨hs1, rfl⟩) (by omega) (by omega)
      · exact absurd (show nI 24 ≤ nI 24 from Int32.le_refl _) c60
    | succ q ih =>
      intro r τ1 hm hr9 hs1
      have hr : r < 24 := by omega
      refine wm_iload_n 58 rfl dL_sum_57 rfl rfl ?_
      refine wm_bipush (v := 24) 60 rfl dL_sum_58 (by decide) ?_
      refine wm_icmp_ge 153 63 rfl (by decide) dL_sum_60 (fun c60 => ?_) (fun c60 => ?_)
      · exact absurd (le_of_nI (a := 24) c60 (by omega) (by omega)) (by omega)
      · refine wm_ldc2 66 rfl dL_sum_63 aw_3_13 ?_
        refine wm_lload_n 67 rfl dL_sum_66 rfl rfl ?_
        refine wm_lmul 68 rfl dL_sum_67 ?_
        refine wm_aload_n 69 rfl dL_sum_68 rfl rfl ?_
        refine wm_iload_n 70 rfl dL_sum_69 rfl rfl ?_
        refine wm_iconst (v := 2) 71 rfl dL_sum_70 (by decide) ?_
        refine wl_callWi 74 rfl dL_sum_71 (h_one2 l (nI r) (k_X4_seen l hst (hs1.cIy hC.cI) (nI r)) (show ∀ E ∈ [eIO], E ∈ [eIO] by decide)) cw_L_one aw_10_7 aw_10_6 ⟨Nat.le_of_ble_eq_true rfl, Nat.le_of_ble_eq_true rfl⟩ (Nat.le_of_ble_eq_true rfl) (show _ ≤ 432 ∧ _ ≤ 2592 from ⟨by omega, by omega⟩) (fun r9 τ2 hp => ?_)
        obtain ⟨hs2, rfl⟩ := s_seen hC hs1 hr hp
        refine wm_i2l 75 rfl dL_sum_74 ?_
        refine wm_ladd 76 rfl dL_sum_75 ?_
        refine wm_ldc2 79 rfl dL_sum_76 aw_3_18 ?_
        refine wm_aload_n 80 rfl dL_sum_79 rfl rfl ?_
        refine wm_iload_n 81 rfl dL_sum_80 rfl rfl ?_
        refine wm_iconst (v := 3) 82 rfl dL_sum_81 (by decide) ?_
        refine wl_callWi 85 rfl dL_sum_82 (h_one3 l (nI r) (k_X4_thing l hst (hs2.cIy hC.cI) (nI r)) (show ∀ E ∈ [eIO], E ∈ [eIO] by decide)) cw_L_one aw_10_7 aw_10_6 ⟨Nat.le_of_ble_eq_true rfl, Nat.le_of_ble_eq_true rfl⟩ (Nat.le_of_ble_eq_true rfl) (show _ ≤ 432 ∧ _ ≤ 2592 from ⟨by omega, by omega⟩) (fun r9 τ3 hp => ?_)
        obtain ⟨hs3, rfl, -⟩ := s_thing hC hs2 hr hp
        refine wm_i2l 86 rfl dL_sum_85 ?_
        refine wm_lmul 87 rfl dL_sum_86 ?_
        refine wm_ladd 88 rfl dL_sum_87 ?_
        refine wm_ldc2 91 rfl dL_sum_88 aw_3_19 ?_
        refine wm_aload_n 92 rfl dL_sum_91 rfl rfl ?_
        refine wm_iload_n 93 rfl dL_sum_92 rfl rfl ?_
        refine wm_bipush (v := 6) 95 rfl dL_sum_93 (by decide) ?_
        refine wl_callWi 98 rfl dL_sum_95 (h_one6 l (nI r) (k_X4_weight l hst (hs3.cIy hC.cI) (hs3.cSy hC.cS) (nI r)) (show ∀ E ∈ [eIO], E ∈ [eIO] by decide)) cw_L_one aw_10_7 aw_10_6 ⟨Nat.le_of_ble_eq_true rfl, Nat.le_of_ble_eq_true rfl⟩ (Nat.le_of_ble_eq_true rfl) (show _ ≤ 432 ∧ _ ≤ 2592 from ⟨by omega, by omega⟩) (fun r9 τ4 hp => ?_)
        obtain ⟨hs4, rfl⟩ := s_wei hC hs3 hr hp
        refine wm_i2l 99 rfl dL_sum_98 ?_
        refine wm_lmul 100 rfl dL_sum_99 ?_
        refine wm_ladd 101 rfl dL_sum_100 ?_
        refine wm_lstore_n (ls' := [(1, _), (0, _), (3, _)]) 102 rfl dL_sum_101 rfl (by decide) rfl ?_
        refine wm_iconst (v := 0) 103 rfl dL_sum_102 (by decide) ?_
        refine wm_istore (ls' := [(4, _), (1, _), (0, _), (3, _)]) 105 rfl dL_sum_103 (by decide) rfl ?_
        refine wm_loc (ls2 := [(0, _), (1, _), (3, _), (4, _)]) [2, 1, 3, 0] rfl ?_
        refine wl_widen (k1 := 18 * r + 3 + 5 * 0) (n1 := 108 * r + 18 + 30 * 0) (by omega) (by omega) ?_
        refine inner hg r _ hr (fun τ5 hs5 => ?_) 3 0 τ4 rfl (by omega) hs4
        clear hs1 hs2 hs3 hs4
        refine wm_iinc (ls' := [(3, _), (0, _), (1, _), (4, _)]) 150 rfl dL_sum_147 rfl (nI_inc _) (by decide) rfl ?_
        refine wm_goto 57 (by decide) dL_sum_150 ?_
        refine wm_loc (ls2 := [(0, _), (1, _), (3, _)]) [1, 2, 0] rfl ?_
        refine wl_widen (k1 := 18 * (r + 1)) (n1 := 108 * (r + 1)) (by omega) (by omega) ?_
        exact ih (r + 1) τ5 (dn_s hm) hr hs5
  refine wm_aload_n 1 rfl dL_sum_0 rfl rfl ?_
  refine wm_callVi (ty := .int) 4 rfl dL_sum_1 (k_X4_records l) ca_X4_records cv_X4_records rfl aw_3_20 rfl rfl ⟨Nat.le_of_ble_eq_true rfl, Nat.le_of_ble_eq_true rfl⟩ (Nat.le_of_ble_eq_true rfl) ⟨Nat.zero_le _, Nat.zero_le _⟩ ?_
  rintro r9 σ9 ⟨rfl, rfl⟩
  rw [hs0 1 (by omega)]
  refine wm_i2l 5 rfl dL_sum_4 ?_
  refine wm_ldc2 8 rfl dL_sum_5 aw_3_13 ?_
  refine wm_aload_n 9 rfl dL_sum_8 rfl rfl ?_
  refine wm_callVi (ty := .int) 12 rfl dL_sum_9 (k_X4_things l (hs0.cIy hC.cI) ) ca_X4_things cv_X4_things rfl aw_4_12 rfl rfl ⟨Nat.le_of_ble_eq_true rfl, Nat.le_of_ble_eq_true rfl⟩ (Nat.le_of_ble_eq_true rfl) ⟨Nat.zero_le _, Nat.zero_le _⟩ ?_
  intro r9 τ1 hp
  obtain ⟨hs1, hg, rfl⟩ := s_things hs0 hp
  refine wm_i2l 13 rfl dL_sum_12 ?_
  refine wm_lmul 14 rfl dL_sum_13 ?_
  refine wm_ladd 15 rfl dL_sum_14 ?_
  refine wm_ldc2 18 rfl dL_sum_15 aw_3_14 ?_
  refine wm_aload_n 19 rfl dL_sum_18 rfl rfl ?_
  refine wm_callVl 22 rfl dL_sum_19 (k_X4_mark l (hs1.cIy hC.cI) ) ca_X4_mark cv_X4_mark rfl aw_8_19 rfl rfl ⟨Nat.le_of_ble_eq_true rfl, Nat.le_of_ble_eq_true rfl⟩ (Nat.le_of_ble_eq_true rfl) ⟨Nat.zero_le _, Nat.zero_le _⟩ ?_
  intro r9 τ2 hp
  obtain ⟨hs2, rfl⟩ := s_mark hs1 hp
  refine wm_lmul 23 rfl dL_sum_22 ?_
  refine wm_ladd 24 rfl dL_sum_23 ?_
  refine wm_ldc2 27 rfl dL_sum_24 aw_3_15 ?_
  refine wm_aload_n 28 rfl dL_sum_27 rfl rfl ?_
  refine wm_callVi (ty := .int) 31 rfl dL_sum_28 (k_X4_today l) ca_X4_today cv_X4_today rfl aw_9_7 rfl rfl ⟨Nat.le_of_ble_eq_true rfl, Nat.le_of_ble_eq_true rfl⟩ (Nat.le_of_ble_eq_true rfl) ⟨Nat.zero_le _, Nat.zero_le _⟩ ?_
  rintro r9 σ9 ⟨rfl, rfl⟩
  rw [hs2 0 (by omega)]
  refine wm_i2l 32 rfl dL_sum_31 ?_
  refine wm_lmul 33 rfl dL_sum_32 ?_
  refine wm_ladd 34 rfl dL_sum_33 ?_
  refine wm_ldc2 37 rfl dL_sum_34 aw_3_16 ?_
  refine wm_aload_n 38 rfl dL_sum_37 rfl rfl ?_
  refine wm_callVi (ty := .int) 41 rfl dL_sum_38 (k_X4_ghosts l (hs2.cIy hC.cI) (hs2.cDy hC.cD) ) ca_X4_ghosts cv_X4_ghosts rfl aw_9_12 rfl rfl ⟨Nat.le_of_ble_eq_true rfl, Nat.le_of_ble_eq_true rfl⟩ (Nat.le_of_ble_eq_true rfl) ⟨Nat.zero_le _, Nat.zero_le _⟩ ?_
  intro r9 τ3 hp
  obtain ⟨hs3, rfl⟩ := s_ghosts hs2 hp
  refine wm_i2l 42 rfl dL_sum_41 ?_
  refine wm_lmul 43 rfl dL_sum_42 ?_
  refine wm_ladd 44 rfl dL_sum_43 ?_
  refine wm_ldc2 47 rfl dL_sum_44 aw_3_17 ?_
  refine wm_aload_n 48 rfl dL_sum_47 rfl rfl ?_
  refine wm_callVi (ty := .int) 51 rfl dL_sum_48 (k_X4_nextGhost l (hs3.cIy hC.cI) (hs3.cDy hC.cD) ) ca_X4_nextGhost cv_X4_nextGhost rfl aw_10_2 rfl rfl ⟨Nat.le_of_ble_eq_true rfl, Nat.le_of_ble_eq_true rfl⟩ (Nat.le_of_ble_eq_true rfl) ⟨Nat.zero_le _, Nat.zero_le _⟩ ?_
  intro r9 τ4 hp
  obtain ⟨hs4, rfl, -⟩ := s_ng hs3 hp
  refine wm_i2l 52 rfl dL_sum_51 ?_
  refine wm_lmul 53 rfl dL_sum_52 ?_
  refine wm_ladd 54 rfl dL_sum_53 ?_
  refine wm_lstore_n (ls' := [(1, _), (0, _)]) 55 rfl dL_sum_54 rfl (by decide) rfl ?_
  refine wm_iconst (v := 0) 56 rfl dL_sum_55 (by decide) ?_
  refine wm_istore_n (ls' := [(3, _), (1, _), (0, _)]) 57 rfl dL_sum_56 rfl (by decide) rfl ?_
  refine wm_loc (ls2 := [(0, _), (1, _), (3, _)]) [2, 1, 0] rfl ?_
  exact outer hg 24 0 τ4 rfl (by omega) hs4
