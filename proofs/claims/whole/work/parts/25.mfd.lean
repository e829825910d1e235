theorem ca_X5_clusters : zCal yX5_clusters cX5_clusters 5 none 1 := ⟨aw_19_10, aw_1_5, by decide +kernel, by decide +kernel, by decide +kernel⟩
theorem cv_X5_clusters : zCaV RX5 yX5_clusters := ⟨aw_19_8, aw_19_9⟩
theorem ca_X5_mayJoin : zCal yX5_mayJoin cX5_mayJoin 6 (some .boolean) 2 := ⟨aw_19_22, aw_1_5, by decide +kernel, by decide +kernel, by decide +kernel⟩
theorem cv_X5_mayJoin : zCaV RX5 yX5_mayJoin := ⟨aw_19_20, aw_19_21⟩
theorem ca_X5_joins : zCal yX5_joins cX5_joins 4 none 1 := ⟨aw_19_6, aw_1_5, by decide +kernel, by decide +kernel, by decide +kernel⟩
theorem cv_X5_joins : zCaV RX5 yX5_joins := ⟨aw_19_4, aw_19_5⟩
/-! THE MODEL: joins, finds, and what is asked of the groups -/
abbrev mjM (σ : Sg) (n p k : Nat) (c : Nat → Nat) (h : Nat) : Prop := mjq n (kyM σ) (fbM σ p) k (fun x => lvM σ n x ∧ c x = h)
noncomputable def gJ (σ : Sg) (n p k : Nat) (c g : Nat → Nat) (i r : Nat) : Nat := if dP (lvM σ n r ∧ c r < i ∧ mjM σ n p k c (c r)) then c r else g r
theorem gJ_t {σ : Sg} {n p k : Nat} {c g : Nat → Nat} {i r : Nat} (h : lvM σ n r ∧ c r < i ∧ mjM σ n p k c (c r)) : gJ σ n p k c g i r = c r := by unfold gJ; rw [dP_t.mpr h]; rfl
theorem gJ_f {σ : Sg} {n p k : Nat} {c g : Nat → Nat} {i r : Nat} (h : ¬ (lvM σ n r ∧ c r < i ∧ mjM σ n p k c (c r))) : gJ σ n p k c g i r = g r := by unfold gJ; rw [dP_f h]; rfl
theorem gJ_le {σ : Sg} {n p k : Nat} {c g : Nat → Nat} {i r : Nat} (h1 : c r ≤ r) (h2 : g r ≤ r) : gJ σ n p k c g i r ≤ r := by
  by_cases h : lvM σ n r ∧ c r < i ∧ mjM σ n p k c (c r)
  · rw [gJ_t h]; exact h1
  · rw [gJ_f h]; exact h2
/-- a number that heads no cluster that may join changes nothing -/
theorem gJ_same {σ : Sg} {n p k : Nat} {c g : Nat → Nat} {i r : Nat} (h : lvM σ n r → c r = i → ¬ mjM σ n p k c i) : gJ σ n p k c g (i + 1) r = gJ σ n p k c g i r := by
  by_cases h1 : lvM σ n r ∧ c r < i ∧ mjM σ n p k c (c r)
  · rw [gJ_t h1, gJ_t ⟨h1.1, by omega, h1.2.2⟩]
  · rw [gJ_f h1, gJ_f]
    rintro ⟨q1, q2, q3⟩
    by_cases e : c r = i
    · rw [e] at q3; exact h q1 e q3
    · exact h1 ⟨q1, by omega, q3⟩
theorem gJ_head {σ : Sg} {n k : Nat} {c g : Nat → Nat} {i r : Nat} (hc : Comp n (lkM σ n k g) c) (hg : LIq n (lvM σ n) g) (hl : lvM σ n r) (e : c r = i) : ct σ i ∧ c i = i := by
  have h1 := (hc.live hg hl.1).1 hl
  rw [e] at h1
  exact ⟨h1.2, by rw [← e]; exact hc.idem hl.1⟩
theorem gJ_stq {σ : Sg} {n p k : Nat} {c g : Nat → Nat} (hc : Comp n (lkM σ n k g) c) (hg : LIq n (lvM σ n) g) : stq n (lvM σ n) (kyM σ) (fbM σ p) k g (gJ σ n p k c g n) := by
  refine ⟨c, hc, fun r hr => ⟨fun hm => ?_, fun hm => gJ_f (fun q => hm q.2.2)⟩⟩
  by_cases hl : lvM σ n r
  · exact gJ_t ⟨hl, by have := hc.1 r hr; omega, hm⟩
  · rw [gJ_f (fun q => hl q.1), (hc.live hg hr).2 hl, (hg r hr).2.2.2 hl]
def st9 (σ τ : Sg) : Prop := ∀ a, a ≠ 9 → a ≠ 10 → τ a = σ a
theorem stM_9 {σ τ υ : Sg} (hs : stM σ τ) (h : st9 τ υ) : stM σ υ := fun a b h1 h2 h3 => by rw [h a h1 h2]; exact hs a b h1 h2 h3
def JM (σ τ : Sg) (n p k : Nat) (c g : Nat → Nat) (i j : Nat) (υ : Sg) : Prop := st9 τ υ ∧ lab υ 10 n c ∧ ∀ r, r < n → υ 9 r = nI (gJ σ n p k c g (if r < j then i + 1 else i) r)
theorem JM_lab {σ τ υ : Sg} {n p k i : Nat} {c g : Nat → Nat} (h : JM σ τ n p k c g i 0 υ) (hg : LIq n (lvM σ n) g) : lab υ 9 n (gJ σ n p k c g i) := fun r hr =>
  ⟨by have := h.2.2 r hr; simpa using this, gJ_le (h.2.1 r hr).2 (hg r hr).1⟩
theorem JM_next {σ τ υ : Sg} {n p k i : Nat} {c g : Nat → Nat} (h : JM σ τ n p k c g i n υ) : JM σ τ n p k c g (i + 1) 0 υ :=
  ⟨h.1, h.2.1, fun r hr => by have := h.2.2 r hr; rw [if_pos hr] at this; simpa using this⟩
theorem JM_none {σ τ υ : Sg} {n p k i : Nat} {c g : Nat → Nat} (h : JM σ τ n p k c g i 0 υ) (hn : ∀ r, r < n → lvM σ n r → c r = i → ¬ mjM σ n p k c i) : JM σ τ n p k c g (i + 1) 0 υ :=
  ⟨h.1, h.2.1, fun r hr => by have := h.2.2 r hr; simp at this ⊢; rw [this, gJ_same (hn r hr)]⟩
theorem JM_put {σ τ υ : Sg} {n p k i j : Nat} {c g : Nat → Nat} {v : Int32} (h : JM σ τ n p k c g i j υ) (hj : j < n) (hv : v = nI (gJ σ n p k c g (i + 1) j)) : JM σ τ n p k c g i (j + 1) (zu υ 9 j v) := by
  refine ⟨fun a h1 h2 => by rw [zu_ne _ _ _ h1]; exact h.1 a h1 h2, fun r hr => by rw [zu_ne _ _ _ (by decide)]; exact h.2.1 r hr, fun r hr => ?_⟩
  rw [zu_at]
  by_cases e : r = j
  · subst e; simp [upd, hv]
  · simp only [upd, if_neg e]
    rw [h.2.2 r hr]
    congr 2
    by_cases q : r < j
    · rw [if_pos q, if_pos (by omega)]
    · rw [if_neg q, if_neg (by omega)]
theorem k_X5_joins (l : Launch) {σ τ : Sg} (hs : stM σ τ) {n k p : Nat} (hI : mI σ n) (hP : mP σ p) (hQ : mQ σ n p) (hk : k < 3) {g : Nat → Nat} (hg : lab τ 9 n g) (hL : LIq n (lvM σ n) g) : cMv l yX5_joins cX5_joins 4 2 Lm [.ref 0, .int (nI k)] τ (fun σ1 => st9 τ σ1 ∧ ∃ g2, lab σ1 9 n g2 ∧ stq n (lvM σ n) (kyM σ) (fbM σ p) k g g2) := by
  have h24 := hI.2
  refine zMet_of (by decide +kernel) (Nat.le_of_ble_eq_true rfl) (fun D cT ad sz => ?_)
  show Wm (fun _ _ => True) l (rmh 2) RX5 cX5_joins 4 none D cT ad Lm (zA ad Lm.length sz) (zZ (fun D cT ad L9 sz => zQv D cT ad L9 sz (fun σ1 => st9 τ σ1 ∧ ∃ g2, lab σ1 9 n g2 ∧ stq n (lvM σ n) (kyM σ) (fbM σ p) k g g2)) D cT ad Lm sz) [] 0 (lv_args 0 [.ref 0, .int (nI k)]) [] τ 0 0
  refine wm_aload_n 1 rfl dX5_joins_0 rfl rfl ?_
  refine wm_iload_n 2 rfl dX5_joins_1 rfl rfl ?_
  refine wm_callVv 5 rfl dX5_joins_2 (k_X5_clusters l hs hI hk hg hL) ca_X5_clusters cv_X5_clusters rfl aw_19_7 rfl rfl ⟨Nat.le_of_ble_eq_true rfl, Nat.le_of_ble_eq_true rfl⟩ (Nat.le_of_ble_eq_true rfl) ⟨Nat.zero_le _, Nat.zero_le _⟩ ?_
  rintro υ0 ⟨ha0, c, hc0, hcomp⟩
  refine wm_iconst (v := 0) 6 rfl dX5_joins_5 (by decide) ?_
  refine wm_istore_n (ls' := [(2, _), (0, _), (1, _)]) 7 rfl dX5_joins_6 rfl (by decide) rfl ?_
  refine wm_loc (ls2 := [(0, _), (1, _), (2, _)]) [1, 2, 0] rfl ?_
  have lpo : ∀ (q9 i : Nat) (υ : Sg), n - i = q9 → i ≤ n → JM σ τ n p k c g i 0 υ → Wm (fun _ _ => True) l (rmh 2) RX5 cX5_joins 4 none D cT ad Lm (zA ad Lm.length sz) (zZ (fun D cT ad L9 sz => zQv D cT ad L9 sz (fun σ1 => st9 τ σ1 ∧ ∃ g2, lab σ1 9 n g2 ∧ stq n (lvM σ n) (kyM σ) (fbM σ p) k g g2)) D cT ad Lm sz) [] 7 [(0, .ref 0), (1, .int (nI k)), (2, .int (nI i))] [] υ 0 0 := by
    intro q9
    induction q9 using Nat.strongRecOn with
    | ind q9 ih =>
      intro i υ hmi hji hinv0
      have lpi : ∀ (q9 j : Nat) (υ : Sg), n - j = q9 → j ≤ n → i < n → ct σ i → c i = i → mjM σ n p k c i → JM σ τ n p k c g i j υ → Wm (fun _ _ => True) l (rmh 2) RX5 cX5_joins 4 none D cT ad Lm (zA ad Lm.length sz) (zZ (fun D cT ad L9 sz => zQv D cT ad L9 sz (fun σ1 => st9 τ σ1 ∧ ∃ g2, lab σ1 9 n g2 ∧ stq n (lvM σ n) (kyM σ) (fbM σ p) k g g2)) D cT ad Lm sz) [] 44 [(0, .ref 0), (1, .int (nI k)), (2, .int (nI i)), (3, .int (nI j))] [] υ 0 0 := by
        intro q9
        induction q9 using Nat.strongRecOn with
        | ind q9 ih2 =>
          intro j υ hmj hjj hin hct hci hmj hinv
          refine wm_iload_n 45 rfl dX5_joins_44 rfl rfl ?_
          refine wm_aload_n 46 rfl dX5_joins_45 rfl rfl ?_
          refine wm_getI 49 rfl dX5_joins_46 gf_X5_56_4 rfl rfl ?_
          refine wm_icmp_ge 92 52 rfl (by decide) dX5_joins_49 (fun c49 => ?_) (fun c49 => ?_)
          · rw [((stM_9 hs hinv.1).mI hI).1] at c49
            have gj : j = n := by have := le_of_nI c49 (by omega) (by omega); omega
            refine wm_iinc (ls' := [(2, _), (0, _), (1, _), (3, _)]) 95 rfl dX5_joins_92 rfl (nI_inc _) (by decide) rfl ?_
            refine wm_goto 7 (by decide) dX5_joins_95 ?_
            refine wm_loc (ls2 := [(0, _), (1, _), (2, _)]) [1, 2, 0] rfl ?_
            subst gj
            exact ih (j - (i + 1)) (by omega) (i + 1) _ rfl (by omega) (JM_next hinv)
          · rw [((stM_9 hs hinv.1).mI hI).1] at c49
            have gj : j < n := lt_of_nnI c49 (by omega) (by omega)
            refine wm_aload_n 53 rfl dX5_joins_52 rfl rfl ?_
            refine wm_getR 56 rfl dX5_joins_53 gf_X5_41_4 rfl rfl ?_
            refine wm_iload_n 57 rfl dX5_joins_56 rfl rfl ?_
            refine wm_aload_n 58 rfl dX5_joins_57 rfl rfl ?_
            refine wm_iload_n 59 rfl dX5_joins_58 rfl rfl ?_
            refine wm_callVi (ty := .boolean) 62 rfl dX5_joins_59 (k_X5_counts l (stM_9 hs hinv.1) (r := j) (by omega)) ca_X5_counts cv_X5_counts rfl aw_19_11 rfl rfl ⟨Nat.le_of_ble_eq_true rfl, Nat.le_of_ble_eq_true rfl⟩ (Nat.le_of_ble_eq_true rfl) ⟨Nat.zero_le _, Nat.zero_le _⟩ ?_
            rintro r9 σ9 ⟨rfl, rfl⟩
            refine wm_if_eq 79 65 rfl (by decide) dX5_joins_62 (fun c62 => ?_) (fun c62 => ?_)
            · refine wm_aload_n 80 rfl dX5_joins_79 rfl rfl ?_
              refine wm_getR 83 rfl dX5_joins_80 gf_X5_41_4 rfl rfl ?_
              refine wm_iload_n 84 rfl dX5_joins_83 rfl rfl ?_
              refine wm_iaload 85 rfl dX5_joins_84 rfl (in24 gj h24) ?_
              refine wm_iastore 86 rfl dX5_joins_85 rfl (in24 gj h24) ?_
              rw [nI_clamp (by omega)]
              refine wm_iinc (ls' := [(3, _), (0, _), (1, _), (2, _)]) 89 rfl dX5_joins_86 rfl (nI_inc _) (by decide) rfl ?_
              refine wm_goto 44 (by decide) dX5_joins_89 ?_
              refine wm_loc (ls2 := [(0, _), (1, _), (2, _), (3, _)]) [1, 2, 3, 0] rfl ?_
              refine ih2 (n - (j + 1)) (by omega) (j + 1) _ rfl (by omega) hin hct hci hmj (JM_put hinv gj ?_)
              first
                | (rw [hinv.2.2 j gj, if_neg (Nat.lt_irrefl j), gJ_same (fun q _ => absurd q.2 (zp_0.mp c62))]; done)
                | (rw [hinv.2.2 j gj, if_neg (Nat.lt_irrefl j), gJ_same (fun _ q => absurd (by rw [q]) c72)]; done)
                | (have e := eq_of_nI c72 (by omega) (by omega)
                   rw [gJ_t ⟨⟨gj, zp_n.mp c62⟩, by omega, by rw [e]; exact hmj⟩, e])
            · refine wm_aload_n 66 rfl dX5_joins_65 rfl rfl ?_
              refine wm_getR 69 rfl dX5_joins_66 gf_X5_44_4 rfl rfl ?_
              refine wm_iload_n 70 rfl dX5_joins_69 rfl rfl ?_
              refine wm_iaload 71 rfl dX5_joins_70 rfl (in24 gj h24) ?_
              refine wm_iload_n 72 rfl dX5_joins_71 rfl rfl ?_
              refine wm_icmp_ne 79 75 rfl (by decide) dX5_joins_72 (fun c72 => ?_) (fun c72 => ?_)
              · have hcj := (hinv.2.1 j gj).2
                rw [nI_clamp (by omega), (hinv.2.1 j gj).1] at c72
                refine wm_aload_n 80 rfl dX5_joins_79 rfl rfl ?_
                refine wm_getR 83 rfl dX5_joins_80 gf_X5_41_4 rfl rfl ?_
                refine wm_iload_n 84 rfl dX5_joins_83 rfl rfl ?_
                refine wm_iaload 85 rfl dX5_joins_84 rfl (in24 gj h24) ?_
                refine wm_iastore 86 rfl dX5_joins_85 rfl (in24 gj h24) ?_
                rw [nI_clamp (by omega)]
                refine wm_iinc (ls' := [(3, _), (0, _), (1, _), (2, _)]) 89 rfl dX5_joins_86 rfl (nI_inc _) (by decide) rfl ?_
                refine wm_goto 44 (by decide) dX5_joins_89 ?_
                refine wm_loc (ls2 := [(0, _), (1, _), (2, _), (3, _)]) [1, 2, 3, 0] rfl ?_
                refine ih2 (n - (j + 1)) (by omega) (j + 1) _ rfl (by omega) hin hct hci hmj (JM_put hinv gj ?_)
                first
                  | (rw [hinv.2.2 j gj, if_neg (Nat.lt_irrefl j), gJ_same (fun q _ => absurd q.2 (zp_0.mp c62))]; done)
                  | (rw [hinv.2.2 j gj, if_neg (Nat.lt_irrefl j), gJ_same (fun _ q => absurd (by rw [q]) c72)]; done)
                  | (have e := eq_of_nI c72 (by omega) (by omega)
                     rw [gJ_t ⟨⟨gj, zp_n.mp c62⟩, by omega, by rw [e]; exact hmj⟩, e])
              · have hcj := (hinv.2.1 j gj).2
                rw [nI_clamp (by omega), (hinv.2.1 j gj).1] at c72
                refine wm_iload_n 76 rfl dX5_joins_75 rfl rfl ?_
                refine wm_goto 85 (by decide) dX5_joins_76 ?_
                refine wm_iastore 86 rfl dX5_joins_85 rfl (in24 gj h24) ?_
                rw [nI_clamp (by omega)]
                refine wm_iinc (ls' := [(3, _), (0, _), (1, _), (2, _)]) 89 rfl dX5_joins_86 rfl (nI_inc _) (by decide) rfl ?_
                refine wm_goto 44 (by decide) dX5_joins_89 ?_
                refine wm_loc (ls2 := [(0, _), (1, _), (2, _), (3, _)]) [1, 2, 3, 0] rfl ?_
                refine ih2 (n - (j + 1)) (by omega) (j + 1) _ rfl (by omega) hin hct hci hmj (JM_put hinv gj ?_)
                first
                  | (rw [hinv.2.2 j gj, if_neg (Nat.lt_irrefl j), gJ_same (fun q _ => absurd q.2 (zp_0.mp c62))]; done)
                  | (rw [hinv.2.2 j gj, if_neg (Nat.lt_irrefl j), gJ_same (fun _ q => absurd (by rw [q]) c72)]; done)
                  | (have e := eq_of_nI c72 (by omega) (by omega)
                     rw [gJ_t ⟨⟨gj, zp_n.mp c62⟩, by omega, by rw [e]; exact hmj⟩, e])
      refine wm_iload_n 8 rfl dX5_joins_7 rfl rfl ?_
      refine wm_aload_n 9 rfl dX5_joins_8 rfl rfl ?_
      refine wm_getI 12 rfl dX5_joins_9 gf_X5_56_4 rfl rfl ?_
      refine wm_icmp_ge 98 15 rfl (by decide) dX5_joins_12 (fun c12 => ?_) (fun c12 => ?_)
      · rw [((stM_9 hs hinv0.1).mI hI).1] at c12
        have gi : i = n := by have := le_of_nI c12 (by omega) (by omega); omega
        exact wm_vret dX5_joins_98 (by subst gi; exact ⟨hinv0.1, _, JM_lab hinv0 hL, gJ_stq hcomp hL⟩)
      · rw [((stM_9 hs hinv0.1).mI hI).1] at c12
        have gi : i < n := lt_of_nnI c12 (by omega) (by omega)
        refine wm_aload_n 16 rfl dX5_joins_15 rfl rfl ?_
        refine wm_iload_n 17 rfl dX5_joins_16 rfl rfl ?_
        refine wm_callVi (ty := .boolean) 20 rfl dX5_joins_17 (k_X5_counts l (stM_9 hs hinv0.1) (r := i) (by omega)) ca_X5_counts cv_X5_counts rfl aw_19_11 rfl rfl ⟨Nat.le_of_ble_eq_true rfl, Nat.le_of_ble_eq_true rfl⟩ (Nat.le_of_ble_eq_true rfl) ⟨Nat.zero_le _, Nat.zero_le _⟩ ?_
        rintro r9 σ9 ⟨rfl, rfl⟩
        refine wm_if_eq 92 23 rfl (by decide) dX5_joins_20 (fun c20 => ?_) (fun c20 => ?_)
        · refine wm_iinc (ls' := [(2, _), (0, _), (1, _)]) 95 rfl dX5_joins_92 rfl (nI_inc _) (by decide) rfl ?_
          refine wm_goto 7 (by decide) dX5_joins_95 ?_
          refine wm_loc (ls2 := [(0, _), (1, _), (2, _)]) [1, 2, 0] rfl ?_
          refine ih (n - (i + 1)) (by omega) (i + 1) _ rfl (by omega) (JM_none hinv0 (fun r hr hl e hm => ?_))
          have hh := gJ_head hcomp hL hl e
          first
            | exact zp_0.mp c20 hh.1
            | exact c30 (by rw [hh.2])
            | exact zp_0.mp c39 hm
        · refine wm_aload_n 24 rfl dX5_joins_23 rfl rfl ?_
          refine wm_getR 27 rfl dX5_joins_24 gf_X5_44_4 rfl rfl ?_
          refine wm_iload_n 28 rfl dX5_joins_27 rfl rfl ?_
          refine wm_iaload 29 rfl dX5_joins_28 rfl (in24 gi h24) ?_
          refine wm_iload_n 30 rfl dX5_joins_29 rfl rfl ?_
          refine wm_icmp_ne 92 33 rfl (by decide) dX5_joins_30 (fun c30 => ?_) (fun c30 => ?_)
          · have hci9 := (hinv0.2.1 i gi).2
            rw [nI_clamp (by omega), (hinv0.2.1 i gi).1] at c30
            refine wm_iinc (ls' := [(2, _), (0, _), (1, _)]) 95 rfl dX5_joins_92 rfl (nI_inc _) (by decide) rfl ?_
            refine wm_goto 7 (by decide) dX5_joins_95 ?_
            refine wm_loc (ls2 := [(0, _), (1, _), (2, _)]) [1, 2, 0] rfl ?_
            refine ih (n - (i + 1)) (by omega) (i + 1) _ rfl (by omega) (JM_none hinv0 (fun r hr hl e hm => ?_))
            have hh := gJ_head hcomp hL hl e
            first
              | exact zp_0.mp c20 hh.1
              | exact c30 (by rw [hh.2])
              | exact zp_0.mp c39 hm
          · have hci9 := (hinv0.2.1 i gi).2
            rw [nI_clamp (by omega), (hinv0.2.1 i gi).1] at c30
            refine wm_aload_n 34 rfl dX5_joins_33 rfl rfl ?_
            refine wm_iload_n 35 rfl dX5_joins_34 rfl rfl ?_
            refine wm_iload_n 36 rfl dX5_joins_35 rfl rfl ?_
            refine wm_callVi (ty := .boolean) 39 rfl dX5_joins_36 (k_X5_mayJoin l (stM_9 hs hinv0.1) hI hP hQ hk hinv0.2.1 (h := i) gi) ca_X5_mayJoin cv_X5_mayJoin rfl aw_19_19 rfl rfl ⟨Nat.le_of_ble_eq_true rfl, Nat.le_of_ble_eq_true rfl⟩ (Nat.le_of_ble_eq_true rfl) ⟨Nat.zero_le _, Nat.zero_le _⟩ ?_
            rintro r9 σ9 ⟨rfl, rfl⟩
            refine wm_if_eq 92 42 rfl (by decide) dX5_joins_39 (fun c39 => ?_) (fun c39 => ?_)
            · refine wm_iinc (ls' := [(2, _), (0, _), (1, _)]) 95 rfl dX5_joins_92 rfl (nI_inc _) (by decide) rfl ?_
              refine wm_goto 7 (by decide) dX5_joins_95 ?_
              refine wm_loc (ls2 := [(0, _), (1, _), (2, _)]) [1, 2, 0] rfl ?_
              refine ih (n - (i + 1)) (by omega) (i + 1) _ rfl (by omega) (JM_none hinv0 (fun r hr hl e hm => ?_))
              have hh := gJ_head hcomp hL hl e
              first
                | exact zp_0.mp c20 hh.1
                | exact c30 (by rw [hh.2])
                | exact zp_0.mp c39 hm
            · refine wm_iconst (v := 0) 43 rfl dX5_joins_42 (by decide) ?_
              refine wm_istore_n (ls' := [(3, _), (0, _), (1, _), (2, _)]) 44 rfl dX5_joins_43 rfl (by decide) rfl ?_
              refine wm_loc (ls2 := [(0, _), (1, _), (2, _), (3, _)]) [1, 2, 3, 0] rfl ?_
              exact lpi n 0 υ rfl (Nat.zero_le _) gi (zp_n.mp c20) (eq_of_nI c30 (by omega) (by omega)) (zp_n.mp c39) hinv0
  exact lpo n 0 υ0 rfl (Nat.zero_le _) ⟨fun a h9 h10 => ha0 a h10, hc0, fun r hr => by rw [ha0 9 (by decide), (hg r hr).1, if_neg (Nat.not_lt_zero r), gJ_f (fun q => Nat.not_lt_zero _ q.2.1)]⟩
theorem gbN_L {n : Nat} {lv : Nat → Prop} {ky : Nat → Nat → Int32} {fb : Nat → Nat → Prop} {k : Nat} {g : Nat → Nat → Nat} (h : ∀ s, s < k → stq n lv ky fb s (gbN g s) (g s)) : ∀ s, s ≤ k → LIq n lv (gbN g s)
  | 0, _ => LIq_id _ _
  | s + 1, hs => stq_LI (h s (by omega)) (gbN_L h s (by omega))
/-- the groups behind each of the first k steps -/
def chn (n : Nat) (lv : Nat → Prop) (ky : Nat → Nat → Int32) (fb : Nat → Nat → Prop) (k : Nat) (g : Nat → Nat → Nat) : Prop := ∀ s, s < k → stq n lv ky fb s (gbN g s) (g s)
theorem chn_put {n : Nat} {lv : Nat → Prop} {ky : Nat → Nat → Int32} {fb : Nat → Nat → Prop} {k : Nat} {g : Nat → Nat → Nat} {g2 : Nat → Nat} (h : chn n lv ky fb k g) (h2 : stq n lv ky fb k (gbN g k) g2) : ∃ g', chn n lv ky fb (k + 1) g' ∧ gbN g' (k + 1) = g2 := by
  refine ⟨fun s => if s = k then g2 else g s, fun s hs => ?_, ?_⟩
  · have eg : ∀ t, t ≤ k → gbN (fun s => if s = k then g2 else g s) t = gbN g t := by
      intro t ht
      cases t with
      | zero => rfl
      | succ t => show (if t = k then _ else g t) = g t; rw [if_neg (by omega)]
    by_cases e : s = k
    · subst e
      rw [eg s (Nat.le_refl _)]
      simp only [if_true]
      exact h2
    · rw [eg s (by omega)]
      simp only [if_neg e]
      exact h s (by omega)
  · show (if k = k then g2 else g k) = g2
    rw [if_pos rfl]
noncomputable def gM (σ : Sg) (n p : Nat) : Nat → Nat → Nat := gq n (lvM σ n) (kyM σ) (fbM σ p)
abbrev chM (σ : Sg) (n p k : Nat) (g : Nat → Nat → Nat) : Prop := chn n (lvM σ n) (kyM σ) (fbM σ p) k g
def fM (σ : Sg) (n p : Nat) (τ υ : Sg) : Prop := st9 τ υ ∧ stM σ υ ∧ grs n (lvM σ n) (kyM σ) (fbM σ p) (gM σ n p) ∧ lab υ 9 n (gM σ n p 2)
theorem fM_of {σ τ υ : Sg} {n p : Nat} (hs : stM σ τ) (h1 : st9 τ υ) {g : Nat → Nat → Nat} (h2 : chM σ n p 3 g) (h3 : lab υ 9 n (g 2)) : fM σ n p τ υ := by
  have hg : grs n (lvM σ n) (kyM σ) (fbM σ p) g := ⟨h2 0 (by omega), h2 1 (by omega), h2 2 (by omega)⟩
  refine ⟨h1, stM_9 hs h1, gq_grs hg, fun r hr => ?_⟩
  unfold gM
  rw [← gq_eq hg 2 r (by omega) hr]
  exact h3 r hr
theorem k_X5_finds (l : Launch) {σ τ : Sg} (hs : stM σ τ) {n p : Nat} (hI : mI σ n) (hP : mP σ p) (hQ : mQ σ n p) {m : Nat} (hm : m < 3) : cMv l yX5_finds cX5_finds 3 3 Lm [.ref 0, .int (nI m)] τ (fun σ1 => st9 τ σ1 ∧ ∃ g, chM σ n p (m + 1) g ∧ lab σ1 9 n (g m)) := by
  have h24 := hI.2
  refine zMet_of (by decide +kernel) (Nat.le_of_ble_eq_true rfl) (fun D cT ad sz => ?_)
  show Wm (fun _ _ => True) l (rmh 3) RX5 cX5_finds 3 none D cT ad Lm (zA ad Lm.length sz) (zZ (fun D cT ad L9 sz => zQv D cT ad L9 sz (fun σ1 => st9 τ σ1 ∧ ∃ g, chM σ n p (m + 1) g ∧ lab σ1 9 n (g m))) D cT ad Lm sz) [] 0 (lv_args 0 [.ref 0, .int (nI m)]) [] τ 0 0
  have lpk : ∀ (q9 k : Nat) (υ : Sg), (m + 1) - k = q9 → k ≤ (m + 1) → st9 τ υ ∧ (∃ g, chM σ n p k g ∧ lab υ 9 n (gbN g k)) → Wm (fun _ _ => True) l (rmh 3) RX5 cX5_finds 3 none D cT ad Lm (zA ad Lm.length sz) (zZ (fun D cT ad L9 sz => zQv D cT ad L9 sz (fun σ1 => st9 τ σ1 ∧ ∃ g, chM σ n p (m + 1) g ∧ lab σ1 9 n (g m))) D cT ad Lm sz) [] 25 [(0, .ref 0), (1, .int (nI m)), (2, .int (nI k))] [] υ 0 0 := by
    intro q9
    induction q9 using Nat.strongRecOn with
    | ind q9 ih =>
      intro k υ hmk hjk hinv
      refine wm_iload_n 26 rfl dX5_finds_25 rfl rfl ?_
      refine wm_iload_n 27 rfl dX5_finds_26 rfl rfl ?_
      refine wm_icmp_gt 41 30 rfl (by decide) dX5_finds_27 (fun c27 => ?_) (fun c27 => ?_)
      · have gk : k = m + 1 := by have := nI_gt c27 (by omega) (by omega); omega
        exact wm_vret dX5_finds_41 (by subst gk; exact hinv)
      · have gk : k ≤ m := nI_ngt c27 (by omega) (by omega)
        refine wm_aload_n 31 rfl dX5_finds_30 rfl rfl ?_
        refine wm_iload_n 32 rfl dX5_finds_31 rfl rfl ?_
        obtain ⟨g, hch, hlg⟩ := hinv.2
        refine wm_callVv 35 rfl dX5_finds_32 (k_X5_joins l (stM_9 hs hinv.1) hI hP hQ (by omega) hlg (gbN_L hch k (Nat.le_refl _))) ca_X5_joins cv_X5_joins rfl aw_19_3 rfl rfl ⟨Nat.le_of_ble_eq_true rfl, Nat.le_of_ble_eq_true rfl⟩ (Nat.le_of_ble_eq_true rfl) ⟨Nat.zero_le _, Nat.zero_le _⟩ ?_
        rintro υ2 ⟨h9, g2, hl2, hst⟩
        refine wm_iinc (ls' := [(2, _), (0, _), (1, _)]) 38 rfl dX5_finds_35 rfl (nI_inc _) (by decide) rfl ?_
        refine wm_goto 25 (by decide) dX5_finds_38 ?_
        refine wm_loc (ls2 := [(0, _), (1, _), (2, _)]) [1, 2, 0] rfl ?_
        obtain ⟨g3, hc3, he3⟩ := chn_put hch hst
        exact ih (m + 1 - (k + 1)) (by omega) (k + 1) _ rfl (by omega) ⟨fun a h1 h2 => (h9 a h1 h2).trans (hinv.1 a h1 h2), g3, hc3, by rw [he3]; exact hl2⟩
  have lp1 : ∀ (q9 j : Nat) (υ : Sg), n - j = q9 → j ≤ n → st9 τ υ ∧ (∀ r, r < j → υ 9 r = nI r) → Wm (fun _ _ => True) l (rmh 3) RX5 cX5_finds 3 none D cT ad Lm (zA ad Lm.length sz) (zZ (fun D cT ad L9 sz => zQv D cT ad L9 sz (fun σ1 => st9 τ σ1 ∧ ∃ g, chM σ n p (m + 1) g ∧ lab σ1 9 n (g m))) D cT ad Lm sz) [] 2 [(0, .ref 0), (1, .int (nI m)), (2, .int (nI j))] [] υ 0 0 := by
    intro q9
    induction q9 using Nat.strongRecOn with
    | ind q9 ih =>
      intro j υ hmj hjj hinv
      refine wm_iload_n 3 rfl dX5_finds_2 rfl rfl ?_
      refine wm_aload_n 4 rfl dX5_finds_3 rfl rfl ?_
      refine wm_getI 7 rfl dX5_finds_4 gf_X5_56_4 rfl rfl ?_
      refine wm_icmp_ge 23 10 rfl (by decide) dX5_finds_7 (fun c7 => ?_) (fun c7 => ?_)
      · rw [((stM_9 hs hinv.1).mI hI).1] at c7
        have gj : j = n := by have := le_of_nI c7 (by omega) (by omega); omega
        refine wm_iconst (v := 0) 24 rfl dX5_finds_23 (by decide) ?_
        refine wm_istore_n (ls' := [(2, _), (0, _), (1, _)]) 25 rfl dX5_finds_24 rfl (by decide) rfl ?_
        refine wm_loc (ls2 := [(0, _), (1, _), (2, _)]) [1, 2, 0] rfl ?_
        exact lpk _ 0 υ rfl (Nat.zero_le _) ⟨hinv.1, fun _ r => r, fun s hs => absurd hs (Nat.not_lt_zero s), fun r hr => ⟨hinv.2 r (by omega), Nat.le_refl _⟩⟩
      · rw [((stM_9 hs hinv.1).mI hI).1] at c7
        have gj : j < n := lt_of_nnI c7 (by omega) (by omega)
        refine wm_aload_n 11 rfl dX5_finds_10 rfl rfl ?_
        refine wm_getR 14 rfl dX5_finds_11 gf_X5_41_4 rfl rfl ?_
        refine wm_iload_n 15 rfl dX5_finds_14 rfl rfl ?_
        refine wm_iload_n 16 rfl dX5_finds_15 rfl rfl ?_
        refine wm_iastore 17 rfl dX5_finds_16 rfl (in24 gj h24) ?_
        rw [nI_clamp (by omega)]
        refine wm_iinc (ls' := [(2, _), (0, _), (1, _)]) 20 rfl dX5_finds_17 rfl (nI_inc _) (by decide) rfl ?_
        refine wm_goto 2 (by decide) dX5_finds_20 ?_
        refine wm_loc (ls2 := [(0, _), (1, _), (2, _)]) [1, 2, 0] rfl ?_
        refine ih (n - (j + 1)) (by omega) (j + 1) _ rfl (by omega) ⟨fun a h1 h2 => by rw [zu_ne _ _ _ h1]; exact hinv.1 a h1 h2, fun r hr => ?_⟩
        rw [zu_at]
        by_cases e : r = j
        · subst e; simp [upd]
        · simp only [upd, if_neg e]
          exact hinv.2 r (by omega)
  refine wm_iconst (v := 0) 1 rfl dX5_finds_0 (by decide) ?_
  refine wm_istore_n (ls' := [(2, _), (0, _), (1, _)]) 2 rfl dX5_finds_1 rfl (by decide) rfl ?_
  refine wm_loc (ls2 := [(0, _), (1, _), (2, _)]) [1, 2, 0] rfl ?_
  exact lp1 n 0 τ rfl (Nat.zero_le _) ⟨fun _ _ _ => rfl, fun r hr => absurd hr (Nat.not_lt_zero r)⟩
theorem vpost {l : Launch} {y : MethodName} {ws : List Cond} {rm : Room} {Pc : Array Value → State → Prop} {p1 p2 : Sg → Prop} {B : Sg → State → Prop} {A : Nat → Prop} (h : Met l y ws rm Pc (va_Qv p1 B A) 0 0 A) (hp : ∀ σ, p1 σ → p2 σ) : Met l y ws rm Pc (va_Qv p2 B A) 0 0 A := by
  intro p e ha hc hk s m args below hf hap hP hK
  obtain ⟨n, o, h1, h2, h3, h4⟩ := h p e ha hc hk s m args below hf hap hP hK
  refine ⟨n, o, h1, h2, h3, ?_⟩
  obtain ⟨⟨⟨u, e1, e2, e3⟩, h6⟩, h7⟩ := h4
  exact ⟨⟨⟨u, e1, hp u e2, e3⟩, h6⟩, h7⟩
theorem k_finds2 (l : Launch) {σ τ : Sg} (hs : stM σ τ) {n p : Nat} (hI : mI σ n) (hP : mP σ p) (hQ : mQ σ n p) : cMv l yX5_finds cX5_finds 3 3 Lm [.ref 0, .int (nI 2)] τ (fun σ1 => fM σ n p τ σ1) := by
  have h := k_X5_finds l hs hI hP hQ (m := 2) (by omega)
  intro D cT ad sz
  refine vpost (h D cT ad sz) ?_
  rintro σ1 ⟨h1, g, h2, h3⟩
  exact fM_of hs h1 h2 h3
def mbM (σ : Sg) (n : Nat) (g : Nat → Nat) (h r : Nat) : Prop := lvM σ n r ∧ g r = h
theorem k_X5_isOf (l : Launch) {σ τ : Sg} (hs : stM σ τ) {n : Nat} (hn : n ≤ 24) {g : Nat → Nat} (hg : lab τ 9 n g) {r h : Nat} (hr : r < n) (hh : h < n) : cMi l yX5_isOf cX5_isOf 3 .boolean 1 Lm [.ref 0, .int (nI r), .int (nI h)] τ (pP τ (zp (mbM σ n g h r))) := by
  refine zMet_of (by decide +kernel) (Nat.le_of_ble_eq_true rfl) (fun D cT ad sz => ?_)
  show Wm (fun _ _ => True) l (rmh 1) RX5 cX5_isOf 3 (some .boolean) D cT ad Lm (zA ad Lm.length sz) (zZ (fun D cT ad L9 sz => zQi D cT ad L9 sz (pP τ (zp (mbM σ n g h r)))) D cT ad Lm sz) [] 0 (lv_args 0 [.ref 0, .int (nI r), .int (nI h)]) [] τ 0 0
  refine wm_aload_n 1 rfl dX5_isOf_0 rfl rfl ?_
  refine wm_iload_n 2 rfl dX5_isOf_1 rfl rfl ?_
  refine wm_callVi (ty := .boolean) 5 rfl dX5_isOf_2 (k_X5_counts l hs (r := r) (by omega)) ca_X5_counts cv_X5_counts rfl aw_19_11 rfl rfl ⟨Nat.le_of_ble_eq_true rfl, Nat.le_of_ble_eq_true rfl⟩ (Nat.le_of_ble_eq_true rfl) ⟨Nat.zero_le _, Nat.zero_le _⟩ ?_
  rintro r9 σ9 ⟨rfl, rfl⟩
  refine wm_if_eq 22 8 rfl (by decide) dX5_isOf_5 (fun c5 => ?_) (fun c5 => ?_)
  · refine wm_iconst (v := 0) 23 rfl dX5_isOf_22 (by decide) ?_
    exact wm_iret dX5_isOf_23 (by first | rfl | exact zp_nar) (pP_i (zp_f (fun q => zp_0.mp c5 q.1.2)))
  · refine wm_aload_n 9 rfl dX5_isOf_8 rfl rfl ?_
    refine wm_getR 12 rfl dX5_isOf_9 gf_X5_41_4 rfl rfl ?_
    refine wm_iload_n 13 rfl dX5_isOf_12 rfl rfl ?_
    refine wm_iaload 14 rfl dX5_isOf_13 rfl (in24 hr hn) ?_
    refine wm_iload_n 15 rfl dX5_isOf_14 rfl rfl ?_
    refine wm_icmp_ne 22 18 rfl (by decide) dX5_isOf_15 (fun c15 => ?_) (fun c15 => ?_)
    · have hgr := (hg r hr).2
      rw [nI_clamp (by omega), (hg r hr).1] at c15
      refine wm_iconst (v := 0) 23 rfl dX5_isOf_22 (by decide) ?_
      exact wm_iret dX5_isOf_23 (by first | rfl | exact zp_nar) (pP_i (zp_f (fun q => c15 (by rw [q.2]))))
    · have hgr := (hg r hr).2
      rw [nI_clamp (by omega), (hg r hr).1] at c15
      refine wm_iconst (v := 1) 19 rfl dX5_isOf_18 (by decide) ?_
      refine wm_goto 23 (by decide) dX5_isOf_19 ?_
      exact wm_iret dX5_isOf_23 (by first | rfl | exact zp_nar) (pP_i (zp_t ⟨⟨hr, zp_n.mp c5⟩, eq_of_nI c15 (by omega) (by omega)⟩))
