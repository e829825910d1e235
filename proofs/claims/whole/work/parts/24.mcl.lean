theorem ca_X5_counts : zCal yX5_counts cX5_counts 2 (some .boolean) 1 := ⟨aw_19_14, aw_1_5, by decide +kernel, by decide +kernel, by decide +kernel⟩
theorem cv_X5_counts : zCaV RX5 yX5_counts := ⟨aw_19_12, aw_19_13⟩
theorem ca_X5_areLinked : zCal yX5_areLinked cX5_areLinked 4 (some .boolean) 3 := ⟨aw_19_18, aw_1_5, by decide +kernel, by decide +kernel, by decide +kernel⟩
theorem cv_X5_areLinked : zCaV RX5 yX5_areLinked := ⟨aw_19_16, aw_19_17⟩
theorem ca_X5_pair : zCal yX5_pair cX5_pair 4 (some .int) 2 := ⟨aw_12_11, aw_1_5, by decide +kernel, by decide +kernel, by decide +kernel⟩
theorem cv_X5_pair : zCaV RX5 yX5_pair := ⟨aw_12_9, aw_12_10⟩
theorem gf_X5_50_4 : zGF RX5 50 4 17 := ⟨RX5, TX5, 18, "AssetmergeModel", rfl, zin_X5, by decide, aw_3_20, Or.inl rfl⟩
/-! THE MODEL: clusters, joins, finds -/
def sm (c : Nat → Nat) : Nat → Nat
  | 0 => 0
  | n + 1 => sm c n + c n
theorem sm_le {c d : Nat → Nat} : ∀ {n : Nat}, (∀ r, r < n → c r ≤ d r) → sm c n ≤ sm d n
  | 0, _ => Nat.le_refl _
  | n + 1, h => Nat.add_le_add (sm_le (n := n) fun r hr => h r (by omega)) (h n (by omega))
theorem sm_lt {c d : Nat → Nat} : ∀ {n : Nat}, (∀ r, r < n → c r ≤ d r) → (∃ r, r < n ∧ c r < d r) → sm c n < sm d n
  | 0, _, ⟨r, h, _⟩ => absurd h (Nat.not_lt_zero r)
  | n + 1, h, ⟨r, hr, h2⟩ => by
    have h3 := h n (by omega)
    by_cases e : r = n
    · subst e
      exact Nat.add_lt_add_of_le_of_lt (sm_le (n := r) fun x hx => h x (by omega)) h2
    · exact Nat.add_lt_add_of_lt_of_le (sm_lt (n := n) (fun x hx => h x (by omega)) ⟨r, by omega, h2⟩) h3
abbrev lkM (σ : Sg) (n k : Nat) (g : Nat → Nat) : Nat → Nat → Prop := lkq (lvM σ n) (kyM σ) k g
def MP (σ τ : Sg) (n k : Nat) (g c : Nat → Nat) (i j : Nat) (f : Int32) (υ : Sg) : Prop :=
  agb 10 τ υ ∧ ∃ c', lab υ 10 n c' ∧ (∀ r, r < n → rch n (lkM σ n k g) r (c' r)) ∧ (∀ r, r < n → c' r ≤ c r) ∧ ((f = 0 ∧ (∀ r, r < n → c' r = c r) ∧ ∀ a b, a < n → b < n → (a < i ∨ (a = i ∧ b < j)) → ct σ a → ct σ b → lkM σ n k g a b → c b ≤ c a) ∨ (f = 1 ∧ sm c' n < sm c n))
theorem MP_0 {σ τ υ : Sg} {n k : Nat} {g c : Nat → Nat} (h0 : agb 10 τ υ) (h1 : lab υ 10 n c) (h2 : ∀ r, r < n → rch n (lkM σ n k g) r (c r)) : MP σ τ n k g c 0 0 0 υ :=
  ⟨h0, c, h1, h2, fun _ _ => Nat.le_refl _, Or.inl ⟨rfl, fun _ _ => rfl, fun a b _ _ h => by omega⟩⟩
theorem MP_row {σ τ υ : Sg} {n k i : Nat} {g c : Nat → Nat} {f : Int32} (h : MP σ τ n k g c i n f υ) : MP σ τ n k g c (i + 1) 0 f υ := by
  obtain ⟨h0, c', h1, h2, h3, h4⟩ := h
  refine ⟨h0, c', h1, h2, h3, ?_⟩
  rcases h4 with ⟨e, h5, h6⟩ | h4
  · exact Or.inl ⟨e, h5, fun a b ha hb hab => h6 a b ha hb (by omega)⟩
  · exact Or.inr h4
theorem MP_skip {σ τ υ : Sg} {n k i j : Nat} {g c : Nat → Nat} {f : Int32} (h : MP σ τ n k g c i j f υ) (hr : ∀ c', lab υ 10 n c' → ct σ i → ct σ j → lkM σ n k g i j → c' j ≤ c' i) (hi : i < n) (hj : j < n) : MP σ τ n k g c i (j + 1) f υ := by
  obtain ⟨h0, c', h1, h2, h3, h4⟩ := h
  refine ⟨h0, c', h1, h2, h3, ?_⟩
  rcases h4 with ⟨e, h5, h6⟩ | h4
  · refine Or.inl ⟨e, h5, fun a b ha hb hab la lb hl => ?_⟩
    by_cases q : a = i ∧ b = j
    · obtain ⟨rfl, rfl⟩ := q
      rw [← h5 a hi, ← h5 b hj]
      exact hr c' h1 la lb hl
    · exact h6 a b ha hb (by omega) la lb hl
  · exact Or.inr h4
theorem lab_fun {σ : Sg} {id n : Nat} {c d : Nat → Nat} (hn : n ≤ 24) (h1 : lab σ id n c) (h2 : lab σ id n d) {r : Nat} (hr : r < n) : c r = d r :=
  eq_of_nI ((h1 r hr).1.symm.trans (h2 r hr).1) (by have := (h1 r hr).2; omega) (by have := (h2 r hr).2; omega)
theorem MP_take {σ τ υ : Sg} {n k i j : Nat} {g c d : Nat → Nat} {f : Int32} (hn : n ≤ 24) (h : MP σ τ n k g c i j f υ) (hd : lab υ 10 n d) (hi : i < n) (hj : j < n) (hl : lkM σ n k g i j) (hlt : d i < d j) : MP σ τ n k g c i (j + 1) 1 (zu υ 10 j (nI (d i))) := by
  obtain ⟨h0, c', h1, h2, h3, h4⟩ := h
  have ei := lab_fun hn h1 hd hi
  have ej := lab_fun hn h1 hd hj
  have hle : ∀ r, r < n → (if r = j then c' i else c' r) ≤ c' r := by
    intro r hr
    by_cases e : r = j
    · subst e; simp; omega
    · simp [e]
  refine ⟨fun a ha => by rw [zu_ne _ _ _ ha]; exact h0 a ha, fun r => if r = j then c' i else c' r, fun r hr => ?_, fun r hr => ?_, fun r hr => Nat.le_trans (hle r hr) (h3 r hr), Or.inr ⟨rfl, ?_⟩⟩
  · rw [zu_at]
    by_cases e : r = j
    · subst e
      have := (h1 r hj).2
      simp only [upd, if_true]
      exact ⟨by rw [ei], by omega⟩
    · simp only [upd, if_neg e]
      exact h1 r hr
  · by_cases e : r = j
    · subst e
      simp only [if_true]
      exact rch_tr (rch_1 hj hi (lkq_sy _ _ hl)) (h2 i hi)
    · simp only [if_neg e]
      exact h2 r hr
  · have : sm (fun r => if r = j then c' i else c' r) n < sm c' n := sm_lt hle ⟨j, hj, by simp; omega⟩
    exact Nat.lt_of_lt_of_le this (sm_le h3)
def MW (σ τ : Sg) (n k : Nat) (g c : Nat → Nat) (f : Int32) (υ : Sg) : Prop :=
  agb 10 τ υ ∧ lab υ 10 n c ∧ (∀ r, r < n → rch n (lkM σ n k g) r (c r)) ∧ (f = 0 → ∀ a b, a < n → b < n → ct σ a → ct σ b → lkM σ n k g a b → c b ≤ c a)
theorem MP_done {σ τ υ : Sg} {n k : Nat} {g c : Nat → Nat} {f f0 : Int32} (h : MP σ τ n k g c n 0 f υ) (h0 : ¬ f0 = 0) : ∃ d, MW σ τ n k g d f υ ∧ 2 * sm d n + (if f = 0 then 0 else 1) < 2 * sm c n + (if f0 = 0 then 0 else 1) := by
  obtain ⟨h9, c', h1, h2, h3, h4⟩ := h
  rw [if_neg h0]
  rcases h4 with ⟨e, h5, h6⟩ | ⟨e, h5⟩
  · refine ⟨c', ⟨h9, h1, h2, fun _ a b ha hb la lb hl => ?_⟩, ?_⟩
    · rw [h5 a ha, h5 b hb]
      exact h6 a b ha hb (Or.inl ha) la lb hl
    · have := sm_le h3
      rw [if_pos e]
      omega
  · refine ⟨c', ⟨h9, h1, h2, fun q => ?_⟩, ?_⟩
    · rw [e] at q; exact absurd q (by decide)
    · rw [if_neg (by rw [e]; decide)]
      omega
theorem MW_end {σ τ υ : Sg} {n k : Nat} {g c : Nat → Nat} (hg : LIq n (lvM σ n) g) (h : MW σ τ n k g c 0 υ) : Comp n (lkM σ n k g) c := by
  obtain ⟨-, h1, h2, h3⟩ := h
  refine ⟨fun r hr => (h1 r hr).2, fun a b ha hb hl => ?_, h2⟩
  by_cases la : lvM σ n a
  · by_cases lb : lvM σ n b
    · exact Nat.le_antisymm (h3 rfl b a hb ha lb.2 la.2 (lkq_sy _ _ hl)) (h3 rfl a b ha hb la.2 lb.2 hl)
    · rcases hl with e | ⟨-, q, -⟩
      · rw [(hg b hb).2.2.2 lb] at e
        exact absurd (e ▸ (hg a ha).2.2.1 la) lb
      · exact absurd q lb
  · rcases hl with e | ⟨q, -⟩
    · rw [(hg a ha).2.2.2 la] at e
      by_cases lb : lvM σ n b
      · exact absurd (e ▸ (hg b hb).2.2.1 lb) la
      · rw [(hg b hb).2.2.2 lb] at e
        rw [e]
    · exact absurd q la
theorem stM_agb {σ τ υ : Sg} (hs : stM σ τ) (h : agb 10 τ υ) : stM σ υ := fun a b h1 h2 h3 => by rw [h a h2]; exact hs a b h1 h2 h3
theorem k_X5_clusters (l : Launch) {σ τ : Sg} (hs : stM σ τ) {n k : Nat} (hI : mI σ n) (hk : k < 3) {g : Nat → Nat} (hg : lab τ 9 n g) (hL : LIq n (lvM σ n) g) : cMv l yX5_clusters cX5_clusters 5 1 Lm [.ref 0, .int (nI k)] τ (fun σ1 => agb 10 τ σ1 ∧ ∃ c, lab σ1 10 n c ∧ Comp n (lkM σ n k g) c) := by
  have h24 := hI.2
  refine zMet_of (by decide +kernel) (Nat.le_of_ble_eq_true rfl) (fun D cT ad sz => ?_)
  show Wm (fun _ _ => True) l (rmh 1) RX5 cX5_clusters 5 none D cT ad Lm (zA ad Lm.length sz) (zZ (fun D cT ad L9 sz => zQv D cT ad L9 sz (fun σ1 => agb 10 τ σ1 ∧ ∃ c, lab σ1 10 n c ∧ Comp n (lkM σ n k g) c)) D cT ad Lm sz) [] 0 (lv_args 0 [.ref 0, .int (nI k)]) [] τ 0 0
  have lpw : ∀ (q9 : Nat) (f : Int32) (c : Nat → Nat) (υ : Sg), 2 * sm c n + (if f = 0 then 0 else 1) = q9 → MW σ τ n k g c f υ → Wm (fun _ _ => True) l (rmh 1) RX5 cX5_clusters 5 none D cT ad Lm (zA ad Lm.length sz) (zZ (fun D cT ad L9 sz => zQv D cT ad L9 sz (fun σ1 => agb 10 τ σ1 ∧ ∃ c, lab σ1 10 n c ∧ Comp n (lkM σ n k g) c)) D cT ad Lm sz) [] 25 [(0, .ref 0), (1, .int (nI k)), (2, .int f)] [] υ 0 0 := by
    intro q9
    induction q9 using Nat.strongRecOn with
    | ind q9 ih9 =>
      intro f c υ hq9 hW
      have lpo : ∀ (q9 i : Nat) (f2 : Int32) (υ2 : Sg), n - i = q9 → i ≤ n → ¬ f = 0 → MP σ τ n k g c i 0 f2 υ2 → Wm (fun _ _ => True) l (rmh 1) RX5 cX5_clusters 5 none D cT ad Lm (zA ad Lm.length sz) (zZ (fun D cT ad L9 sz => zQv D cT ad L9 sz (fun σ1 => agb 10 τ σ1 ∧ ∃ c, lab σ1 10 n c ∧ Comp n (lkM σ n k g) c)) D cT ad Lm sz) [] 33 [(0, .ref 0), (1, .int (nI k)), (2, .int f2), (3, .int (nI i))] [] υ2 0 0 := by
        intro q9
        induction q9 using Nat.strongRecOn with
        | ind q9 ih =>
          intro i f2 υ2 hmi hji hf0 hinv0
          have lpi : ∀ (q9 j : Nat) (f2 : Int32) (υ2 : Sg), n - j = q9 → j ≤ n → i < n → ¬ f = 0 → MP σ τ n k g c i j f2 υ2 → Wm (fun _ _ => True) l (rmh 1) RX5 cX5_clusters 5 none D cT ad Lm (zA ad Lm.length sz) (zZ (fun D cT ad L9 sz => zQv D cT ad L9 sz (fun σ1 => agb 10 τ σ1 ∧ ∃ c, lab σ1 10 n c ∧ Comp n (lkM σ n k g) c)) D cT ad Lm sz) [] 44 [(0, .ref 0), (1, .int (nI k)), (2, .int f2), (3, .int (nI i)), (4, .int (nI j))] [] υ2 0 0 := by
            intro q9
            induction q9 using Nat.strongRecOn with
            | ind q9 ih2 =>
              intro j f2 υ2 hmj hjj hin hf hinv
              have hsυ : stM σ υ2 := stM_agb hs hinv.1
              have hIυ := hsυ.mI hI
              obtain ⟨d, hl, hrest⟩ := id hinv.2
              have hgυ : lab υ2 9 n g := fun r hr => by rw [hinv.1 9 (by omega)]; exact hg r hr
              refine wm_iload 46 rfl dX5_clusters_44 rfl ?_
              refine wm_aload_n 47 rfl dX5_clusters_46 rfl rfl ?_
              refine wm_getI 50 rfl dX5_clusters_47 gf_X5_56_4 rfl rfl ?_
              refine wm_icmp_ge 118 53 rfl (by decide) dX5_clusters_50 (fun c50 => ?_) (fun c50 => ?_)
              · rw [hIυ.1] at c50
                have gj : j = n := by have := le_of_nI c50 (by omega) (by omega); omega
                refine wm_iinc (ls' := [(3, _), (0, _), (1, _), (2, _), (4, _)]) 121 rfl dX5_clusters_118 rfl (nI_inc _) (by decide) rfl ?_
                refine wm_goto 33 (by decide) dX5_clusters_121 ?_
                refine wm_loc (ls2 := [(0, _), (1, _), (2, _), (3, _)]) [1, 2, 3, 0] rfl ?_
                subst gj
                exact ih (j - (i + 1)) (by omega) (i + 1) f2 υ2 rfl (by omega) hf (MP_row hinv)
              · rw [hIυ.1] at c50
                have gj : j < n := lt_of_nnI c50 (by omega) (by omega)
                refine wm_aload_n 54 rfl dX5_clusters_53 rfl rfl ?_
                refine wm_iload_n 55 rfl dX5_clusters_54 rfl rfl ?_
                refine wm_callVi (ty := .boolean) 58 rfl dX5_clusters_55 (k_X5_counts l hsυ (r := i) (by omega)) ca_X5_counts cv_X5_counts rfl aw_19_11 rfl rfl ⟨Nat.le_of_ble_eq_true rfl, Nat.le_of_ble_eq_true rfl⟩ (Nat.le_of_ble_eq_true rfl) ⟨Nat.zero_le _, Nat.zero_le _⟩ ?_
                rintro r9 σ9 ⟨rfl, rfl⟩
                refine wm_if_eq 112 61 rfl (by decide) dX5_clusters_58 (fun c58 => ?_) (fun c58 => ?_)
                · refine wm_iinc (ls' := [(4, _), (0, _), (1, _), (2, _), (3, _)]) 115 rfl dX5_clusters_112 rfl (nI_inc _) (by decide) rfl ?_
                  refine wm_goto 44 (by decide) dX5_clusters_115 ?_
                  refine wm_loc (ls2 := [(0, _), (1, _), (2, _), (3, _), (4, _)]) [1, 2, 3, 4, 0] rfl ?_
                  have hdi := (hl i hin).2
                  have hdj := (hl j gj).2
                  first
                    | exact ih2 (n - (j + 1)) (by omega) (j + 1) _ _ rfl (by omega) hin hf (MP_skip hinv (fun _ _ q _ _ => absurd q (zp_0.mp c58)) hin gj)
                    | exact ih2 (n - (j + 1)) (by omega) (j + 1) _ _ rfl (by omega) hin hf (MP_skip hinv (fun _ _ _ q _ => absurd q (zp_0.mp c67)) hin gj)
                    | exact ih2 (n - (j + 1)) (by omega) (j + 1) _ _ rfl (by omega) hin hf (MP_skip hinv (fun d2 hd2 _ _ _ => by rw [lab_fun h24 hd2 hl hin, lab_fun h24 hd2 hl gj]; exact le_of_nI c83 (by omega) (by omega)) hin gj)
                    | exact ih2 (n - (j + 1)) (by omega) (j + 1) _ _ rfl (by omega) hin hf (MP_skip hinv (fun d2 hd2 q1 q2 q3 => by
                        exfalso
                        refine zp_0.mp c94 (Or.inr ?_)
                        rcases q3 with q3 | ⟨-, -, q4, q5⟩
                        · exact Or.inl q3
                        · exact Or.inr ⟨q4, q5⟩) hin gj)
                    | exact ih2 (n - (j + 1)) (by omega) (j + 1) _ _ rfl (by omega) hin hf (MP_take h24 hinv hl hin gj (by
                        have h83 := lt_of_nnI c83 (by omega) (by omega)
                        rcases zp_n.mp c94 with q | q | q
                        · omega
                        · exact Or.inl q
                        · exact Or.inr ⟨⟨hin, zp_n.mp c58⟩, ⟨gj, zp_n.mp c67⟩, q.1, q.2⟩) (lt_of_nnI c83 (by omega) (by omega)))
                · refine wm_aload_n 62 rfl dX5_clusters_61 rfl rfl ?_
                  refine wm_iload 64 rfl dX5_clusters_62 rfl ?_
                  refine wm_callVi (ty := .boolean) 67 rfl dX5_clusters_64 (k_X5_counts l hsυ (r := j) (by omega)) ca_X5_counts cv_X5_counts rfl aw_19_11 rfl rfl ⟨Nat.le_of_ble_eq_true rfl, Nat.le_of_ble_eq_true rfl⟩ (Nat.le_of_ble_eq_true rfl) ⟨Nat.zero_le _, Nat.zero_le _⟩ ?_
                  rintro r9 σ9 ⟨rfl, rfl⟩
                  refine wm_if_eq 112 70 rfl (by decide) dX5_clusters_67 (fun c67 => ?_) (fun c67 => ?_)
                  · refine wm_iinc (ls' := [(4, _), (0, _), (1, _), (2, _), (3, _)]) 115 rfl dX5_clusters_112 rfl (nI_inc _) (by decide) rfl ?_
                    refine wm_goto 44 (by decide) dX5_clusters_115 ?_
                    refine wm_loc (ls2 := [(0, _), (1, _), (2, _), (3, _), (4, _)]) [1, 2, 3, 4, 0] rfl ?_
                    have hdi := (hl i hin).2
                    have hdj := (hl j gj).2
                    first
                      | exact ih2 (n - (j + 1)) (by omega) (j + 1) _ _ rfl (by omega) hin hf (MP_skip hinv (fun _ _ q _ _ => absurd q (zp_0.mp c58)) hin gj)
                      | exact ih2 (n - (j + 1)) (by omega) (j + 1) _ _ rfl (by omega) hin hf (MP_skip hinv (fun _ _ _ q _ => absurd q (zp_0.mp c67)) hin gj)
                      | exact ih2 (n - (j + 1)) (by omega) (j + 1) _ _ rfl (by omega) hin hf (MP_skip hinv (fun d2 hd2 _ _ _ => by rw [lab_fun h24 hd2 hl hin, lab_fun h24 hd2 hl gj]; exact le_of_nI c83 (by omega) (by omega)) hin gj)
                      | exact ih2 (n - (j + 1)) (by omega) (j + 1) _ _ rfl (by omega) hin hf (MP_skip hinv (fun d2 hd2 q1 q2 q3 => by
                          exfalso
                          refine zp_0.mp c94 (Or.inr ?_)
                          rcases q3 with q3 | ⟨-, -, q4, q5⟩
                          · exact Or.inl q3
                          · exact Or.inr ⟨q4, q5⟩) hin gj)
                      | exact ih2 (n - (j + 1)) (by omega) (j + 1) _ _ rfl (by omega) hin hf (MP_take h24 hinv hl hin gj (by
                          have h83 := lt_of_nnI c83 (by omega) (by omega)
                          rcases zp_n.mp c94 with q | q | q
                          · omega
                          · exact Or.inl q
                          · exact Or.inr ⟨⟨hin, zp_n.mp c58⟩, ⟨gj, zp_n.mp c67⟩, q.1, q.2⟩) (lt_of_nnI c83 (by omega) (by omega)))
                  · refine wm_aload_n 71 rfl dX5_clusters_70 rfl rfl ?_
                    refine wm_getR 74 rfl dX5_clusters_71 gf_X5_44_4 rfl rfl ?_
                    refine wm_iload 76 rfl dX5_clusters_74 rfl ?_
                    refine wm_iaload 77 rfl dX5_clusters_76 rfl (in24 gj h24) ?_
                    refine wm_aload_n 78 rfl dX5_clusters_77 rfl rfl ?_
                    refine wm_getR 81 rfl dX5_clusters_78 gf_X5_44_4 rfl rfl ?_
                    refine wm_iload_n 82 rfl dX5_clusters_81 rfl rfl ?_
                    refine wm_iaload 83 rfl dX5_clusters_82 rfl (in24 hin h24) ?_
                    refine wm_icmp_le 112 86 rfl (by decide) dX5_clusters_83 (fun c83 => ?_) (fun c83 => ?_)
                    · rw [nI_clamp (by omega), nI_clamp (by omega), (hl i hin).1, (hl j gj).1] at c83
                      refine wm_iinc (ls' := [(4, _), (0, _), (1, _), (2, _), (3, _)]) 115 rfl dX5_clusters_112 rfl (nI_inc _) (by decide) rfl ?_
                      refine wm_goto 44 (by decide) dX5_clusters_115 ?_
                      refine wm_loc (ls2 := [(0, _), (1, _), (2, _), (3, _), (4, _)]) [1, 2, 3, 4, 0] rfl ?_
                      have hdi := (hl i hin).2
                      have hdj := (hl j gj).2
                      first
                        | exact ih2 (n - (j + 1)) (by omega) (j + 1) _ _ rfl (by omega) hin hf (MP_skip hinv (fun _ _ q _ _ => absurd q (zp_0.mp c58)) hin gj)
                        | exact ih2 (n - (j + 1)) (by omega) (j + 1) _ _ rfl (by omega) hin hf (MP_skip hinv (fun _ _ _ q _ => absurd q (zp_0.mp c67)) hin gj)
                        | exact ih2 (n - (j + 1)) (by omega) (j + 1) _ _ rfl (by omega) hin hf (MP_skip hinv (fun d2 hd2 _ _ _ => by rw [lab_fun h24 hd2 hl hin, lab_fun h24 hd2 hl gj]; exact le_of_nI c83 (by omega) (by omega)) hin gj)
                        | exact ih2 (n - (j + 1)) (by omega) (j + 1) _ _ rfl (by omega) hin hf (MP_skip hinv (fun d2 hd2 q1 q2 q3 => by
                            exfalso
                            refine zp_0.mp c94 (Or.inr ?_)
                            rcases q3 with q3 | ⟨-, -, q4, q5⟩
                            · exact Or.inl q3
                            · exact Or.inr ⟨q4, q5⟩) hin gj)
                        | exact ih2 (n - (j + 1)) (by omega) (j + 1) _ _ rfl (by omega) hin hf (MP_take h24 hinv hl hin gj (by
                            have h83 := lt_of_nnI c83 (by omega) (by omega)
                            rcases zp_n.mp c94 with q | q | q
                            · omega
                            · exact Or.inl q
                            · exact Or.inr ⟨⟨hin, zp_n.mp c58⟩, ⟨gj, zp_n.mp c67⟩, q.1, q.2⟩) (lt_of_nnI c83 (by omega) (by omega)))
                    · rw [nI_clamp (by omega), nI_clamp (by omega), (hl i hin).1, (hl j gj).1] at c83
                      refine wm_aload_n 87 rfl dX5_clusters_86 rfl rfl ?_
                      refine wm_iload_n 88 rfl dX5_clusters_87 rfl rfl ?_
                      refine wm_iload 90 rfl dX5_clusters_88 rfl ?_
                      refine wm_iload_n 91 rfl dX5_clusters_90 rfl rfl ?_
                      refine wm_callVi (ty := .boolean) 94 rfl dX5_clusters_91 (k_X5_areLinked l hsυ h24 hl hgυ hin gj hk) ca_X5_areLinked cv_X5_areLinked rfl aw_19_15 rfl rfl ⟨Nat.le_of_ble_eq_true rfl, Nat.le_of_ble_eq_true rfl⟩ (Nat.le_of_ble_eq_true rfl) ⟨Nat.zero_le _, Nat.zero_le _⟩ ?_
                      rintro r9 σ9 ⟨rfl, rfl⟩
                      refine wm_if_eq 112 97 rfl (by decide) dX5_clusters_94 (fun c94 => ?_) (fun c94 => ?_)
                      · refine wm_iinc (ls' := [(4, _), (0, _), (1, _), (2, _), (3, _)]) 115 rfl dX5_clusters_112 rfl (nI_inc _) (by decide) rfl ?_
                        refine wm_goto 44 (by decide) dX5_clusters_115 ?_
                        refine wm_loc (ls2 := [(0, _), (1, _), (2, _), (3, _), (4, _)]) [1, 2, 3, 4, 0] rfl ?_
                        have hdi := (hl i hin).2
                        have hdj := (hl j gj).2
                        first
                          | exact ih2 (n - (j + 1)) (by omega) (j + 1) _ _ rfl (by omega) hin hf (MP_skip hinv (fun _ _ q _ _ => absurd q (zp_0.mp c58)) hin gj)
                          | exact ih2 (n - (j + 1)) (by omega) (j + 1) _ _ rfl (by omega) hin hf (MP_skip hinv (fun _ _ _ q _ => absurd q (zp_0.mp c67)) hin gj)
                          | exact ih2 (n - (j + 1)) (by omega) (j + 1) _ _ rfl (by omega) hin hf (MP_skip hinv (fun d2 hd2 _ _ _ => by rw [lab_fun h24 hd2 hl hin, lab_fun h24 hd2 hl gj]; exact le_of_nI c83 (by omega) (by omega)) hin gj)
                          | exact ih2 (n - (j + 1)) (by omega) (j + 1) _ _ rfl (by omega) hin hf (MP_skip hinv (fun d2 hd2 q1 q2 q3 => by
                              exfalso
                              refine zp_0.mp c94 (Or.inr ?_)
                              rcases q3 with q3 | ⟨-, -, q4, q5⟩
                              · exact Or.inl q3
                              · exact Or.inr ⟨q4, q5⟩) hin gj)
                          | exact ih2 (n - (j + 1)) (by omega) (j + 1) _ _ rfl (by omega) hin hf (MP_take h24 hinv hl hin gj (by
                              have h83 := lt_of_nnI c83 (by omega) (by omega)
                              rcases zp_n.mp c94 with q | q | q
                              · omega
                              · exact Or.inl q
                              · exact Or.inr ⟨⟨hin, zp_n.mp c58⟩, ⟨gj, zp_n.mp c67⟩, q.1, q.2⟩) (lt_of_nnI c83 (by omega) (by omega)))
                      · refine wm_aload_n 98 rfl dX5_clusters_97 rfl rfl ?_
                        refine wm_getR 101 rfl dX5_clusters_98 gf_X5_44_4 rfl rfl ?_
                        refine wm_iload 103 rfl dX5_clusters_101 rfl ?_
                        refine wm_aload_n 104 rfl dX5_clusters_103 rfl rfl ?_
                        refine wm_getR 107 rfl dX5_clusters_104 gf_X5_44_4 rfl rfl ?_
                        refine wm_iload_n 108 rfl dX5_clusters_107 rfl rfl ?_
                        refine wm_iaload 109 rfl dX5_clusters_108 rfl (in24 hin h24) ?_
                        refine wm_iastore 110 rfl dX5_clusters_109 rfl (in24 gj h24) ?_
                        rw [nI_clamp (by omega), nI_clamp (by omega), (hl i hin).1]
                        refine wm_iconst (v := 1) 111 rfl dX5_clusters_110 (by decide) ?_
                        refine wm_istore_n (ls' := [(2, _), (0, _), (1, _), (3, _), (4, _)]) 112 rfl dX5_clusters_111 rfl (by decide) rfl ?_
                        refine wm_iinc (ls' := [(4, _), (2, _), (0, _), (1, _), (3, _)]) 115 rfl dX5_clusters_112 rfl (nI_inc _) (by decide) rfl ?_
                        refine wm_goto 44 (by decide) dX5_clusters_115 ?_
                        refine wm_loc (ls2 := [(0, _), (1, _), (2, _), (3, _), (4, _)]) [2, 3, 1, 4, 0] rfl ?_
                        have hdi := (hl i hin).2
                        have hdj := (hl j gj).2
                        first
                          | exact ih2 (n - (j + 1)) (by omega) (j + 1) _ _ rfl (by omega) hin hf (MP_skip hinv (fun _ _ q _ _ => absurd q (zp_0.mp c58)) hin gj)
                          | exact ih2 (n - (j + 1)) (by omega) (j + 1) _ _ rfl (by omega) hin hf (MP_skip hinv (fun _ _ _ q _ => absurd q (zp_0.mp c67)) hin gj)
                          | exact ih2 (n - (j + 1)) (by omega) (j + 1) _ _ rfl (by omega) hin hf (MP_skip hinv (fun d2 hd2 _ _ _ => by rw [lab_fun h24 hd2 hl hin, lab_fun h24 hd2 hl gj]; exact le_of_nI c83 (by omega) (by omega)) hin gj)
                          | exact ih2 (n - (j + 1)) (by omega) (j + 1) _ _ rfl (by omega) hin hf (MP_skip hinv (fun d2 hd2 q1 q2 q3 => by
                              exfalso
                              refine zp_0.mp c94 (Or.inr ?_)
                              rcases q3 with q3 | ⟨-, -, q4, q5⟩
                              · exact Or.inl q3
                              · exact Or.inr ⟨q4, q5⟩) hin gj)
                          | exact ih2 (n - (j + 1)) (by omega) (j + 1) _ _ rfl (by omega) hin hf (MP_take h24 hinv hl hin gj (by
                              have h83 := lt_of_nnI c83 (by omega) (by omega)
                              rcases zp_n.mp c94 with q | q | q
                              · omega
                              · exact Or.inl q
                              · exact Or.inr ⟨⟨hin, zp_n.mp c58⟩, ⟨gj, zp_n.mp c67⟩, q.1, q.2⟩) (lt_of_nnI c83 (by omega) (by omega)))
          refine wm_iload_n 34 rfl dX5_clusters_33 rfl rfl ?_
          refine wm_aload_n 35 rfl dX5_clusters_34 rfl rfl ?_
          refine wm_getI 38 rfl dX5_clusters_35 gf_X5_56_4 rfl rfl ?_
          refine wm_icmp_ge 124 41 rfl (by decide) dX5_clusters_38 (fun c38 => ?_) (fun c38 => ?_)
          · rw [((stM_agb hs hinv0.1).mI hI).1] at c38
            have gi : i = n := by have := le_of_nI c38 (by omega) (by omega); omega
            refine wm_goto 25 (by decide) dX5_clusters_124 ?_
            refine wm_loc (ls2 := [(0, _), (1, _), (2, _)]) [0, 1, 2] rfl ?_
            subst gi
            obtain ⟨d, hd1, hd2⟩ := MP_done hinv0 hf0
            exact ih9 _ (by omega) f2 d υ2 rfl hd1
          · rw [((stM_agb hs hinv0.1).mI hI).1] at c38
            have gi : i < n := lt_of_nnI c38 (by omega) (by omega)
            refine wm_iconst (v := 0) 42 rfl dX5_clusters_41 (by decide) ?_
            refine wm_istore (ls' := [(4, _), (0, _), (1, _), (2, _), (3, _)]) 44 rfl dX5_clusters_42 (by decide) rfl ?_
            refine wm_loc (ls2 := [(0, _), (1, _), (2, _), (3, _), (4, _)]) [1, 2, 3, 4, 0] rfl ?_
            exact lpi n 0 f2 υ2 rfl (Nat.zero_le _) gi hf0 hinv0
      refine wm_iload_n 26 rfl dX5_clusters_25 rfl rfl ?_
      refine wm_if_eq 127 29 rfl (by decide) dX5_clusters_26 (fun c26 => ?_) (fun c26 => ?_)
      · exact wm_vret dX5_clusters_127 (by subst c26; exact ⟨hW.1, c, hW.2.1, MW_end hL hW⟩)
      · refine wm_iconst (v := 0) 30 rfl dX5_clusters_29 (by decide) ?_
        refine wm_istore_n (ls' := [(2, _), (0, _), (1, _)]) 31 rfl dX5_clusters_30 rfl (by decide) rfl ?_
        refine wm_iconst (v := 0) 32 rfl dX5_clusters_31 (by decide) ?_
        refine wm_istore_n (ls' := [(3, _), (2, _), (0, _), (1, _)]) 33 rfl dX5_clusters_32 rfl (by decide) rfl ?_
        refine wm_loc (ls2 := [(0, _), (1, _), (2, _), (3, _)]) [2, 3, 1, 0] rfl ?_
        exact lpo n 0 0 υ rfl (Nat.zero_le _) c26 (MP_0 hW.1 hW.2.1 hW.2.2.1)
  have lp1 : ∀ (q9 j : Nat) (υ : Sg), n - j = q9 → j ≤ n → agb 10 τ υ ∧ (∀ r, r < j → υ 10 r = nI r) → Wm (fun _ _ => True) l (rmh 1) RX5 cX5_clusters 5 none D cT ad Lm (zA ad Lm.length sz) (zZ (fun D cT ad L9 sz => zQv D cT ad L9 sz (fun σ1 => agb 10 τ σ1 ∧ ∃ c, lab σ1 10 n c ∧ Comp n (lkM σ n k g) c)) D cT ad Lm sz) [] 2 [(0, .ref 0), (1, .int (nI k)), (2, .int (nI j))] [] υ 0 0 := by
    intro q9
    induction q9 using Nat.strongRecOn with
    | ind q9 ih =>
      intro j υ hmj hjj hinv
      refine wm_iload_n 3 rfl dX5_clusters_2 rfl rfl ?_
      refine wm_aload_n 4 rfl dX5_clusters_3 rfl rfl ?_
      refine wm_getI 7 rfl dX5_clusters_4 gf_X5_56_4 rfl rfl ?_
      refine wm_icmp_ge 23 10 rfl (by decide) dX5_clusters_7 (fun c7 => ?_) (fun c7 => ?_)
      · rw [((stM_agb hs hinv.1).mI hI).1] at c7
        have gj : j = n := by have := le_of_nI c7 (by omega) (by omega); omega
        refine wm_iconst (v := 1) 24 rfl dX5_clusters_23 (by decide) ?_
        refine wm_istore_n (ls' := [(2, _), (0, _), (1, _)]) 25 rfl dX5_clusters_24 rfl (by decide) rfl ?_
        refine wm_loc (ls2 := [(0, _), (1, _), (2, _)]) [1, 2, 0] rfl ?_
        exact lpw _ 1 (fun r => r) υ rfl ⟨hinv.1, fun r hr => ⟨hinv.2 r (by omega), Nat.le_refl _⟩, fun r _ => rch_rf r, fun q => absurd q (by decide)⟩
      · rw [((stM_agb hs hinv.1).mI hI).1] at c7
        have gj : j < n := lt_of_nnI c7 (by omega) (by omega)
        refine wm_aload_n 11 rfl dX5_clusters_10 rfl rfl ?_
        refine wm_getR 14 rfl dX5_clusters_11 gf_X5_44_4 rfl rfl ?_
        refine wm_iload_n 15 rfl dX5_clusters_14 rfl rfl ?_
        refine wm_iload_n 16 rfl dX5_clusters_15 rfl rfl ?_
        refine wm_iastore 17 rfl dX5_clusters_16 rfl (in24 gj h24) ?_
        rw [nI_clamp (by omega)]
        refine wm_iinc (ls' := [(2, _), (0, _), (1, _)]) 20 rfl dX5_clusters_17 rfl (nI_inc _) (by decide) rfl ?_
        refine wm_goto 2 (by decide) dX5_clusters_20 ?_
        refine wm_loc (ls2 := [(0, _), (1, _), (2, _)]) [1, 2, 0] rfl ?_
        refine ih (n - (j + 1)) (by omega) (j + 1) _ rfl (by omega) ⟨fun a ha => by rw [zu_ne _ _ _ ha]; exact hinv.1 a ha, fun r hr => ?_⟩
        rw [zu_at]
        by_cases e : r = j
        · subst e; simp [upd]
        · simp only [upd, if_neg e]
          exact hinv.2 r (by omega)
  refine wm_iconst (v := 0) 1 rfl dX5_clusters_0 (by decide) ?_
  refine wm_istore_n (ls' := [(2, _), (0, _), (1, _)]) 2 rfl dX5_clusters_1 rfl (by decide) rfl ?_
  refine wm_loc (ls2 := [(0, _), (1, _), (2, _)]) [1, 2, 0] rfl ?_
  exact lp1 n 0 τ rfl (Nat.zero_le _) ⟨fun _ _ => rfl, fun r hr => absurd hr (Nat.not_lt_zero r)⟩
def okp (σ : Sg) (n p k : Nat) (S : Nat → Prop) (a b : Nat) : Prop := S a → S b → (∀ s, s < k → kyM σ s a ≠ -1 → kyM σ s b ≠ -1 → kyM σ s a = kyM σ s b) ∧ ¬ fbM σ p a b
theorem okp_mj {σ : Sg} {n p k : Nat} {S : Nat → Prop} (hn : n ≤ 24) (hQ : mQ σ n p) (h : ∀ a, a < n → ∀ b, b < a → okp σ n p k S a b) : mjq n (kyM σ) (fbM σ p) k S := by
  refine ⟨fun s hs a b ha hb sa sb ka kb => ?_, fun a b ha hb sa sb q => ?_⟩
  · rcases Nat.lt_trichotomy a b with e | e | e
    · exact ((h b hb a e sb sa).1 s hs kb ka).symm
    · rw [e]
    · exact (h a ha b e sa sb).1 s hs ka kb
  · rcases Nat.lt_trichotomy a b with e | e | e
    · exact (h b hb a e sb sa).2 (fbM_sy q)
    · subst e; exact fbM_ir hn hQ ha q
    · exact (h a ha b e sa sb).2 q
theorem prI_n {σ : Sg} {p a b : Nat} (h : prI σ p a b (-1)) (hp : p ≤ 12) : ¬ fbM σ p a b := by
  rintro ⟨i, hi, h1, -⟩
  rcases h with ⟨j, hj, e, -⟩ | ⟨-, h⟩
  · exact nI_ne_m1 (by omega) e.symm
  · exact h i hi h1
theorem prI_f {σ : Sg} {p a b : Nat} {v : Int32} (h : prI σ p a b v) (hp : p ≤ 12) (hv : ¬ v = -1) : fbM σ p a b ↔ ¬ v = σ 0 17 := by
  rcases h with ⟨j, hj, e, h1, h2⟩ | ⟨q, -⟩
  · subst e
    constructor
    · rintro ⟨i, hi, h3, h4, h5⟩
      rcases Nat.lt_trichotomy i j with e | e | e
      · exact absurd h3 (h2 i e)
      · rw [← e]; exact h5
      · exact absurd h1 (h4 j e)
    · intro q
      exact ⟨j, hj, h1, h2, q⟩
  · exact absurd q hv
theorem k_X5_mayJoin (l : Launch) {σ τ : Sg} (hs : stM σ τ) {n k p h : Nat} (hI : mI σ n) (hP : mP σ p) (hQ : mQ σ n p) (hk : k < 3) {c : Nat → Nat} (hc : lab τ 10 n c) (hh : h < n) : cMi l yX5_mayJoin cX5_mayJoin 6 .boolean 1 Lm [.ref 0, .int (nI h), .int (nI k)] τ (pP τ (zp (mjq n (kyM σ) (fbM σ p) k (fun x => lvM σ n x ∧ c x = h)))) := by
  have h24 := hI.2
  refine zMet_of (by decide +kernel) (Nat.le_of_ble_eq_true rfl) (fun D cT ad sz => ?_)
  show Wm (fun _ _ => True) l (rmh 1) RX5 cX5_mayJoin 6 (some .boolean) D cT ad Lm (zA ad Lm.length sz) (zZ (fun D cT ad L9 sz => zQi D cT ad L9 sz (pP τ (zp (mjq n (kyM σ) (fbM σ p) k (fun x => lvM σ n x ∧ c x = h))))) D cT ad Lm sz) [] 0 (lv_args 0 [.ref 0, .int (nI h), .int (nI k)]) [] τ 0 0
  have lpo : ∀ (q9 i : Nat), n - i = q9 → i ≤ n → (∀ a, a < i → ∀ b, b < a → okp σ n p k (fun x => lvM σ n x ∧ c x = h) a b) → Wm (fun _ _ => True) l (rmh 1) RX5 cX5_mayJoin 6 (some .boolean) D cT ad Lm (zA ad Lm.length sz) (zZ (fun D cT ad L9 sz => zQi D cT ad L9 sz (pP τ (zp (mjq n (kyM σ) (fbM σ p) k (fun x => lvM σ n x ∧ c x = h))))) D cT ad Lm sz) [] 2 [(0, .ref 0), (1, .int (nI h)), (2, .int (nI k)), (3, .int (nI i))] [] τ 0 0 := by
    intro q9
    induction q9 using Nat.strongRecOn with
    | ind q9 ih =>
      intro i  hmi hji hinv0
      have lpi : ∀ (q9 j : Nat), i - j = q9 → j ≤ i → i < n → (∀ b, b < j → okp σ n p k (fun x => lvM σ n x ∧ c x = h) i b) → Wm (fun _ _ => True) l (rmh 1) RX5 cX5_mayJoin 6 (some .boolean) D cT ad Lm (zA ad Lm.length sz) (zZ (fun D cT ad L9 sz => zQi D cT ad L9 sz (pP τ (zp (mjq n (kyM σ) (fbM σ p) k (fun x => lvM σ n x ∧ c x = h))))) D cT ad Lm sz) [] 13 [(0, .ref 0), (1, .int (nI h)), (2, .int (nI k)), (3, .int (nI i)), (4, .int (nI j))] [] τ 0 0 := by
        intro q9
        induction q9 using Nat.strongRecOn with
        | ind q9 ih2 =>
          intro j  hmj hjj hin hinv
          have lps : ∀ (q9 s : Nat), k - s = q9 → s ≤ k → j < i → (fun x => lvM σ n x ∧ c x = h) i → (fun x => lvM σ n x ∧ c x = h) j → (∀ s2, s2 < s → kyM σ s2 i ≠ -1 → kyM σ s2 j ≠ -1 → kyM σ s2 i = kyM σ s2 j) → Wm (fun _ _ => True) l (rmh 1) RX5 cX5_mayJoin 6 (some .boolean) D cT ad Lm (zA ad Lm.length sz) (zZ (fun D cT ad L9 sz => zQi D cT ad L9 sz (pP τ (zp (mjq n (kyM σ) (fbM σ p) k (fun x => lvM σ n x ∧ c x = h))))) D cT ad Lm sz) [] 63 [(0, .ref 0), (1, .int (nI h)), (2, .int (nI k)), (3, .int (nI i)), (4, .int (nI j)), (5, .int (nI s))] [] τ 0 0 := by
            intro q9
            induction q9 using Nat.strongRecOn with
            | ind q9 ih3 =>
              intro s  hms hjs hji si sj hinv3
              refine wm_iload 65 rfl dX5_mayJoin_63 rfl ?_
              refine wm_iload_n 66 rfl dX5_mayJoin_65 rfl rfl ?_
              refine wm_icmp_ge 126 69 rfl (by decide) dX5_mayJoin_66 (fun c66 => ?_) (fun c66 => ?_)
              · have gs : s = k := by have := le_of_nI c66 (by omega) (by omega); omega
                refine wm_aload_n 127 rfl dX5_mayJoin_126 rfl rfl ?_
                refine wm_iload_n 128 rfl dX5_mayJoin_127 rfl rfl ?_
                refine wm_iload 130 rfl dX5_mayJoin_128 rfl ?_
                refine wm_callVi (ty := .int) 133 rfl dX5_mayJoin_130 (k_X5_pair l hs hP (a := i) (b := j)) ca_X5_pair cv_X5_pair rfl aw_12_8 rfl rfl ⟨Nat.le_of_ble_eq_true rfl, Nat.le_of_ble_eq_true rfl⟩ (Nat.le_of_ble_eq_true rfl) ⟨Nat.zero_le _, Nat.zero_le _⟩ ?_
                rintro r9 σ9 ⟨rfl, hpr⟩
                refine wm_istore (ls' := [(5, _), (0, _), (1, _), (2, _), (3, _), (4, _)]) 135 rfl dX5_mayJoin_133 (by decide) rfl ?_
                refine wm_iload 137 rfl dX5_mayJoin_135 rfl ?_
                refine wm_iconst (v := (-1)) 138 rfl dX5_mayJoin_137 (by decide) ?_
                refine wm_icmp_eq 152 141 rfl (by decide) dX5_mayJoin_138 (fun c138 => ?_) (fun c138 => ?_)
                · refine wm_iinc (ls' := [(4, _), (5, _), (0, _), (1, _), (2, _), (3, _)]) 155 rfl dX5_mayJoin_152 rfl (nI_inc _) (by decide) rfl ?_
                  refine wm_goto 13 (by decide) dX5_mayJoin_155 ?_
                  refine wm_loc (ls2 := [(0, _), (1, _), (2, _), (3, _), (4, _)]) [2, 3, 4, 5, 0] rfl ?_
                  subst gs
                  first
                    | exact ih2 (i - (j + 1)) (by omega) (j + 1) rfl (by omega) hin (lt_s hinv (fun _ _ => ⟨hinv3, by subst c138; exact prI_n hpr hP.2⟩))
                    | exact ih2 (i - (j + 1)) (by omega) (j + 1) rfl (by omega) hin (lt_s hinv (fun _ _ => ⟨hinv3, fun q => (prI_f hpr hP.2 c138).mp q c147⟩))
                · refine wm_iload 143 rfl dX5_mayJoin_141 rfl ?_
                  refine wm_aload_n 144 rfl dX5_mayJoin_143 rfl rfl ?_
                  refine wm_getI 147 rfl dX5_mayJoin_144 gf_X5_50_4 rfl rfl ?_
                  refine wm_icmp_eq 152 150 rfl (by decide) dX5_mayJoin_147 (fun c147 => ?_) (fun c147 => ?_)
                  · rw [hs 0 17 (by decide) (by decide) (fun _ => by decide)] at c147
                    refine wm_iinc (ls' := [(4, _), (5, _), (0, _), (1, _), (2, _), (3, _)]) 155 rfl dX5_mayJoin_152 rfl (nI_inc _) (by decide) rfl ?_
                    refine wm_goto 13 (by decide) dX5_mayJoin_155 ?_
                    refine wm_loc (ls2 := [(0, _), (1, _), (2, _), (3, _), (4, _)]) [2, 3, 4, 5, 0] rfl ?_
                    subst gs
                    first
                      | exact ih2 (i - (j + 1)) (by omega) (j + 1) rfl (by omega) hin (lt_s hinv (fun _ _ => ⟨hinv3, by subst c138; exact prI_n hpr hP.2⟩))
                      | exact ih2 (i - (j + 1)) (by omega) (j + 1) rfl (by omega) hin (lt_s hinv (fun _ _ => ⟨hinv3, fun q => (prI_f hpr hP.2 c138).mp q c147⟩))
                  · rw [hs 0 17 (by decide) (by decide) (fun _ => by decide)] at c147
                    refine wm_iconst (v := 0) 151 rfl dX5_mayJoin_150 (by decide) ?_
                    exact wm_iret dX5_mayJoin_151 (by first | rfl | exact zp_nar) (pP_i (zp_f (fun q => q.2 i j hin (by omega) si sj ((prI_f hpr hP.2 c138).mpr c147))))
              · have gs : s < k := lt_of_nnI c66 (by omega) (by omega)
                refine wm_aload_n 70 rfl dX5_mayJoin_69 rfl rfl ?_
                refine wm_getR 73 rfl dX5_mayJoin_70 gf_X5_21_4 rfl rfl ?_
                refine wm_iload_n 74 rfl dX5_mayJoin_73 rfl rfl ?_
                refine wm_aaload (r := 11 + i) 75 rfl dX5_mayJoin_74 rfl (vp_in_nI (by omega) (by omega)) (by rw [nI_clamp (by omega)]) ?_
                refine wm_iload 77 rfl dX5_mayJoin_75 rfl ?_
                refine wm_iaload 78 rfl dX5_mayJoin_77 (Lm_row (by omega) (by omega)) (vp_in_nI (by omega) (by omega)) ?_
                refine wm_iconst (v := (-1)) 79 rfl dX5_mayJoin_78 (by decide) ?_
                refine wm_icmp_eq 120 82 rfl (by decide) dX5_mayJoin_79 (fun c79 => ?_) (fun c79 => ?_)
                · rw [nI_clamp (by omega), hs.row (a := 11 + i) (by omega) (by omega) (by omega)] at c79
                  refine wm_iinc (ls' := [(5, _), (0, _), (1, _), (2, _), (3, _), (4, _)]) 123 rfl dX5_mayJoin_120 rfl (nI_inc _) (by decide) rfl ?_
                  refine wm_goto 63 (by decide) dX5_mayJoin_123 ?_
                  refine wm_loc (ls2 := [(0, _), (1, _), (2, _), (3, _), (4, _), (5, _)]) [1, 2, 3, 4, 5, 0] rfl ?_
                  first
                    | exact ih3 (k - (s + 1)) (by omega) (s + 1) rfl (by omega) hji si sj (lt_s hinv3 (fun q _ => absurd c79 q))
                    | exact ih3 (k - (s + 1)) (by omega) (s + 1) rfl (by omega) hji si sj (lt_s hinv3 (fun _ q => absurd c93 q))
                    | exact ih3 (k - (s + 1)) (by omega) (s + 1) rfl (by omega) hji si sj (lt_s hinv3 (fun _ _ => c115))
                · rw [nI_clamp (by omega), hs.row (a := 11 + i) (by omega) (by omega) (by omega)] at c79
                  refine wm_aload_n 83 rfl dX5_mayJoin_82 rfl rfl ?_
                  refine wm_getR 86 rfl dX5_mayJoin_83 gf_X5_21_4 rfl rfl ?_
                  refine wm_iload 88 rfl dX5_mayJoin_86 rfl ?_
                  refine wm_aaload (r := 11 + j) 89 rfl dX5_mayJoin_88 rfl (vp_in_nI (by omega) (by omega)) (by rw [nI_clamp (by omega)]) ?_
                  refine wm_iload 91 rfl dX5_mayJoin_89 rfl ?_
                  refine wm_iaload 92 rfl dX5_mayJoin_91 (Lm_row (by omega) (by omega)) (vp_in_nI (by omega) (by omega)) ?_
                  refine wm_iconst (v := (-1)) 93 rfl dX5_mayJoin_92 (by decide) ?_
                  refine wm_icmp_eq 120 96 rfl (by decide) dX5_mayJoin_93 (fun c93 => ?_) (fun c93 => ?_)
                  · rw [nI_clamp (by omega), hs.row (a := 11 + j) (by omega) (by omega) (by omega)] at c93
                    refine wm_iinc (ls' := [(5, _), (0, _), (1, _), (2, _), (3, _), (4, _)]) 123 rfl dX5_mayJoin_120 rfl (nI_inc _) (by decide) rfl ?_
                    refine wm_goto 63 (by decide) dX5_mayJoin_123 ?_
                    refine wm_loc (ls2 := [(0, _), (1, _), (2, _), (3, _), (4, _), (5, _)]) [1, 2, 3, 4, 5, 0] rfl ?_
                    first
                      | exact ih3 (k - (s + 1)) (by omega) (s + 1) rfl (by omega) hji si sj (lt_s hinv3 (fun q _ => absurd c79 q))
                      | exact ih3 (k - (s + 1)) (by omega) (s + 1) rfl (by omega) hji si sj (lt_s hinv3 (fun _ q => absurd c93 q))
                      | exact ih3 (k - (s + 1)) (by omega) (s + 1) rfl (by omega) hji si sj (lt_s hinv3 (fun _ _ => c115))
                  · rw [nI_clamp (by omega), hs.row (a := 11 + j) (by omega) (by omega) (by omega)] at c93
                    refine wm_aload_n 97 rfl dX5_mayJoin_96 rfl rfl ?_
                    refine wm_getR 100 rfl dX5_mayJoin_97 gf_X5_21_4 rfl rfl ?_
                    refine wm_iload_n 101 rfl dX5_mayJoin_100 rfl rfl ?_
                    refine wm_aaload (r := 11 + i) 102 rfl dX5_mayJoin_101 rfl (vp_in_nI (by omega) (by omega)) (by rw [nI_clamp (by omega)]) ?_
                    refine wm_iload 104 rfl dX5_mayJoin_102 rfl ?_
                    refine wm_iaload 105 rfl dX5_mayJoin_104 (Lm_row (by omega) (by omega)) (vp_in_nI (by omega) (by omega)) ?_
                    refine wm_aload_n 106 rfl dX5_mayJoin_105 rfl rfl ?_
                    refine wm_getR 109 rfl dX5_mayJoin_106 gf_X5_21_4 rfl rfl ?_
                    refine wm_iload 111 rfl dX5_mayJoin_109 rfl ?_
                    refine wm_aaload (r := 11 + j) 112 rfl dX5_mayJoin_111 rfl (vp_in_nI (by omega) (by omega)) (by rw [nI_clamp (by omega)]) ?_
                    refine wm_iload 114 rfl dX5_mayJoin_112 rfl ?_
                    refine wm_iaload 115 rfl dX5_mayJoin_114 (Lm_row (by omega) (by omega)) (vp_in_nI (by omega) (by omega)) ?_
                    refine wm_icmp_eq 120 118 rfl (by decide) dX5_mayJoin_115 (fun c115 => ?_) (fun c115 => ?_)
                    · rw [nI_clamp (by omega), hs.row (a := 11 + i) (by omega) (by omega) (by omega), hs.row (a := 11 + j) (by omega) (by omega) (by omega)] at c115
                      refine wm_iinc (ls' := [(5, _), (0, _), (1, _), (2, _), (3, _), (4, _)]) 123 rfl dX5_mayJoin_120 rfl (nI_inc _) (by decide) rfl ?_
                      refine wm_goto 63 (by decide) dX5_mayJoin_123 ?_
                      refine wm_loc (ls2 := [(0, _), (1, _), (2, _), (3, _), (4, _), (5, _)]) [1, 2, 3, 4, 5, 0] rfl ?_
                      first
                        | exact ih3 (k - (s + 1)) (by omega) (s + 1) rfl (by omega) hji si sj (lt_s hinv3 (fun q _ => absurd c79 q))
                        | exact ih3 (k - (s + 1)) (by omega) (s + 1) rfl (by omega) hji si sj (lt_s hinv3 (fun _ q => absurd c93 q))
                        | exact ih3 (k - (s + 1)) (by omega) (s + 1) rfl (by omega) hji si sj (lt_s hinv3 (fun _ _ => c115))
                    · rw [nI_clamp (by omega), hs.row (a := 11 + i) (by omega) (by omega) (by omega), hs.row (a := 11 + j) (by omega) (by omega) (by omega)] at c115
                      refine wm_iconst (v := 0) 119 rfl dX5_mayJoin_118 (by decide) ?_
                      exact wm_iret dX5_mayJoin_119 (by first | rfl | exact zp_nar) (pP_i (zp_f (fun q => c115 (q.1 s gs i j hin (by omega) si sj c79 c93))))
          refine wm_iload 15 rfl dX5_mayJoin_13 rfl ?_
          refine wm_iload_n 16 rfl dX5_mayJoin_15 rfl rfl ?_
          refine wm_icmp_ge 158 19 rfl (by decide) dX5_mayJoin_16 (fun c16 => ?_) (fun c16 => ?_)
          · have gj : j = i := by have := le_of_nI c16 (by omega) (by omega); omega
            refine wm_iinc (ls' := [(3, _), (0, _), (1, _), (2, _), (4, _)]) 161 rfl dX5_mayJoin_158 rfl (nI_inc _) (by decide) rfl ?_
            refine wm_goto 2 (by decide) dX5_mayJoin_161 ?_
            refine wm_loc (ls2 := [(0, _), (1, _), (2, _), (3, _)]) [1, 2, 3, 0] rfl ?_
            subst gj
            exact ih (n - (j + 1)) (by omega) (j + 1) rfl (by omega) (lt_s hinv0 hinv)
          · have gj : j < i := lt_of_nnI c16 (by omega) (by omega)
            refine wm_aload_n 20 rfl dX5_mayJoin_19 rfl rfl ?_
            refine wm_iload_n 21 rfl dX5_mayJoin_20 rfl rfl ?_
            refine wm_callVi (ty := .boolean) 24 rfl dX5_mayJoin_21 (k_X5_counts l hs (r := i) (by omega)) ca_X5_counts cv_X5_counts rfl aw_19_11 rfl rfl ⟨Nat.le_of_ble_eq_true rfl, Nat.le_of_ble_eq_true rfl⟩ (Nat.le_of_ble_eq_true rfl) ⟨Nat.zero_le _, Nat.zero_le _⟩ ?_
            rintro r9 σ9 ⟨rfl, rfl⟩
            refine wm_if_eq 152 27 rfl (by decide) dX5_mayJoin_24 (fun c24 => ?_) (fun c24 => ?_)
            · refine wm_iinc (ls' := [(4, _), (0, _), (1, _), (2, _), (3, _)]) 155 rfl dX5_mayJoin_152 rfl (nI_inc _) (by decide) rfl ?_
              refine wm_goto 13 (by decide) dX5_mayJoin_155 ?_
              refine wm_loc (ls2 := [(0, _), (1, _), (2, _), (3, _), (4, _)]) [1, 2, 3, 4, 0] rfl ?_
              refine ih2 (i - (j + 1)) (by omega) (j + 1) rfl (by omega) hin (lt_s hinv (fun si sj => ?_))
              first
                | exact absurd si.1.2 (zp_0.mp c24)
                | exact absurd sj.1.2 (zp_0.mp c33)
                | exact absurd (show nI (c i) = nI h by rw [si.2]) c43
                | exact absurd (show nI (c j) = nI h by rw [sj.2]) c54
            · refine wm_aload_n 28 rfl dX5_mayJoin_27 rfl rfl ?_
              refine wm_iload 30 rfl dX5_mayJoin_28 rfl ?_
              refine wm_callVi (ty := .boolean) 33 rfl dX5_mayJoin_30 (k_X5_counts l hs (r := j) (by omega)) ca_X5_counts cv_X5_counts rfl aw_19_11 rfl rfl ⟨Nat.le_of_ble_eq_true rfl, Nat.le_of_ble_eq_true rfl⟩ (Nat.le_of_ble_eq_true rfl) ⟨Nat.zero_le _, Nat.zero_le _⟩ ?_
              rintro r9 σ9 ⟨rfl, rfl⟩
              refine wm_if_eq 152 36 rfl (by decide) dX5_mayJoin_33 (fun c33 => ?_) (fun c33 => ?_)
              · refine wm_iinc (ls' := [(4, _), (0, _), (1, _), (2, _), (3, _)]) 155 rfl dX5_mayJoin_152 rfl (nI_inc _) (by decide) rfl ?_
                refine wm_goto 13 (by decide) dX5_mayJoin_155 ?_
                refine wm_loc (ls2 := [(0, _), (1, _), (2, _), (3, _), (4, _)]) [1, 2, 3, 4, 0] rfl ?_
                refine ih2 (i - (j + 1)) (by omega) (j + 1) rfl (by omega) hin (lt_s hinv (fun si sj => ?_))
                first
                  | exact absurd si.1.2 (zp_0.mp c24)
                  | exact absurd sj.1.2 (zp_0.mp c33)
                  | exact absurd (show nI (c i) = nI h by rw [si.2]) c43
                  | exact absurd (show nI (c j) = nI h by rw [sj.2]) c54
              · refine wm_aload_n 37 rfl dX5_mayJoin_36 rfl rfl ?_
                refine wm_getR 40 rfl dX5_mayJoin_37 gf_X5_44_4 rfl rfl ?_
                refine wm_iload_n 41 rfl dX5_mayJoin_40 rfl rfl ?_
                refine wm_iaload 42 rfl dX5_mayJoin_41 rfl (in24 hin h24) ?_
                refine wm_iload_n 43 rfl dX5_mayJoin_42 rfl rfl ?_
                refine wm_icmp_ne 152 46 rfl (by decide) dX5_mayJoin_43 (fun c43 => ?_) (fun c43 => ?_)
                · have hci := (hc i hin).2
                  rw [nI_clamp (by omega), (hc i hin).1] at c43
                  refine wm_iinc (ls' := [(4, _), (0, _), (1, _), (2, _), (3, _)]) 155 rfl dX5_mayJoin_152 rfl (nI_inc _) (by decide) rfl ?_
                  refine wm_goto 13 (by decide) dX5_mayJoin_155 ?_
                  refine wm_loc (ls2 := [(0, _), (1, _), (2, _), (3, _), (4, _)]) [1, 2, 3, 4, 0] rfl ?_
                  refine ih2 (i - (j + 1)) (by omega) (j + 1) rfl (by omega) hin (lt_s hinv (fun si sj => ?_))
                  first
                    | exact absurd si.1.2 (zp_0.mp c24)
                    | exact absurd sj.1.2 (zp_0.mp c33)
                    | exact absurd (show nI (c i) = nI h by rw [si.2]) c43
                    | exact absurd (show nI (c j) = nI h by rw [sj.2]) c54
                · have hci := (hc i hin).2
                  rw [nI_clamp (by omega), (hc i hin).1] at c43
                  refine wm_aload_n 47 rfl dX5_mayJoin_46 rfl rfl ?_
                  refine wm_getR 50 rfl dX5_mayJoin_47 gf_X5_44_4 rfl rfl ?_
                  refine wm_iload 52 rfl dX5_mayJoin_50 rfl ?_
                  refine wm_iaload 53 rfl dX5_mayJoin_52 rfl (in24 (by omega) h24) ?_
                  refine wm_iload_n 54 rfl dX5_mayJoin_53 rfl rfl ?_
                  refine wm_icmp_eq 60 57 rfl (by decide) dX5_mayJoin_54 (fun c54 => ?_) (fun c54 => ?_)
                  · have hcj := (hc j (by omega)).2
                    rw [nI_clamp (by omega), (hc j (by omega)).1] at c54
                    refine wm_iconst (v := 0) 61 rfl dX5_mayJoin_60 (by decide) ?_
                    refine wm_istore (ls' := [(5, _), (0, _), (1, _), (2, _), (3, _), (4, _)]) 63 rfl dX5_mayJoin_61 (by decide) rfl ?_
                    refine wm_loc (ls2 := [(0, _), (1, _), (2, _), (3, _), (4, _), (5, _)]) [1, 2, 3, 4, 5, 0] rfl ?_
                    exact lps k 0 rfl (Nat.zero_le _) gj ⟨⟨hin, zp_n.mp c24⟩, eq_of_nI c43 (by omega) (by omega)⟩ ⟨⟨by omega, zp_n.mp c33⟩, eq_of_nI c54 (by omega) (by omega)⟩ (fun s2 hs2 => absurd hs2 (Nat.not_lt_zero s2))
                  · have hcj := (hc j (by omega)).2
                    rw [nI_clamp (by omega), (hc j (by omega)).1] at c54
                    refine wm_goto 152 (by decide) dX5_mayJoin_57 ?_
                    refine wm_iinc (ls' := [(4, _), (0, _), (1, _), (2, _), (3, _)]) 155 rfl dX5_mayJoin_152 rfl (nI_inc _) (by decide) rfl ?_
                    refine wm_goto 13 (by decide) dX5_mayJoin_155 ?_
                    refine wm_loc (ls2 := [(0, _), (1, _), (2, _), (3, _), (4, _)]) [1, 2, 3, 4, 0] rfl ?_
                    refine ih2 (i - (j + 1)) (by omega) (j + 1) rfl (by omega) hin (lt_s hinv (fun si sj => ?_))
                    first
                      | exact absurd si.1.2 (zp_0.mp c24)
                      | exact absurd sj.1.2 (zp_0.mp c33)
                      | exact absurd (show nI (c i) = nI h by rw [si.2]) c43
                      | exact absurd (show nI (c j) = nI h by rw [sj.2]) c54
      refine wm_iload_n 3 rfl dX5_mayJoin_2 rfl rfl ?_
      refine wm_aload_n 4 rfl dX5_mayJoin_3 rfl rfl ?_
      refine wm_getI 7 rfl dX5_mayJoin_4 gf_X5_56_4 rfl rfl ?_
      refine wm_icmp_ge 164 10 rfl (by decide) dX5_mayJoin_7 (fun c7 => ?_) (fun c7 => ?_)
      · rw [(hs.mI hI).1] at c7
        have gi : i = n := by have := le_of_nI c7 (by omega) (by omega); omega
        refine wm_iconst (v := 1) 165 rfl dX5_mayJoin_164 (by decide) ?_
        exact wm_iret dX5_mayJoin_165 (by first | rfl | exact zp_nar) (pP_i (zp_t (okp_mj h24 hQ (by subst gi; exact hinv0))))
      · rw [(hs.mI hI).1] at c7
        have gi : i < n := lt_of_nnI c7 (by omega) (by omega)
        refine wm_iconst (v := 0) 11 rfl dX5_mayJoin_10 (by decide) ?_
        refine wm_istore (ls' := [(4, _), (0, _), (1, _), (2, _), (3, _)]) 13 rfl dX5_mayJoin_11 (by decide) rfl ?_
        refine wm_loc (ls2 := [(0, _), (1, _), (2, _), (3, _), (4, _)]) [1, 2, 3, 4, 0] rfl ?_
        exact lpi i 0 rfl (Nat.zero_le _) gi (fun b hb => absurd hb (Nat.not_lt_zero b))
  refine wm_iconst (v := 0) 1 rfl dX5_mayJoin_0 (by decide) ?_
  refine wm_istore_n (ls' := [(3, _), (0, _), (1, _), (2, _)]) 2 rfl dX5_mayJoin_1 rfl (by decide) rfl ?_
  refine wm_loc (ls2 := [(0, _), (1, _), (2, _), (3, _)]) [1, 2, 3, 0] rfl ?_
  exact lpo n 0 rfl (Nat.zero_le _) (fun a ha => absurd ha (Nat.not_lt_zero a))
