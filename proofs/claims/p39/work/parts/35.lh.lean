theorem ca_X4_addSource : zCal yX4_addSource cX4_addSource 2 (some .int) 1 := ⟨aw_16_6, aw_1_2, by decide +kernel, by decide +kernel, by decide +kernel⟩
theorem cv_X4_addSource : zCaV RX4 yX4_addSource := ⟨aw_16_4, aw_16_5⟩
theorem ca_X4_setTrust : zCal yX4_setTrust cX4_setTrust 4 (some .int) 2 := ⟨aw_16_23, aw_1_2, by decide +kernel, by decide +kernel, by decide +kernel⟩
theorem cv_X4_setTrust : zCaV RX4 yX4_setTrust := ⟨aw_16_21, aw_16_22⟩
theorem ca_X4_addRecord : zCal yX4_addRecord cX4_addRecord 6 (some .int) 4 := ⟨aw_17_11, aw_1_2, by decide +kernel, by decide +kernel, by decide +kernel⟩
theorem cv_X4_addRecord : zCaV RX4 yX4_addRecord := ⟨aw_17_9, aw_17_10⟩
theorem ca_X4_setKey : zCal yX4_setKey cX4_setKey 5 (some .int) 3 := ⟨aw_17_23, aw_1_2, by decide +kernel, by decide +kernel, by decide +kernel⟩
theorem cv_X4_setKey : zCaV RX4 yX4_setKey := ⟨aw_17_21, aw_17_22⟩
theorem ca_X4_setFact : zCal yX4_setFact cX4_setFact 5 (some .int) 3 := ⟨aw_18_3, aw_1_2, by decide +kernel, by decide +kernel, by decide +kernel⟩
theorem cv_X4_setFact : zCaV RX4 yX4_setFact := ⟨aw_18_1, aw_18_2⟩
theorem ca_X4_thingsIf : zCal yX4_thingsIf cX4_thingsIf 6 (some .int) 3 := ⟨aw_18_7, aw_1_2, by decide +kernel, by decide +kernel, by decide +kernel⟩
theorem cv_X4_thingsIf : zCaV RX4 yX4_thingsIf := ⟨aw_18_5, aw_18_6⟩
theorem ca_X4_see : zCal yX4_see cX4_see 3 (some .int) 1 := ⟨aw_10_13, aw_1_2, by decide +kernel, by decide +kernel, by decide +kernel⟩
theorem cv_X4_see : zCaV RX4 yX4_see := ⟨aw_10_11, aw_10_12⟩
theorem ca_X4_drop : zCal yX4_drop cX4_drop 2 (some .int) 1 := ⟨aw_10_23, aw_1_2, by decide +kernel, by decide +kernel, by decide +kernel⟩
theorem cv_X4_drop : zCaV RX4 yX4_drop := ⟨aw_10_21, aw_10_22⟩
theorem ca_X4_seen : zCal yX4_seen cX4_seen 2 (some .int) 1 := ⟨aw_11_7, aw_1_2, by decide +kernel, by decide +kernel, by decide +kernel⟩
theorem cv_X4_seen : zCaV RX4 yX4_seen := ⟨aw_11_5, aw_11_6⟩
theorem ca_X4_thing : zCal yX4_thing cX4_thing 2 (some .int) 1 := ⟨aw_11_11, aw_1_2, by decide +kernel, by decide +kernel, by decide +kernel⟩
theorem cv_X4_thing : zCaV RX4 yX4_thing := ⟨aw_11_9, aw_11_10⟩
theorem ca_X4_thingByRounds : zCal yX4_thingByRounds cX4_thingByRounds 2 (some .int) 1 := ⟨aw_11_19, aw_1_2, by decide +kernel, by decide +kernel, by decide +kernel⟩
theorem cv_X4_thingByRounds : zCaV RX4 yX4_thingByRounds := ⟨aw_11_17, aw_11_18⟩
theorem ca_X4_size : zCal yX4_size cX4_size 2 (some .int) 1 := ⟨aw_12_4, aw_1_2, by decide +kernel, by decide +kernel, by decide +kernel⟩
theorem cv_X4_size : zCaV RX4 yX4_size := ⟨aw_12_2, aw_12_3⟩
theorem ca_X4_weight : zCal yX4_weight cX4_weight 2 (some .int) 1 := ⟨aw_12_8, aw_1_2, by decide +kernel, by decide +kernel, by decide +kernel⟩
theorem cv_X4_weight : zCaV RX4 yX4_weight := ⟨aw_12_6, aw_12_7⟩
theorem ca_X4_thingsWithout : zCal yX4_thingsWithout cX4_thingsWithout 3 (some .int) 1 := ⟨aw_12_16, aw_1_2, by decide +kernel, by decide +kernel, by decide +kernel⟩
theorem cv_X4_thingsWithout : zCaV RX4 yX4_thingsWithout := ⟨aw_12_14, aw_12_15⟩
theorem ca_X4_forbid : zCal yX4_forbid cX4_forbid 3 (some .int) 2 := ⟨aw_18_14, aw_1_2, by decide +kernel, by decide +kernel, by decide +kernel⟩
theorem cv_X4_forbid : zCaV RX4 yX4_forbid := ⟨aw_18_12, aw_18_13⟩
theorem ca_X4_allow : zCal yX4_allow cX4_allow 3 (some .int) 2 := ⟨aw_19_10, aw_1_2, by decide +kernel, by decide +kernel, by decide +kernel⟩
theorem cv_X4_allow : zCaV RX4 yX4_allow := ⟨aw_19_8, aw_19_9⟩
theorem ca_X4_areTogether : zCal yX4_areTogether cX4_areTogether 3 (some .boolean) 2 := ⟨aw_19_22, aw_1_2, by decide +kernel, by decide +kernel, by decide +kernel⟩
theorem cv_X4_areTogether : zCaV RX4 yX4_areTogether := ⟨aw_19_20, aw_19_21⟩
theorem ca_X4_step : zCal yX4_step cX4_step 4 (some .int) 2 := ⟨aw_20_2, aw_1_2, by decide +kernel, by decide +kernel, by decide +kernel⟩
theorem cv_X4_step : zCaV RX4 yX4_step := ⟨aw_20_0, aw_20_1⟩
theorem ca_X4_thingsIfAllowed : zCal yX4_thingsIfAllowed cX4_thingsIfAllowed 4 (some .int) 2 := ⟨aw_20_10, aw_1_2, by decide +kernel, by decide +kernel, by decide +kernel⟩
theorem cv_X4_thingsIfAllowed : zCaV RX4 yX4_thingsIfAllowed := ⟨aw_20_8, aw_20_9⟩
theorem ca_X4_key : zCal yX4_key cX4_key 3 (some .int) 2 := ⟨aw_13_18, aw_1_2, by decide +kernel, by decide +kernel, by decide +kernel⟩
theorem cv_X4_key : zCaV RX4 yX4_key := ⟨aw_13_16, aw_13_17⟩
theorem ca_X4_member : zCal yX4_member cX4_member 4 (some .int) 2 := ⟨aw_13_8, aw_1_2, by decide +kernel, by decide +kernel, by decide +kernel⟩
theorem cv_X4_member : zCaV RX4 yX4_member := ⟨aw_13_6, aw_13_7⟩
theorem ca_X4_shared : zCal yX4_shared cX4_shared 4 (some .int) 1 := ⟨aw_22_0, aw_1_2, by decide +kernel, by decide +kernel, by decide +kernel⟩
theorem cv_X4_shared : zCaV RX4 yX4_shared := ⟨aw_21_22, aw_21_23⟩
theorem ca_X4_fact : zCal yX4_fact cX4_fact 4 (some .int) 2 := ⟨aw_14_5, aw_1_2, by decide +kernel, by decide +kernel, by decide +kernel⟩
theorem cv_X4_fact : zCaV RX4 yX4_fact := ⟨aw_14_3, aw_14_4⟩
theorem ca_X4_factByPairs : zCal yX4_factByPairs cX4_factByPairs 4 (some .int) 2 := ⟨aw_15_5, aw_1_2, by decide +kernel, by decide +kernel, by decide +kernel⟩
theorem cv_X4_factByPairs : zCaV RX4 yX4_factByPairs := ⟨aw_15_3, aw_15_4⟩
theorem ca_X4_factFrom : zCal yX4_factFrom cX4_factFrom 4 (some .int) 2 := ⟨aw_15_21, aw_1_2, by decide +kernel, by decide +kernel, by decide +kernel⟩
theorem cv_X4_factFrom : zCaV RX4 yX4_factFrom := ⟨aw_15_19, aw_15_20⟩
theorem ca_X4_agreement : zCal yX4_agreement cX4_agreement 8 (some .float) 2 := ⟨aw_21_8, aw_1_2, by decide +kernel, by decide +kernel, by decide +kernel⟩
theorem cv_X4_agreement : zCaV RX4 yX4_agreement := ⟨aw_21_6, aw_21_7⟩
theorem ca_X4_pass : zCal yX4_pass cX4_pass 2 (some .int) 1 := ⟨aw_20_21, aw_1_2, by decide +kernel, by decide +kernel, by decide +kernel⟩
theorem cv_X4_pass : zCaV RX4 yX4_pass := ⟨aw_20_19, aw_20_20⟩
theorem ca_X4_setLimit : zCal yX4_setLimit cX4_setLimit 3 (some .int) 1 := ⟨aw_20_17, aw_1_2, by decide +kernel, by decide +kernel, by decide +kernel⟩
theorem cv_X4_setLimit : zCaV RX4 yX4_setLimit := ⟨aw_20_15, aw_20_16⟩
/-! THE LAW'S METHODS, each way of them over what the class's call does -/
/-- the number told for what was thrown -/
def exq {α : Type} (ec : List (String × α)) (LX : List (String × Prop)) (v : α) : Prop := ∃ E, thr LX E ∧ (E, v) ∈ ec
theorem thr_mem : ∀ {L : List (String × Prop)} {E : String}, thr L E → E ∈ L.map Prod.fst
  | [], _, h => h.elim
  | (E0, P) :: r, E, h => by
    rcases h with ⟨rfl, -⟩ | ⟨-, h⟩
    · exact List.mem_cons_self
    · exact List.mem_cons_of_mem _ (thr_mem h)
theorem h_sourceA (l : Launch) {σ : Sg} {post : Int32 → Sg → Prop} {LX : List (String × Prop)} {mc ms : Nat} (p0 : Int32) (hM : xMi l yX4_addSource cX4_addSource 2 .int 7 mc ms Lc [.ref 0, .int p0] σ post (pT σ LX)) (hL : ∀ E ∈ LX.map Prod.fst, E ∈ [eIO, eIA, eIS]) : lMi l yL_source cL_source 4 [(0, 18, 19, 17), (0, 18, 24, 19), (0, 18, 29, 21)] 8 mc ms [.ref 0, .int (-1), .int p0] σ (fun v σ1 => post v σ1 ∨ (stb σ σ1 ∧ exq [(eIO, (-1001 : Int32)), (eIA, (-1002 : Int32)), (eIS, (-1003 : Int32))] LX v)) := by
  refine lMet_ofH (by decide +kernel) (Nat.le_of_ble_eq_true rfl) (fun D cT ad sz => ?_)
  have hx : ∀ E σ1, pT σ LX E σ1 → ∃ ps, zHd cL_source [(0, 18, 19, 17), (0, 18, 24, 19), (0, 18, 29, 21)] 6 4 E ps ∧ Wm (zTh [(0, 18, 19, 17), (0, 18, 24, 19), (0, 18, 29, 21)]) l (rmx 8 mc ms) RL cL_source 4 (some .int) D cT ad Lc (zA ad Lc.length sz) (zZl (fun D cT ad L sz => zQi D cT ad L sz (fun v σ1 => post v σ1 ∨ (stb σ σ1 ∧ exq [(eIO, (-1001 : Int32)), (eIA, (-1002 : Int32)), (eIS, (-1003 : Int32))] LX v))) mc ms D cT ad Lc sz) [] ps [] [] σ1 (0 + mc) (0 + ms) := by
    intro E σ1 hE
    have hm := hL E (thr_mem hE.2)
    simp only [List.mem_cons, List.not_mem_nil, or_false] at hm
    rcases hm with rfl | rfl | rfl
    · refine ⟨20, ⟨[], ⟨0, 18, 19, 17⟩, [⟨0, 18, 24, 19⟩, ⟨0, 18, 29, 21⟩], 3, rfl, (fun _ h => absurd h List.not_mem_nil), by decide, by decide, aw_10_9, List.mem_of_getElem? (i := 3) rfl, by decide, Or.inl ⟨3, rfl, dL_source_19, rfl⟩⟩, ?_⟩
      refine wm_sipush (v := (-1001)) 23 rfl dL_source_20 (by decide) ?_
      exact wll_iret dL_source_23 rfl (Or.inr ⟨hE.1, eIO, hE.2, List.mem_of_getElem? (i := 0) rfl⟩) (Nat.le_of_eq (Nat.zero_add _)) (Nat.le_of_eq (Nat.zero_add _))
    · refine ⟨25, ⟨[⟨0, 18, 19, 17⟩], ⟨0, 18, 24, 19⟩, [⟨0, 18, 29, 21⟩], 3, rfl, (by
        intro y hy
        simp only [List.mem_cons, List.not_mem_nil, or_false] at hy
        subst hy
        exact Or.inr ⟨by decide, eIO, aw_10_9, List.mem_of_getElem? (i := 0) rfl⟩), by decide, by decide, aw_16_1, List.mem_of_getElem? (i := 1) rfl, by decide, Or.inl ⟨3, rfl, dL_source_24, rfl⟩⟩, ?_⟩
      refine wm_sipush (v := (-1002)) 28 rfl dL_source_25 (by decide) ?_
      exact wll_iret dL_source_28 rfl (Or.inr ⟨hE.1, eIA, hE.2, List.mem_of_getElem? (i := 1) rfl⟩) (Nat.le_of_eq (Nat.zero_add _)) (Nat.le_of_eq (Nat.zero_add _))
    · refine ⟨30, ⟨[⟨0, 18, 19, 17⟩, ⟨0, 18, 24, 19⟩], ⟨0, 18, 29, 21⟩, [], 3, rfl, (by
        intro y hy
        simp only [List.mem_cons, List.not_mem_nil, or_false] at hy
        rcases hy with rfl | rfl
        · exact Or.inr ⟨by decide, eIO, aw_10_9, List.mem_of_getElem? (i := 1) rfl⟩
        · exact Or.inr ⟨by decide, eIA, aw_16_1, List.mem_of_getElem? (i := 2) rfl⟩), by decide, by decide, aw_16_2, List.mem_of_getElem? (i := 2) rfl, by decide, Or.inl ⟨3, rfl, dL_source_29, rfl⟩⟩, ?_⟩
      refine wm_sipush (v := (-1003)) 33 rfl dL_source_30 (by decide) ?_
      exact wll_iret dL_source_33 rfl (Or.inr ⟨hE.1, eIS, hE.2, List.mem_of_getElem? (i := 2) rfl⟩) (Nat.le_of_eq (Nat.zero_add _)) (Nat.le_of_eq (Nat.zero_add _))
  show Wm (zTh [(0, 18, 19, 17), (0, 18, 24, 19), (0, 18, 29, 21)]) l (rmx 8 mc ms) RL cL_source 4 (some .int) D cT ad Lc (zA ad Lc.length sz) (zZl (fun D cT ad L sz => zQi D cT ad L sz (fun v σ1 => post v σ1 ∨ (stb σ σ1 ∧ exq [(eIO, (-1001 : Int32)), (eIA, (-1002 : Int32)), (eIS, (-1003 : Int32))] LX v))) mc ms D cT ad Lc sz) [] 0 (lv_args 0 [.ref 0, .int (-1), .int p0]) [] σ 0 0
  refine wm_iload_n 1 rfl dL_source_0 rfl rfl ?_
  refine wm_if_ge 12 4 rfl (by decide) dL_source_1 (fun c9 => absurd c9 (by decide)) (fun _ => ?_)
  refine wm_aload_n 5 rfl dL_source_4 rfl rfl ?_
  refine wm_iload_n 6 rfl dL_source_5 rfl rfl ?_
  refine wlh_callVi 9 rfl dL_source_6 hM ca_X4_addSource cv_X4_addSource rfl aw_16_3 rfl rfl ⟨Nat.le_of_ble_eq_true rfl, Nat.le_of_ble_eq_true rfl⟩ (Nat.le_of_ble_eq_true rfl) ⟨Nat.le_of_eq (Nat.zero_add _), Nat.le_of_eq (Nat.zero_add _)⟩ hx (fun r σ1 hp => ?_)
  refine wm_goto 18 (by decide) dL_source_9 ?_
  exact wll_iret dL_source_18 rfl (Or.inl hp) (Nat.le_of_eq (Nat.zero_add _)) (Nat.le_of_eq (Nat.zero_add _))
theorem h_sourceT (l : Launch) {σ : Sg} {post : Int32 → Sg → Prop} {LX : List (String × Prop)} {mc ms : Nat} (p0 p1 : Int32) (h0 : (0 : Int32) ≤ p0) (hM : xMi l yX4_setTrust cX4_setTrust 4 .int 7 mc ms Lc [.ref 0, .int p0, .int p1] σ post (pT σ LX)) (hL : ∀ E ∈ LX.map Prod.fst, E ∈ [eIO, eIA, eIS]) : lMi l yL_source cL_source 4 [(0, 18, 19, 17), (0, 18, 24, 19), (0, 18, 29, 21)] 8 mc ms [.ref 0, .int p0, .int p1] σ (fun v σ1 => post v σ1 ∨ (stb σ σ1 ∧ exq [(eIO, (-1001 : Int32)), (eIA, (-1002 : Int32)), (eIS, (-1003 : Int32))] LX v)) := by
  refine lMet_ofH (by decide +kernel) (Nat.le_of_ble_eq_true rfl) (fun D cT ad sz => ?_)
  have hx : ∀ E σ1, pT σ LX E σ1 → ∃ ps, zHd cL_source [(0, 18, 19, 17), (0, 18, 24, 19), (0, 18, 29, 21)] 15 4 E ps ∧ Wm (zTh [(0, 18, 19, 17), (0, 18, 24, 19), (0, 18, 29, 21)]) l (rmx 8 mc ms) RL cL_source 4 (some .int) D cT ad Lc (zA ad Lc.length sz) (zZl (fun D cT ad L sz => zQi D cT ad L sz (fun v σ1 => post v σ1 ∨ (stb σ σ1 ∧ exq [(eIO, (-1001 : Int32)), (eIA, (-1002 : Int32)), (eIS, (-1003 : Int32))] LX v))) mc ms D cT ad Lc sz) [] ps [] [] σ1 (0 + mc) (0 + ms) := by
    intro E σ1 hE
    have hm := hL E (thr_mem hE.2)
    simp only [List.mem_cons, List.not_mem_nil, or_false] at hm
    rcases hm with rfl | rfl | rfl
    · refine ⟨20, ⟨[], ⟨0, 18, 19, 17⟩, [⟨0, 18, 24, 19⟩, ⟨0, 18, 29, 21⟩], 3, rfl, (fun _ h => absurd h List.not_mem_nil), by decide, by decide, aw_10_9, List.mem_of_getElem? (i := 3) rfl, by decide, Or.inl ⟨3, rfl, dL_source_19, rfl⟩⟩, ?_⟩
      refine wm_sipush (v := (-1001)) 23 rfl dL_source_20 (by decide) ?_
      exact wll_iret dL_source_23 rfl (Or.inr ⟨hE.1, eIO, hE.2, List.mem_of_getElem? (i := 0) rfl⟩) (Nat.le_of_eq (Nat.zero_add _)) (Nat.le_of_eq (Nat.zero_add _))
    · refine ⟨25, ⟨[⟨0, 18, 19, 17⟩], ⟨0, 18, 24, 19⟩, [⟨0, 18, 29, 21⟩], 3, rfl, (by
        intro y hy
        simp only [List.mem_cons, List.not_mem_nil, or_false] at hy
        subst hy
        exact Or.inr ⟨by decide, eIO, aw_10_9, List.mem_of_getElem? (i := 0) rfl⟩), by decide, by decide, aw_16_1, List.mem_of_getElem? (i := 1) rfl, by decide, Or.inl ⟨3, rfl, dL_source_24, rfl⟩⟩, ?_⟩
      refine wm_sipush (v := (-1002)) 28 rfl dL_source_25 (by decide) ?_
      exact wll_iret dL_source_28 rfl (Or.inr ⟨hE.1, eIA, hE.2, List.mem_of_getElem? (i := 1) rfl⟩) (Nat.le_of_eq (Nat.zero_add _)) (Nat.le_of_eq (Nat.zero_add _))
    · refine ⟨30, ⟨[⟨0, 18, 19, 17⟩, ⟨0, 18, 24, 19⟩], ⟨0, 18, 29, 21⟩, [], 3, rfl, (by
        intro y hy
        simp only [List.mem_cons, List.not_mem_nil, or_false] at hy
        rcases hy with rfl | rfl
        · exact Or.inr ⟨by decide, eIO, aw_10_9, List.mem_of_getElem? (i := 1) rfl⟩
        · exact Or.inr ⟨by decide, eIA, aw_16_1, List.mem_of_getElem? (i := 2) rfl⟩), by decide, by decide, aw_16_2, List.mem_of_getElem? (i := 2) rfl, by decide, Or.inl ⟨3, rfl, dL_source_29, rfl⟩⟩, ?_⟩
      refine wm_sipush (v := (-1003)) 33 rfl dL_source_30 (by decide) ?_
      exact wll_iret dL_source_33 rfl (Or.inr ⟨hE.1, eIS, hE.2, List.mem_of_getElem? (i := 2) rfl⟩) (Nat.le_of_eq (Nat.zero_add _)) (Nat.le_of_eq (Nat.zero_add _))
  show Wm (zTh [(0, 18, 19, 17), (0, 18, 24, 19), (0, 18, 29, 21)]) l (rmx 8 mc ms) RL cL_source 4 (some .int) D cT ad Lc (zA ad Lc.length sz) (zZl (fun D cT ad L sz => zQi D cT ad L sz (fun v σ1 => post v σ1 ∨ (stb σ σ1 ∧ exq [(eIO, (-1001 : Int32)), (eIA, (-1002 : Int32)), (eIS, (-1003 : Int32))] LX v))) mc ms D cT ad Lc sz) [] 0 (lv_args 0 [.ref 0, .int p0, .int p1]) [] σ 0 0
  refine wm_iload_n 1 rfl dL_source_0 rfl rfl ?_
  refine wm_if_ge 12 4 rfl (by decide) dL_source_1 (fun _ => ?_) (fun c9 => absurd h0 c9)
  refine wm_aload_n 13 rfl dL_source_12 rfl rfl ?_
  refine wm_iload_n 14 rfl dL_source_13 rfl rfl ?_
  refine wm_iload_n 15 rfl dL_source_14 rfl rfl ?_
  refine wlh_callVi 18 rfl dL_source_15 hM ca_X4_setTrust cv_X4_setTrust rfl aw_16_20 rfl rfl ⟨Nat.le_of_ble_eq_true rfl, Nat.le_of_ble_eq_true rfl⟩ (Nat.le_of_ble_eq_true rfl) ⟨Nat.le_of_eq (Nat.zero_add _), Nat.le_of_eq (Nat.zero_add _)⟩ hx (fun r σ1 hp => ?_)
  exact wll_iret dL_source_18 rfl (Or.inl hp) (Nat.le_of_eq (Nat.zero_add _)) (Nat.le_of_eq (Nat.zero_add _))
theorem h_record (l : Launch) {σ : Sg} {post : Int32 → Sg → Prop} {LX : List (String × Prop)} {mc ms : Nat} (p0 p1 p2 p3 : Int32) (hM : xMi l yX4_addRecord cX4_addRecord 6 .int 7 mc ms Lc [.ref 0, .int p0, .int p1, .int p2, .int p3] σ post (pT σ LX)) (hL : ∀ E ∈ LX.map Prod.fst, E ∈ [eIO, eIA, eIS]) : lMi l yL_record cL_record 6 [(0, 9, 10, 17), (0, 9, 16, 19), (0, 9, 22, 21)] 8 mc ms [.ref 0, .int p0, .int p1, .int p2, .int p3] σ (fun v σ1 => post v σ1 ∨ (stb σ σ1 ∧ exq [(eIO, (-1001 : Int32)), (eIA, (-1002 : Int32)), (eIS, (-1003 : Int32))] LX v)) := by
  refine lMet_ofH (by decide +kernel) (Nat.le_of_ble_eq_true rfl) (fun D cT ad sz => ?_)
  have hx : ∀ E σ1, pT σ LX E σ1 → ∃ ps, zHd cL_record [(0, 9, 10, 17), (0, 9, 16, 19), (0, 9, 22, 21)] 6 6 E ps ∧ Wm (zTh [(0, 9, 10, 17), (0, 9, 16, 19), (0, 9, 22, 21)]) l (rmx 8 mc ms) RL cL_record 6 (some .int) D cT ad Lc (zA ad Lc.length sz) (zZl (fun D cT ad L sz => zQi D cT ad L sz (fun v σ1 => post v σ1 ∨ (stb σ σ1 ∧ exq [(eIO, (-1001 : Int32)), (eIA, (-1002 : Int32)), (eIS, (-1003 : Int32))] LX v))) mc ms D cT ad Lc sz) [] ps [] [] σ1 (0 + mc) (0 + ms) := by
    intro E σ1 hE
    have hm := hL E (thr_mem hE.2)
    simp only [List.mem_cons, List.not_mem_nil, or_false] at hm
    rcases hm with rfl | rfl | rfl
    · refine ⟨12, ⟨[], ⟨0, 9, 10, 17⟩, [⟨0, 9, 16, 19⟩, ⟨0, 9, 22, 21⟩], 5, rfl, (fun _ h => absurd h List.not_mem_nil), by decide, by decide, aw_10_9, List.mem_of_getElem? (i := 3) rfl, by decide, Or.inr ⟨dL_record_10, rfl⟩⟩, ?_⟩
      refine wm_sipush (v := (-1001)) 15 rfl dL_record_12 (by decide) ?_
      exact wll_iret dL_record_15 rfl (Or.inr ⟨hE.1, eIO, hE.2, List.mem_of_getElem? (i := 0) rfl⟩) (Nat.le_of_eq (Nat.zero_add _)) (Nat.le_of_eq (Nat.zero_add _))
    · refine ⟨18, ⟨[⟨0, 9, 10, 17⟩], ⟨0, 9, 16, 19⟩, [⟨0, 9, 22, 21⟩], 5, rfl, (by
        intro y hy
        simp only [List.mem_cons, List.not_mem_nil, or_false] at hy
        subst hy
        exact Or.inr ⟨by decide, eIO, aw_10_9, List.mem_of_getElem? (i := 0) rfl⟩), by decide, by decide, aw_16_1, List.mem_of_getElem? (i := 1) rfl, by decide, Or.inr ⟨dL_record_16, rfl⟩⟩, ?_⟩
      refine wm_sipush (v := (-1002)) 21 rfl dL_record_18 (by decide) ?_
      exact wll_iret dL_record_21 rfl (Or.inr ⟨hE.1, eIA, hE.2, List.mem_of_getElem? (i := 1) rfl⟩) (Nat.le_of_eq (Nat.zero_add _)) (Nat.le_of_eq (Nat.zero_add _))
    · refine ⟨24, ⟨[⟨0, 9, 10, 17⟩, ⟨0, 9, 16, 19⟩], ⟨0, 9, 22, 21⟩, [], 5, rfl, (by
        intro y hy
        simp only [List.mem_cons, List.not_mem_nil, or_false] at hy
        rcases hy with rfl | rfl
        · exact Or.inr ⟨by decide, eIO, aw_10_9, List.mem_of_getElem? (i := 1) rfl⟩
        · exact Or.inr ⟨by decide, eIA, aw_16_1, List.mem_of_getElem? (i := 2) rfl⟩), by decide, by decide, aw_16_2, List.mem_of_getElem? (i := 2) rfl, by decide, Or.inr ⟨dL_record_22, rfl⟩⟩, ?_⟩
      refine wm_sipush (v := (-1003)) 27 rfl dL_record_24 (by decide) ?_
      exact wll_iret dL_record_27 rfl (Or.inr ⟨hE.1, eIS, hE.2, List.mem_of_getElem? (i := 2) rfl⟩) (Nat.le_of_eq (Nat.zero_add _)) (Nat.le_of_eq (Nat.zero_add _))
  show Wm (zTh [(0, 9, 10, 17), (0, 9, 16, 19), (0, 9, 22, 21)]) l (rmx 8 mc ms) RL cL_record 6 (some .int) D cT ad Lc (zA ad Lc.length sz) (zZl (fun D cT ad L sz => zQi D cT ad L sz (fun v σ1 => post v σ1 ∨ (stb σ σ1 ∧ exq [(eIO, (-1001 : Int32)), (eIA, (-1002 : Int32)), (eIS, (-1003 : Int32))] LX v))) mc ms D cT ad Lc sz) [] 0 (lv_args 0 [.ref 0, .int p0, .int p1, .int p2, .int p3]) [] σ 0 0
  refine wm_aload_n 1 rfl dL_record_0 rfl rfl ?_
  refine wm_iload_n 2 rfl dL_record_1 rfl rfl ?_
  refine wm_iload_n 3 rfl dL_record_2 rfl rfl ?_
  refine wm_iload_n 4 rfl dL_record_3 rfl rfl ?_
  refine wm_iload 6 rfl dL_record_4 rfl ?_
  refine wlh_callVi 9 rfl dL_record_6 hM ca_X4_addRecord cv_X4_addRecord rfl aw_17_8 rfl rfl ⟨Nat.le_of_ble_eq_true rfl, Nat.le_of_ble_eq_true rfl⟩ (Nat.le_of_ble_eq_true rfl) ⟨Nat.le_of_eq (Nat.zero_add _), Nat.le_of_eq (Nat.zero_add _)⟩ hx (fun r σ1 hp => ?_)
  exact wll_iret dL_record_9 rfl (Or.inl hp) (Nat.le_of_eq (Nat.zero_add _)) (Nat.le_of_eq (Nat.zero_add _))
theorem h_sets0 (l : Launch) {σ : Sg} {post : Int32 → Sg → Prop} {LX : List (String × Prop)} {mc ms : Nat} (p0 p1 p2 : Int32) (hM : xMi l yX4_setKey cX4_setKey 5 .int 7 mc ms Lc [.ref 0, .int p0, .int p1, .int p2] σ post (pT σ LX)) (hL : ∀ E ∈ LX.map Prod.fst, E ∈ [eIO, eIA]) : lMi l yL_sets cL_sets 6 [(0, 38, 39, 17), (0, 38, 45, 19)] 8 mc ms [.ref 0, .int p0, .int p1, .int p2, .int 0] σ (fun v σ1 => post v σ1 ∨ (stb σ σ1 ∧ exq [(eIO, (-1001 : Int32)), (eIA, (-1002 : Int32))] LX v)) := by
  refine lMet_ofH (by decide +kernel) (Nat.le_of_ble_eq_true rfl) (fun D cT ad sz => ?_)
  have hx : ∀ E σ1, pT σ LX E σ1 → ∃ ps, zHd cL_sets [(0, 38, 39, 17), (0, 38, 45, 19)] 9 6 E ps ∧ Wm (zTh [(0, 38, 39, 17), (0, 38, 45, 19)]) l (rmx 8 mc ms) RL cL_sets 6 (some .int) D cT ad Lc (zA ad Lc.length sz) (zZl (fun D cT ad L sz => zQi D cT ad L sz (fun v σ1 => post v σ1 ∨ (stb σ σ1 ∧ exq [(eIO, (-1001 : Int32)), (eIA, (-1002 : Int32))] LX v))) mc ms D cT ad Lc sz) [] ps [] [] σ1 (0 + mc) (0 + ms) := by
    intro E σ1 hE
    have hm := hL E (thr_mem hE.2)
    simp only [List.mem_cons, List.not_mem_nil, or_false] at hm
    rcases hm with rfl | rfl
    · refine ⟨41, ⟨[], ⟨0, 38, 39, 17⟩, [⟨0, 38, 45, 19⟩], 5, rfl, (fun _ h => absurd h List.not_mem_nil), by decide, by decide, aw_10_9, List.mem_of_getElem? (i := 3) rfl, by decide, Or.inr ⟨dL_sets_39, rfl⟩⟩, ?_⟩
      refine wm_sipush (v := (-1001)) 44 rfl dL_sets_41 (by decide) ?_
      exact wll_iret dL_sets_44 rfl (Or.inr ⟨hE.1, eIO, hE.2, List.mem_of_getElem? (i := 0) rfl⟩) (Nat.le_of_eq (Nat.zero_add _)) (Nat.le_of_eq (Nat.zero_add _))
    · refine ⟨47, ⟨[⟨0, 38, 39, 17⟩], ⟨0, 38, 45, 19⟩, [], 5, rfl, (by
        intro y hy
        simp only [List.mem_cons, List.not_mem_nil, or_false] at hy
        subst hy
        exact Or.inr ⟨by decide, eIO, aw_10_9, List.mem_of_getElem? (i := 0) rfl⟩), by decide, by decide, aw_16_1, List.mem_of_getElem? (i := 1) rfl, by decide, Or.inr ⟨dL_sets_45, rfl⟩⟩, ?_⟩
      refine wm_sipush (v := (-1002)) 50 rfl dL_sets_47 (by decide) ?_
      exact wll_iret dL_sets_50 rfl (Or.inr ⟨hE.1, eIA, hE.2, List.mem_of_getElem? (i := 1) rfl⟩) (Nat.le_of_eq (Nat.zero_add _)) (Nat.le_of_eq (Nat.zero_add _))
  show Wm (zTh [(0, 38, 39, 17), (0, 38, 45, 19)]) l (rmx 8 mc ms) RL cL_sets 6 (some .int) D cT ad Lc (zA ad Lc.length sz) (zZl (fun D cT ad L sz => zQi D cT ad L sz (fun v σ1 => post v σ1 ∨ (stb σ σ1 ∧ exq [(eIO, (-1001 : Int32)), (eIA, (-1002 : Int32))] LX v))) mc ms D cT ad Lc sz) [] 0 (lv_args 0 [.ref 0, .int p0, .int p1, .int p2, .int 0]) [] σ 0 0
  refine wm_iload 2 rfl dL_sets_0 rfl ?_
  refine wm_if_ne 15 5 rfl (by decide) dL_sets_2 (fun c9 => absurd c9 (by decide)) (fun _ => ?_)
  refine wm_aload_n 6 rfl dL_sets_5 rfl rfl ?_
  refine wm_iload_n 7 rfl dL_sets_6 rfl rfl ?_
  refine wm_iload_n 8 rfl dL_sets_7 rfl rfl ?_
  refine wm_iload_n 9 rfl dL_sets_8 rfl rfl ?_
  refine wlh_callVi 12 rfl dL_sets_9 hM ca_X4_setKey cv_X4_setKey rfl aw_17_20 rfl rfl ⟨Nat.le_of_ble_eq_true rfl, Nat.le_of_ble_eq_true rfl⟩ (Nat.le_of_ble_eq_true rfl) ⟨Nat.le_of_eq (Nat.zero_add _), Nat.le_of_eq (Nat.zero_add _)⟩ hx (fun r σ1 hp => ?_)
  refine wm_goto 38 (by decide) dL_sets_12 ?_
  exact wll_iret dL_sets_38 rfl (Or.inl hp) (Nat.le_of_eq (Nat.zero_add _)) (Nat.le_of_eq (Nat.zero_add _))
theorem h_sets1 (l : Launch) {σ : Sg} {post : Int32 → Sg → Prop} {LX : List (String × Prop)} {mc ms : Nat} (p0 p1 p2 : Int32) (hM : xMi l yX4_setFact cX4_setFact 5 .int 7 mc ms Lc [.ref 0, .int p0, .int p1, .int p2] σ post (pT σ LX)) (hL : ∀ E ∈ LX.map Prod.fst, E ∈ [eIO, eIA]) : lMi l yL_sets cL_sets 6 [(0, 38, 39, 17), (0, 38, 45, 19)] 8 mc ms [.ref 0, .int p0, .int p1, .int p2, .int 1] σ (fun v σ1 => post v σ1 ∨ (stb σ σ1 ∧ exq [(eIO, (-1001 : Int32)), (eIA, (-1002 : Int32))] LX v)) := by
  refine lMet_ofH (by decide +kernel) (Nat.le_of_ble_eq_true rfl) (fun D cT ad sz => ?_)
  have hx : ∀ E σ1, pT σ LX E σ1 → ∃ ps, zHd cL_sets [(0, 38, 39, 17), (0, 38, 45, 19)] 25 6 E ps ∧ Wm (zTh [(0, 38, 39, 17), (0, 38, 45, 19)]) l (rmx 8 mc ms) RL cL_sets 6 (some .int) D cT ad Lc (zA ad Lc.length sz) (zZl (fun D cT ad L sz => zQi D cT ad L sz (fun v σ1 => post v σ1 ∨ (stb σ σ1 ∧ exq [(eIO, (-1001 : Int32)), (eIA, (-1002 : Int32))] LX v))) mc ms D cT ad Lc sz) [] ps [] [] σ1 (0 + mc) (0 + ms) := by
    intro E σ1 hE
    have hm := hL E (thr_mem hE.2)
    simp only [List.mem_cons, List.not_mem_nil, or_false] at hm
    rcases hm with rfl | rfl
    · refine ⟨41, ⟨[], ⟨0, 38, 39, 17⟩, [⟨0, 38, 45, 19⟩], 5, rfl, (fun _ h => absurd h List.not_mem_nil), by decide, by decide, aw_10_9, List.mem_of_getElem? (i := 3) rfl, by decide, Or.inr ⟨dL_sets_39, rfl⟩⟩, ?_⟩
      refine wm_sipush (v := (-1001)) 44 rfl dL_sets_41 (by decide) ?_
      exact wll_iret dL_sets_44 rfl (Or.inr ⟨hE.1, eIO, hE.2, List.mem_of_getElem? (i := 0) rfl⟩) (Nat.le_of_eq (Nat.zero_add _)) (Nat.le_of_eq (Nat.zero_add _))
    · refine ⟨47, ⟨[⟨0, 38, 39, 17⟩], ⟨0, 38, 45, 19⟩, [], 5, rfl, (by
        intro y hy
        simp only [List.mem_cons, List.not_mem_nil, or_false] at hy
        subst hy
        exact Or.inr ⟨by decide, eIO, aw_10_9, List.mem_of_getElem? (i := 0) rfl⟩), by decide, by decide, aw_16_1, List.mem_of_getElem? (i := 1) rfl, by decide, Or.inr ⟨dL_sets_45, rfl⟩⟩, ?_⟩
      refine wm_sipush (v := (-1002)) 50 rfl dL_sets_47 (by decide) ?_
      exact wll_iret dL_sets_50 rfl (Or.inr ⟨hE.1, eIA, hE.2, List.mem_of_getElem? (i := 1) rfl⟩) (Nat.le_of_eq (Nat.zero_add _)) (Nat.le_of_eq (Nat.zero_add _))
  show Wm (zTh [(0, 38, 39, 17), (0, 38, 45, 19)]) l (rmx 8 mc ms) RL cL_sets 6 (some .int) D cT ad Lc (zA ad Lc.length sz) (zZl (fun D cT ad L sz => zQi D cT ad L sz (fun v σ1 => post v σ1 ∨ (stb σ σ1 ∧ exq [(eIO, (-1001 : Int32)), (eIA, (-1002 : Int32))] LX v))) mc ms D cT ad Lc sz) [] 0 (lv_args 0 [.ref 0, .int p0, .int p1, .int p2, .int 1]) [] σ 0 0
  refine wm_iload 2 rfl dL_sets_0 rfl ?_
  refine wm_if_ne 15 5 rfl (by decide) dL_sets_2 (fun _ => ?_) (fun c9 => absurd c9 (by decide))
  refine wm_iload 17 rfl dL_sets_15 rfl ?_
  refine wm_iconst (v := 1) 18 rfl dL_sets_17 (by decide) ?_
  refine wm_icmp_ne 31 21 rfl (by decide) dL_sets_18 (fun c9 => absurd c9 (by decide)) (fun _ => ?_)
  refine wm_aload_n 22 rfl dL_sets_21 rfl rfl ?_
  refine wm_iload_n 23 rfl dL_sets_22 rfl rfl ?_
  refine wm_iload_n 24 rfl dL_sets_23 rfl rfl ?_
  refine wm_iload_n 25 rfl dL_sets_24 rfl rfl ?_
  refine wlh_callVi 28 rfl dL_sets_25 hM ca_X4_setFact cv_X4_setFact rfl aw_18_0 rfl rfl ⟨Nat.le_of_ble_eq_true rfl, Nat.le_of_ble_eq_true rfl⟩ (Nat.le_of_ble_eq_true rfl) ⟨Nat.le_of_eq (Nat.zero_add _), Nat.le_of_eq (Nat.zero_add _)⟩ hx (fun r σ1 hp => ?_)
  refine wm_goto 38 (by decide) dL_sets_28 ?_
  exact wll_iret dL_sets_38 rfl (Or.inl hp) (Nat.le_of_eq (Nat.zero_add _)) (Nat.le_of_eq (Nat.zero_add _))
theorem h_sets2 (l : Launch) {σ : Sg} {post : Int32 → Sg → Prop} {LX : List (String × Prop)} {mc ms : Nat} (p0 p1 p2 : Int32) (hM : xMi l yX4_thingsIf cX4_thingsIf 6 .int 8 mc ms Lc [.ref 0, .int p0, .int p1, .int p2] σ post (pT σ LX)) (hL : ∀ E ∈ LX.map Prod.fst, E ∈ [eIO, eIA]) : lMi l yL_sets cL_sets 6 [(0, 38, 39, 17), (0, 38, 45, 19)] 9 mc ms [.ref 0, .int p0, .int p1, .int p2, .int 2] σ (fun v σ1 => post v σ1 ∨ (stb σ σ1 ∧ exq [(eIO, (-1001 : Int32)), (eIA, (-1002 : Int32))] LX v)) := by
  refine lMet_ofH (by decide +kernel) (Nat.le_of_ble_eq_true rfl) (fun D cT ad sz => ?_)
  have hx : ∀ E σ1, pT σ LX E σ1 → ∃ ps, zHd cL_sets [(0, 38, 39, 17), (0, 38, 45, 19)] 35 6 E ps ∧ Wm (zTh [(0, 38, 39, 17), (0, 38, 45, 19)]) l (rmx 9 mc ms) RL cL_sets 6 (some .int) D cT ad Lc (zA ad Lc.length sz) (zZl (fun D cT ad L sz => zQi D cT ad L sz (fun v σ1 => post v σ1 ∨ (stb σ σ1 ∧ exq [(eIO, (-1001 : Int32)), (eIA, (-1002 : Int32))] LX v))) mc ms D cT ad Lc sz) [] ps [] [] σ1 (0 + mc) (0 + ms) := by
    intro E σ1 hE
    have hm := hL E (thr_mem hE.2)
    simp only [List.mem_cons, List.not_mem_nil, or_false] at hm
    rcases hm with rfl | rfl
    · refine ⟨41, ⟨[], ⟨0, 38, 39, 17⟩, [⟨0, 38, 45, 19⟩], 5, rfl, (fun _ h => absurd h List.not_mem_nil), by decide, by decide, aw_10_9, List.mem_of_getElem? (i := 3) rfl, by decide, Or.inr ⟨dL_sets_39, rfl⟩⟩, ?_⟩
      refine wm_sipush (v := (-1001)) 44 rfl dL_sets_41 (by decide) ?_
      exact wll_iret dL_sets_44 rfl (Or.inr ⟨hE.1, eIO, hE.2, List.mem_of_getElem? (i := 0) rfl⟩) (Nat.le_of_eq (Nat.zero_add _)) (Nat.le_of_eq (Nat.zero_add _))
    · refine ⟨47, ⟨[⟨0, 38, 39, 17⟩], ⟨0, 38, 45, 19⟩, [], 5, rfl, (by
        intro y hy
        simp only [List.mem_cons, List.not_mem_nil, or_false] at hy
        subst hy
        exact Or.inr ⟨by decide, eIO, aw_10_9, List.mem_of_getElem? (i := 0) rfl⟩), by decide, by decide, aw_16_1, List.mem_of_getElem? (i := 1) rfl, by decide, Or.inr ⟨dL_sets_45, rfl⟩⟩, ?_⟩
      refine wm_sipush (v := (-1002)) 50 rfl dL_sets_47 (by decide) ?_
      exact wll_iret dL_sets_50 rfl (Or.inr ⟨hE.1, eIA, hE.2, List.mem_of_getElem? (i := 1) rfl⟩) (Nat.le_of_eq (Nat.zero_add _)) (Nat.le_of_eq (Nat.zero_add _))
  show Wm (zTh [(0, 38, 39, 17), (0, 38, 45, 19)]) l (rmx 9 mc ms) RL cL_sets 6 (some .int) D cT ad Lc (zA ad Lc.length sz) (zZl (fun D cT ad L sz => zQi D cT ad L sz (fun v σ1 => post v σ1 ∨ (stb σ σ1 ∧ exq [(eIO, (-1001 : Int32)), (eIA, (-1002 : Int32))] LX v))) mc ms D cT ad Lc sz) [] 0 (lv_args 0 [.ref 0, .int p0, .int p1, .int p2, .int 2]) [] σ 0 0
  refine wm_iload 2 rfl dL_sets_0 rfl ?_
  refine wm_if_ne 15 5 rfl (by decide) dL_sets_2 (fun _ => ?_) (fun c9 => absurd c9 (by decide))
  refine wm_iload 17 rfl dL_sets_15 rfl ?_
  refine wm_iconst (v := 1) 18 rfl dL_sets_17 (by decide) ?_
  refine wm_icmp_ne 31 21 rfl (by decide) dL_sets_18 (fun _ => ?_) (fun c9 => absurd c9 (by decide))
  refine wm_aload_n 32 rfl dL_sets_31 rfl rfl ?_
  refine wm_iload_n 33 rfl dL_sets_32 rfl rfl ?_
  refine wm_iload_n 34 rfl dL_sets_33 rfl rfl ?_
  refine wm_iload_n 35 rfl dL_sets_34 rfl rfl ?_
  refine wlh_callVi 38 rfl dL_sets_35 hM ca_X4_thingsIf cv_X4_thingsIf rfl aw_18_4 rfl rfl ⟨Nat.le_of_ble_eq_true rfl, Nat.le_of_ble_eq_true rfl⟩ (Nat.le_of_ble_eq_true rfl) ⟨Nat.le_of_eq (Nat.zero_add _), Nat.le_of_eq (Nat.zero_add _)⟩ hx (fun r σ1 hp => ?_)
  exact wll_iret dL_sets_38 rfl (Or.inl hp) (Nat.le_of_eq (Nat.zero_add _)) (Nat.le_of_eq (Nat.zero_add _))
theorem h_one0 (l : Launch) {σ : Sg} {post : Int32 → Sg → Prop} {LX : List (String × Prop)} {mc ms : Nat} (p0 : Int32) (hM : xMi l yX4_see cX4_see 3 .int 7 mc ms Lc [.ref 0, .int p0] σ post (pT σ LX)) (hL : ∀ E ∈ LX.map Prod.fst, E ∈ [eIO]) : lMi l yL_one cL_one 4 [(0, 53, 110, 17), (54, 59, 110, 17), (60, 65, 110, 17), (66, 71, 110, 17), (72, 77, 110, 17), (78, 83, 110, 17), (84, 89, 110, 17), (90, 95, 110, 17), (96, 109, 110, 17)] 8 mc ms [.ref 0, .int p0, .int 0] σ (fun v σ1 => post v σ1 ∨ (stb σ σ1 ∧ exq [(eIO, (-1001 : Int32))] LX v)) := by
  refine lMet_ofH (by decide +kernel) (Nat.le_of_ble_eq_true rfl) (fun D cT ad sz => ?_)
  have hx : ∀ E σ1, pT σ LX E σ1 → ∃ ps, zHd cL_one [(0, 53, 110, 17), (54, 59, 110, 17), (60, 65, 110, 17), (66, 71, 110, 17), (72, 77, 110, 17), (78, 83, 110, 17), (84, 89, 110, 17), (90, 95, 110, 17), (96, 109, 110, 17)] 50 4 E ps ∧ Wm (zTh [(0, 53, 110, 17), (54, 59, 110, 17), (60, 65, 110, 17), (66, 71, 110, 17), (72, 77, 110, 17), (78, 83, 110, 17), (84, 89, 110, 17), (90, 95, 110, 17), (96, 109, 110, 17)]) l (rmx 8 mc ms) RL cL_one 4 (some .int) D cT ad Lc (zA ad Lc.length sz) (zZl (fun D cT ad L sz => zQi D cT ad L sz (fun v σ1 => post v σ1 ∨ (stb σ σ1 ∧ exq [(eIO, (-1001 : Int32))] LX v))) mc ms D cT ad Lc sz) [] ps [] [] σ1 (0 + mc) (0 + ms) := by
    intro E σ1 hE
    have hm := hL E (thr_mem hE.2)
    simp only [List.mem_cons, List.not_mem_nil, or_false] at hm
    subst hm
    refine ⟨111, ⟨[], ⟨0, 53, 110, 17⟩, [⟨54, 59, 110, 17⟩, ⟨60, 65, 110, 17⟩, ⟨66, 71, 110, 17⟩, ⟨72, 77, 110, 17⟩, ⟨78, 83, 110, 17⟩, ⟨84, 89, 110, 17⟩, ⟨90, 95, 110, 17⟩, ⟨96, 109, 110, 17⟩], 3, rfl, (fun _ h => absurd h List.not_mem_nil), by decide, by decide, aw_10_9, List.mem_of_getElem? (i := 3) rfl, by decide, Or.inl ⟨3, rfl, dL_one_110, rfl⟩⟩, ?_⟩
    refine wm_sipush (v := (-1001)) 114 rfl dL_one_111 (by decide) ?_
    exact wll_iret dL_one_114 rfl (Or.inr ⟨hE.1, eIO, hE.2, List.mem_of_getElem? (i := 0) rfl⟩) (Nat.le_of_eq (Nat.zero_add _)) (Nat.le_of_eq (Nat.zero_add _))
  show Wm (zTh [(0, 53, 110, 17), (54, 59, 110, 17), (60, 65, 110, 17), (66, 71, 110, 17), (72, 77, 110, 17), (78, 83, 110, 17), (84, 89, 110, 17), (90, 95, 110, 17), (96, 109, 110, 17)]) l (rmx 8 mc ms) RL cL_one 4 (some .int) D cT ad Lc (zA ad Lc.length sz) (zZl (fun D cT ad L sz => zQi D cT ad L sz (fun v σ1 => post v σ1 ∨ (stb σ σ1 ∧ exq [(eIO, (-1001 : Int32))] LX v))) mc ms D cT ad Lc sz) [] 0 (lv_args 0 [.ref 0, .int p0, .int 0]) [] σ 0 0
  refine wm_iload_n 1 rfl dL_one_0 rfl rfl ?_
  refine wm_tabIn (off := 47) 48 dL_one_1 (by decide) (by decide) rfl (by decide) ?_
  refine wm_aload_n 49 rfl dL_one_48 rfl rfl ?_
  refine wm_iload_n 50 rfl dL_one_49 rfl rfl ?_
  refine wlh_callVi 53 rfl dL_one_50 hM ca_X4_see cv_X4_see rfl aw_10_10 rfl rfl ⟨Nat.le_of_ble_eq_true rfl, Nat.le_of_ble_eq_true rfl⟩ (Nat.le_of_ble_eq_true rfl) ⟨Nat.le_of_eq (Nat.zero_add _), Nat.le_of_eq (Nat.zero_add _)⟩ hx (fun r σ1 hp => ?_)
  exact wll_iret dL_one_53 rfl (Or.inl hp) (Nat.le_of_eq (Nat.zero_add _)) (Nat.le_of_eq (Nat.zero_add _))
theorem h_one1 (l : Launch) {σ : Sg} {post : Int32 → Sg → Prop} {LX : List (String × Prop)} {mc ms : Nat} (p0 : Int32) (hM : xMi l yX4_drop cX4_drop 2 .int 7 mc ms Lc [.ref 0, .int p0] σ post (pT σ LX)) (hL : ∀ E ∈ LX.map Prod.fst, E ∈ [eIO]) : lMi l yL_one cL_one 4 [(0, 53, 110, 17), (54, 59, 110, 17), (60, 65, 110, 17), (66, 71, 110, 17), (72, 77, 110, 17), (78, 83, 110, 17), (84, 89, 110, 17), (90, 95, 110, 17), (96, 109, 110, 17)] 8 mc ms [.ref 0, .int p0, .int 1] σ (fun v σ1 => post v σ1 ∨ (stb σ σ1 ∧ exq [(eIO, (-1001 : Int32))] LX v)) := by
  refine lMet_ofH (by decide +kernel) (Nat.le_of_ble_eq_true rfl) (fun D cT ad sz => ?_)
  have hx : ∀ E σ1, pT σ LX E σ1 → ∃ ps, zHd cL_one [(0, 53, 110, 17), (54, 59, 110, 17), (60, 65, 110, 17), (66, 71, 110, 17), (72, 77, 110, 17), (78, 83, 110, 17), (84, 89, 110, 17), (90, 95, 110, 17), (96, 109, 110, 17)] 56 4 E ps ∧ Wm (zTh [(0, 53, 110, 17), (54, 59, 110, 17), (60, 65, 110, 17), (66, 71, 110, 17), (72, 77, 110, 17), (78, 83, 110, 17), (84, 89, 110, 17), (90, 95, 110, 17), (96, 109, 110, 17)]) l (rmx 8 mc ms) RL cL_one 4 (some .int) D cT ad Lc (zA ad Lc.length sz) (zZl (fun D cT ad L sz => zQi D cT ad L sz (fun v σ1 => post v σ1 ∨ (stb σ σ1 ∧ exq [(eIO, (-1001 : Int32))] LX v))) mc ms D cT ad Lc sz) [] ps [] [] σ1 (0 + mc) (0 + ms) := by
    intro E σ1 hE
    have hm := hL E (thr_mem hE.2)
    simp only [List.mem_cons, List.not_mem_nil, or_false] at hm
    subst hm
    refine ⟨111, ⟨[⟨0, 53, 110, 17⟩], ⟨54, 59, 110, 17⟩, [⟨60, 65, 110, 17⟩, ⟨66, 71, 110, 17⟩, ⟨72, 77, 110, 17⟩, ⟨78, 83, 110, 17⟩, ⟨84, 89, 110, 17⟩, ⟨90, 95, 110, 17⟩, ⟨96, 109, 110, 17⟩], 3, rfl, (by
        intro y hy
        simp only [List.mem_cons, List.not_mem_nil, or_false] at hy
        subst hy
        exact Or.inl (by decide)), by decide, by decide, aw_10_9, List.mem_of_getElem? (i := 3) rfl, by decide, Or.inl ⟨3, rfl, dL_one_110, rfl⟩⟩, ?_⟩
    refine wm_sipush (v := (-1001)) 114 rfl dL_one_111 (by decide) ?_
    exact wll_iret dL_one_114 rfl (Or.inr ⟨hE.1, eIO, hE.2, List.mem_of_getElem? (i := 0) rfl⟩) (Nat.le_of_eq (Nat.zero_add _)) (Nat.le_of_eq (Nat.zero_add _))
  show Wm (zTh [(0, 53, 110, 17), (54, 59, 110, 17), (60, 65, 110, 17), (66, 71, 110, 17), (72, 77, 110, 17), (78, 83, 110, 17), (84, 89, 110, 17), (90, 95, 110, 17), (96, 109, 110, 17)]) l (rmx 8 mc ms) RL cL_one 4 (some .int) D cT ad Lc (zA ad Lc.length sz) (zZl (fun D cT ad L sz => zQi D cT ad L sz (fun v σ1 => post v σ1 ∨ (stb σ σ1 ∧ exq [(eIO, (-1001 : Int32))] LX v))) mc ms D cT ad Lc sz) [] 0 (lv_args 0 [.ref 0, .int p0, .int 1]) [] σ 0 0
  refine wm_iload_n 1 rfl dL_one_0 rfl rfl ?_
  refine wm_tabIn (off := 53) 54 dL_one_1 (by decide) (by decide) rfl (by decide) ?_
  refine wm_aload_n 55 rfl dL_one_54 rfl rfl ?_
  refine wm_iload_n 56 rfl dL_one_55 rfl rfl ?_
  refine wlh_callVi 59 rfl dL_one_56 hM ca_X4_drop cv_X4_drop rfl aw_10_20 rfl rfl ⟨Nat.le_of_ble_eq_true rfl, Nat.le_of_ble_eq_true rfl⟩ (Nat.le_of_ble_eq_true rfl) ⟨Nat.le_of_eq (Nat.zero_add _), Nat.le_of_eq (Nat.zero_add _)⟩ hx (fun r σ1 hp => ?_)
  exact wll_iret dL_one_59 rfl (Or.inl hp) (Nat.le_of_eq (Nat.zero_add _)) (Nat.le_of_eq (Nat.zero_add _))
theorem h_one2 (l : Launch) {σ : Sg} {post : Int32 → Sg → Prop} {LX : List (String × Prop)} {mc ms : Nat} (p0 : Int32) (hM : xMi l yX4_seen cX4_seen 2 .int 7 mc ms Lc [.ref 0, .int p0] σ post (pT σ LX)) (hL : ∀ E ∈ LX.map Prod.fst, E ∈ [eIO]) : lMi l yL_one cL_one 4 [(0, 53, 110, 17), (54, 59, 110, 17), (60, 65, 110, 17), (66, 71, 110, 17), (72, 77, 110, 17), (78, 83, 110, 17), (84, 89, 110, 17), (90, 95, 110, 17), (96, 109, 110, 17)] 8 mc ms [.ref 0, .int p0, .int 2] σ (fun v σ1 => post v σ1 ∨ (stb σ σ1 ∧ exq [(eIO, (-1001 : Int32))] LX v)) := by
  refine lMet_ofH (by decide +kernel) (Nat.le_of_ble_eq_true rfl) (fun D cT ad sz => ?_)
  have hx : ∀ E σ1, pT σ LX E σ1 → ∃ ps, zHd cL_one [(0, 53, 110, 17), (54, 59, 110, 17), (60, 65, 110, 17), (66, 71, 110, 17), (72, 77, 110, 17), (78, 83, 110, 17), (84, 89, 110, 17), (90, 95, 110, 17), (96, 109, 110, 17)] 62 4 E ps ∧ Wm (zTh [(0, 53, 110, 17), (54, 59, 110, 17), (60, 65, 110, 17), (66, 71, 110, 17), (72, 77, 110, 17), (78, 83, 110, 17), (84, 89, 110, 17), (90, 95, 110, 17), (96, 109, 110, 17)]) l (rmx 8 mc ms) RL cL_one 4 (some .int) D cT ad Lc (zA ad Lc.length sz) (zZl (fun D cT ad L sz => zQi D cT ad L sz (fun v σ1 => post v σ1 ∨ (stb σ σ1 ∧ exq [(eIO, (-1001 : Int32))] LX v))) mc ms D cT ad Lc sz) [] ps [] [] σ1 (0 + mc) (0 + ms) := by
    intro E σ1 hE
    have hm := hL E (thr_mem hE.2)
    simp only [List.mem_cons, List.not_mem_nil, or_false] at hm
    subst hm
    refine ⟨111, ⟨[⟨0, 53, 110, 17⟩, ⟨54, 59, 110, 17⟩], ⟨60, 65, 110, 17⟩, [⟨66, 71, 110, 17⟩, ⟨72, 77, 110, 17⟩, ⟨78, 83, 110, 17⟩, ⟨84, 89, 110, 17⟩, ⟨90, 95, 110, 17⟩, ⟨96, 109, 110, 17⟩], 3, rfl, (by
        intro y hy
        simp only [List.mem_cons, List.not_mem_nil, or_false] at hy
        rcases hy with rfl | rfl
        · exact Or.inl (by decide)
        · exact Or.inl (by decide)), by decide, by decide, aw_10_9, List.mem_of_getElem? (i := 3) rfl, by decide, Or.inl ⟨3, rfl, dL_one_110, rfl⟩⟩, ?_⟩
    refine wm_sipush (v := (-1001)) 114 rfl dL_one_111 (by decide) ?_
    exact wll_iret dL_one_114 rfl (Or.inr ⟨hE.1, eIO, hE.2, List.mem_of_getElem? (i := 0) rfl⟩) (Nat.le_of_eq (Nat.zero_add _)) (Nat.le_of_eq (Nat.zero_add _))
  show Wm (zTh [(0, 53, 110, 17), (54, 59, 110, 17), (60, 65, 110, 17), (66, 71, 110, 17), (72, 77, 110, 17), (78, 83, 110, 17), (84, 89, 110, 17), (90, 95, 110, 17), (96, 109, 110, 17)]) l (rmx 8 mc ms) RL cL_one 4 (some .int) D cT ad Lc (zA ad Lc.length sz) (zZl (fun D cT ad L sz => zQi D cT ad L sz (fun v σ1 => post v σ1 ∨ (stb σ σ1 ∧ exq [(eIO, (-1001 : Int32))] LX v))) mc ms D cT ad Lc sz) [] 0 (lv_args 0 [.ref 0, .int p0, .int 2]) [] σ 0 0
  refine wm_iload_n 1 rfl dL_one_0 rfl rfl ?_
  refine wm_tabIn (off := 59) 60 dL_one_1 (by decide) (by decide) rfl (by decide) ?_
  refine wm_aload_n 61 rfl dL_one_60 rfl rfl ?_
  refine wm_iload_n 62 rfl dL_one_61 rfl rfl ?_
  refine wlh_callVi 65 rfl dL_one_62 hM ca_X4_seen cv_X4_seen rfl aw_11_4 rfl rfl ⟨Nat.le_of_ble_eq_true rfl, Nat.le_of_ble_eq_true rfl⟩ (Nat.le_of_ble_eq_true rfl) ⟨Nat.le_of_eq (Nat.zero_add _), Nat.le_of_eq (Nat.zero_add _)⟩ hx (fun r σ1 hp => ?_)
  exact wll_iret dL_one_65 rfl (Or.inl hp) (Nat.le_of_eq (Nat.zero_add _)) (Nat.le_of_eq (Nat.zero_add _))
theorem h_one3 (l : Launch) {σ : Sg} {post : Int32 → Sg → Prop} {LX : List (String × Prop)} {mc ms : Nat} (p0 : Int32) (hM : xMi l yX4_thing cX4_thing 2 .int 8 mc ms Lc [.ref 0, .int p0] σ post (pT σ LX)) (hL : ∀ E ∈ LX.map Prod.fst, E ∈ [eIO]) : lMi l yL_one cL_one 4 [(0, 53, 110, 17), (54, 59, 110, 17), (60, 65, 110, 17), (66, 71, 110, 17), (72, 77, 110, 17), (78, 83, 110, 17), (84, 89, 110, 17), (90, 95, 110, 17), (96, 109, 110, 17)] 9 mc ms [.ref 0, .int p0, .int 3] σ (fun v σ1 => post v σ1 ∨ (stb σ σ1 ∧ exq [(eIO, (-1001 : Int32))] LX v)) := by
  refine lMet_ofH (by decide +kernel) (Nat.le_of_ble_eq_true rfl) (fun D cT ad sz => ?_)
  have hx : ∀ E σ1, pT σ LX E σ1 → ∃ ps, zHd cL_one [(0, 53, 110, 17), (54, 59, 110, 17), (60, 65, 110, 17), (66, 71, 110, 17), (72, 77, 110, 17), (78, 83, 110, 17), (84, 89, 110, 17), (90, 95, 110, 17), (96, 109, 110, 17)] 68 4 E ps ∧ Wm (zTh [(0, 53, 110, 17), (54, 59, 110, 17), (60, 65, 110, 17), (66, 71, 110, 17), (72, 77, 110, 17), (78, 83, 110, 17), (84, 89, 110, 17), (90, 95, 110, 17), (96, 109, 110, 17)]) l (rmx 9 mc ms) RL cL_one 4 (some .int) D cT ad Lc (zA ad Lc.length sz) (zZl (fun D cT ad L sz => zQi D cT ad L sz (fun v σ1 => post v σ1 ∨ (stb σ σ1 ∧ exq [(eIO, (-1001 : Int32))] LX v))) mc ms D cT ad Lc sz) [] ps [] [] σ1 (0 + mc) (0 + ms) := by
    intro E σ1 hE
    have hm := hL E (thr_mem hE.2)
    simp only [List.mem_cons, List.not_mem_nil, or_false] at hm
    subst hm
    refine ⟨111, ⟨[⟨0, 53, 110, 17⟩, ⟨54, 59, 110, 17⟩, ⟨60, 65, 110, 17⟩], ⟨66, 71, 110, 17⟩, [⟨72, 77, 110, 17⟩, ⟨78, 83, 110, 17⟩, ⟨84, 89, 110, 17⟩, ⟨90, 95, 110, 17⟩, ⟨96, 109, 110, 17⟩], 3, rfl, (by
        intro y hy
        simp only [List.mem_cons, List.not_mem_nil, or_false] at hy
        rcases hy with rfl | rfl | rfl
        · exact Or.inl (by decide)
        · exact Or.inl (by decide)
        · exact Or.inl (by decide)), by decide, by decide, aw_10_9, List.mem_of_getElem? (i := 3) rfl, by decide, Or.inl ⟨3, rfl, dL_one_110, rfl⟩⟩, ?_⟩
    refine wm_sipush (v := (-1001)) 114 rfl dL_one_111 (by decide) ?_
    exact wll_iret dL_one_114 rfl (Or.inr ⟨hE.1, eIO, hE.2, List.mem_of_getElem? (i := 0) rfl⟩) (Nat.le_of_eq (Nat.zero_add _)) (Nat.le_of_eq (Nat.zero_add _))
  show Wm (zTh [(0, 53, 110, 17), (54, 59, 110, 17), (60, 65, 110, 17), (66, 71, 110, 17), (72, 77, 110, 17), (78, 83, 110, 17), (84, 89, 110, 17), (90, 95, 110, 17), (96, 109, 110, 17)]) l (rmx 9 mc ms) RL cL_one 4 (some .int) D cT ad Lc (zA ad Lc.length sz) (zZl (fun D cT ad L sz => zQi D cT ad L sz (fun v σ1 => post v σ1 ∨ (stb σ σ1 ∧ exq [(eIO, (-1001 : Int32))] LX v))) mc ms D cT ad Lc sz) [] 0 (lv_args 0 [.ref 0, .int p0, .int 3]) [] σ 0 0
  refine wm_iload_n 1 rfl dL_one_0 rfl rfl ?_
  refine wm_tabIn (off := 65) 66 dL_one_1 (by decide) (by decide) rfl (by decide) ?_
  refine wm_aload_n 67 rfl dL_one_66 rfl rfl ?_
  refine wm_iload_n 68 rfl dL_one_67 rfl rfl ?_
  refine wlh_callVi 71 rfl dL_one_68 hM ca_X4_thing cv_X4_thing rfl aw_11_8 rfl rfl ⟨Nat.le_of_ble_eq_true rfl, Nat.le_of_ble_eq_true rfl⟩ (Nat.le_of_ble_eq_true rfl) ⟨Nat.le_of_eq (Nat.zero_add _), Nat.le_of_eq (Nat.zero_add _)⟩ hx (fun r σ1 hp => ?_)
  exact wll_iret dL_one_71 rfl (Or.inl hp) (Nat.le_of_eq (Nat.zero_add _)) (Nat.le_of_eq (Nat.zero_add _))
theorem h_one4 (l : Launch) {σ : Sg} {post : Int32 → Sg → Prop} {LX : List (String × Prop)} {mc ms : Nat} (p0 : Int32) (hM : xMi l yX4_thingByRounds cX4_thingByRounds 2 .int 7 mc ms Lc [.ref 0, .int p0] σ post (pT σ LX)) (hL : ∀ E ∈ LX.map Prod.fst, E ∈ [eIO]) : lMi l yL_one cL_one 4 [(0, 53, 110, 17), (54, 59, 110, 17), (60, 65, 110, 17), (66, 71, 110, 17), (72, 77, 110, 17), (78, 83, 110, 17), (84, 89, 110, 17), (90, 95, 110, 17), (96, 109, 110, 17)] 8 mc ms [.ref 0, .int p0, .int 4] σ (fun v σ1 => post v σ1 ∨ (stb σ σ1 ∧ exq [(eIO, (-1001 : Int32))] LX v)) := by
  refine lMet_ofH (by decide +kernel) (Nat.le_of_ble_eq_true rfl) (fun D cT ad sz => ?_)
  have hx : ∀ E σ1, pT σ LX E σ1 → ∃ ps, zHd cL_one [(0, 53, 110, 17), (54, 59, 110, 17), (60, 65, 110, 17), (66, 71, 110, 17), (72, 77, 110, 17), (78, 83, 110, 17), (84, 89, 110, 17), (90, 95, 110, 17), (96, 109, 110, 17)] 74 4 E ps ∧ Wm (zTh [(0, 53, 110, 17), (54, 59, 110, 17), (60, 65, 110, 17), (66, 71, 110, 17), (72, 77, 110, 17), (78, 83, 110, 17), (84, 89, 110, 17), (90, 95, 110, 17), (96, 109, 110, 17)]) l (rmx 8 mc ms) RL cL_one 4 (some .int) D cT ad Lc (zA ad Lc.length sz) (zZl (fun D cT ad L sz => zQi D cT ad L sz (fun v σ1 => post v σ1 ∨ (stb σ σ1 ∧ exq [(eIO, (-1001 : Int32))] LX v))) mc ms D cT ad Lc sz) [] ps [] [] σ1 (0 + mc) (0 + ms) := by
    intro E σ1 hE
    have hm := hL E (thr_mem hE.2)
    simp only [List.mem_cons, List.not_mem_nil, or_false] at hm
    subst hm
    refine ⟨111, ⟨[⟨0, 53, 110, 17⟩, ⟨54, 59, 110, 17⟩, ⟨60, 65, 110, 17⟩, ⟨66, 71, 110, 17⟩], ⟨72, 77, 110, 17⟩, [⟨78, 83, 110, 17⟩, ⟨84, 89, 110, 17⟩, ⟨90, 95, 110, 17⟩, ⟨96, 109, 110, 17⟩], 3, rfl, (by
        intro y hy
        simp only [List.mem_cons, List.not_mem_nil, or_false] at hy
        rcases hy with rfl | rfl | rfl | rfl
        · exact Or.inl (by decide)
        · exact Or.inl (by decide)
        · exact Or.inl (by decide)
        · exact Or.inl (by decide)), by decide, by decide, aw_10_9, List.mem_of_getElem? (i := 3) rfl, by decide, Or.inl ⟨3, rfl, dL_one_110, rfl⟩⟩, ?_⟩
    refine wm_sipush (v := (-1001)) 114 rfl dL_one_111 (by decide) ?_
    exact wll_iret dL_one_114 rfl (Or.inr ⟨hE.1, eIO, hE.2, List.mem_of_getElem? (i := 0) rfl⟩) (Nat.le_of_eq (Nat.zero_add _)) (Nat.le_of_eq (Nat.zero_add _))
  show Wm (zTh [(0, 53, 110, 17), (54, 59, 110, 17), (60, 65, 110, 17), (66, 71, 110, 17), (72, 77, 110, 17), (78, 83, 110, 17), (84, 89, 110, 17), (90, 95, 110, 17), (96, 109, 110, 17)]) l (rmx 8 mc ms) RL cL_one 4 (some .int) D cT ad Lc (zA ad Lc.length sz) (zZl (fun D cT ad L sz => zQi D cT ad L sz (fun v σ1 => post v σ1 ∨ (stb σ σ1 ∧ exq [(eIO, (-1001 : Int32))] LX v))) mc ms D cT ad Lc sz) [] 0 (lv_args 0 [.ref 0, .int p0, .int 4]) [] σ 0 0
  refine wm_iload_n 1 rfl dL_one_0 rfl rfl ?_
  refine wm_tabIn (off := 71) 72 dL_one_1 (by decide) (by decide) rfl (by decide) ?_
  refine wm_aload_n 73 rfl dL_one_72 rfl rfl ?_
  refine wm_iload_n 74 rfl dL_one_73 rfl rfl ?_
  refine wlh_callVi 77 rfl dL_one_74 hM ca_X4_thingByRounds cv_X4_thingByRounds rfl aw_11_16 rfl rfl ⟨Nat.le_of_ble_eq_true rfl, Nat.le_of_ble_eq_true rfl⟩ (Nat.le_of_ble_eq_true rfl) ⟨Nat.le_of_eq (Nat.zero_add _), Nat.le_of_eq (Nat.zero_add _)⟩ hx (fun r σ1 hp => ?_)
  exact wll_iret dL_one_77 rfl (Or.inl hp) (Nat.le_of_eq (Nat.zero_add _)) (Nat.le_of_eq (Nat.zero_add _))
theorem h_one5 (l : Launch) {σ : Sg} {post : Int32 → Sg → Prop} {LX : List (String × Prop)} {mc ms : Nat} (p0 : Int32) (hM : xMi l yX4_size cX4_size 2 .int 8 mc ms Lc [.ref 0, .int p0] σ post (pT σ LX)) (hL : ∀ E ∈ LX.map Prod.fst, E ∈ [eIO]) : lMi l yL_one cL_one 4 [(0, 53, 110, 17), (54, 59, 110, 17), (60, 65, 110, 17), (66, 71, 110, 17), (72, 77, 110, 17), (78, 83, 110, 17), (84, 89, 110, 17), (90, 95, 110, 17), (96, 109, 110, 17)] 9 mc ms [.ref 0, .int p0, .int 5] σ (fun v σ1 => post v σ1 ∨ (stb σ σ1 ∧ exq [(eIO, (-1001 : Int32))] LX v)) := by
  refine lMet_ofH (by decide +kernel) (Nat.le_of_ble_eq_true rfl) (fun D cT ad sz => ?_)
  have hx : ∀ E σ1, pT σ LX E σ1 → ∃ ps, zHd cL_one [(0, 53, 110, 17), (54, 59, 110, 17), (60, 65, 110, 17), (66, 71, 110, 17), (72, 77, 110, 17), (78, 83, 110, 17), (84, 89, 110, 17), (90, 95, 110, 17), (96, 109, 110, 17)] 80 4 E ps ∧ Wm (zTh [(0, 53, 110, 17), (54, 59, 110, 17), (60, 65, 110, 17), (66, 71, 110, 17), (72, 77, 110, 17), (78, 83, 110, 17), (84, 89, 110, 17), (90, 95, 110, 17), (96, 109, 110, 17)]) l (rmx 9 mc ms) RL cL_one 4 (some .int) D cT ad Lc (zA ad Lc.length sz) (zZl (fun D cT ad L sz => zQi D cT ad L sz (fun v σ1 => post v σ1 ∨ (stb σ σ1 ∧ exq [(eIO, (-1001 : Int32))] LX v))) mc ms D cT ad Lc sz) [] ps [] [] σ1 (0 + mc) (0 + ms) := by
    intro E σ1 hE
    have hm := hL E (thr_mem hE.2)
    simp only [List.mem_cons, List.not_mem_nil, or_false] at hm
    subst hm
    refine ⟨111, ⟨[⟨0, 53, 110, 17⟩, ⟨54, 59, 110, 17⟩, ⟨60, 65, 110, 17⟩, ⟨66, 71, 110, 17⟩, ⟨72, 77, 110, 17⟩], ⟨78, 83, 110, 17⟩, [⟨84, 89, 110, 17⟩, ⟨90, 95, 110, 17⟩, ⟨96, 109, 110, 17⟩], 3, rfl, (by
        intro y hy
        simp only [List.mem_cons, List.not_mem_nil, or_false] at hy
        rcases hy with rfl | rfl | rfl | rfl | rfl
        · exact Or.inl (by decide)
        · exact Or.inl (by decide)
        · exact Or.inl (by decide)
        · exact Or.inl (by decide)
        · exact Or.inl (by decide)), by decide, by decide, aw_10_9, List.mem_of_getElem? (i := 3) rfl, by decide, Or.inl ⟨3, rfl, dL_one_110, rfl⟩⟩, ?_⟩
    refine wm_sipush (v := (-1001)) 114 rfl dL_one_111 (by decide) ?_
    exact wll_iret dL_one_114 rfl (Or.inr ⟨hE.1, eIO, hE.2, List.mem_of_getElem? (i := 0) rfl⟩) (Nat.le_of_eq (Nat.zero_add _)) (Nat.le_of_eq (Nat.zero_add _))
  show Wm (zTh [(0, 53, 110, 17), (54, 59, 110, 17), (60, 65, 110, 17), (66, 71, 110, 17), (72, 77, 110, 17), (78, 83, 110, 17), (84, 89, 110, 17), (90, 95, 110, 17), (96, 109, 110, 17)]) l (rmx 9 mc ms) RL cL_one 4 (some .int) D cT ad Lc (zA ad Lc.length sz) (zZl (fun D cT ad L sz => zQi D cT ad L sz (fun v σ1 => post v σ1 ∨ (stb σ σ1 ∧ exq [(eIO, (-1001 : Int32))] LX v))) mc ms D cT ad Lc sz) [] 0 (lv_args 0 [.ref 0, .int p0, .int 5]) [] σ 0 0
  refine wm_iload_n 1 rfl dL_one_0 rfl rfl ?_
  refine wm_tabIn (off := 77) 78 dL_one_1 (by decide) (by decide) rfl (by decide) ?_
  refine wm_aload_n 79 rfl dL_one_78 rfl rfl ?_
  refine wm_iload_n 80 rfl dL_one_79 rfl rfl ?_
  refine wlh_callVi 83 rfl dL_one_80 hM ca_X4_size cv_X4_size rfl aw_12_1 rfl rfl ⟨Nat.le_of_ble_eq_true rfl, Nat.le_of_ble_eq_true rfl⟩ (Nat.le_of_ble_eq_true rfl) ⟨Nat.le_of_eq (Nat.zero_add _), Nat.le_of_eq (Nat.zero_add _)⟩ hx (fun r σ1 hp => ?_)
  exact wll_iret dL_one_83 rfl (Or.inl hp) (Nat.le_of_eq (Nat.zero_add _)) (Nat.le_of_eq (Nat.zero_add _))
theorem h_one6 (l : Launch) {σ : Sg} {post : Int32 → Sg → Prop} {LX : List (String × Prop)} {mc ms : Nat} (p0 : Int32) (hM : xMi l yX4_weight cX4_weight 2 .int 7 mc ms Lc [.ref 0, .int p0] σ post (pT σ LX)) (hL : ∀ E ∈ LX.map Prod.fst, E ∈ [eIO]) : lMi l yL_one cL_one 4 [(0, 53, 110, 17), (54, 59, 110, 17), (60, 65, 110, 17), (66, 71, 110, 17), (72, 77, 110, 17), (78, 83, 110, 17), (84, 89, 110, 17), (90, 95, 110, 17), (96, 109, 110, 17)] 8 mc ms [.ref 0, .int p0, .int 6] σ (fun v σ1 => post v σ1 ∨ (stb σ σ1 ∧ exq [(eIO, (-1001 : Int32))] LX v)) := by
  refine lMet_ofH (by decide +kernel) (Nat.le_of_ble_eq_true rfl) (fun D cT ad sz => ?_)
  have hx : ∀ E σ1, pT σ LX E σ1 → ∃ ps, zHd cL_one [(0, 53, 110, 17), (54, 59, 110, 17), (60, 65, 110, 17), (66, 71, 110, 17), (72, 77, 110, 17), (78, 83, 110, 17), (84, 89, 110, 17), (90, 95, 110, 17), (96, 109, 110, 17)] 86 4 E ps ∧ Wm (zTh [(0, 53, 110, 17), (54, 59, 110, 17), (60, 65, 110, 17), (66, 71, 110, 17), (72, 77, 110, 17), (78, 83, 110, 17), (84, 89, 110, 17), (90, 95, 110, 17), (96, 109, 110, 17)]) l (rmx 8 mc ms) RL cL_one 4 (some .int) D cT ad Lc (zA ad Lc.length sz) (zZl (fun D cT ad L sz => zQi D cT ad L sz (fun v σ1 => post v σ1 ∨ (stb σ σ1 ∧ exq [(eIO, (-1001 : Int32))] LX v))) mc ms D cT ad Lc sz) [] ps [] [] σ1 (0 + mc) (0 + ms) := by
    intro E σ1 hE
    have hm := hL E (thr_mem hE.2)
    simp only [List.mem_cons, List.not_mem_nil, or_false] at hm
    subst hm
    refine ⟨111, ⟨[⟨0, 53, 110, 17⟩, ⟨54, 59, 110, 17⟩, ⟨60, 65, 110, 17⟩, ⟨66, 71, 110, 17⟩, ⟨72, 77, 110, 17⟩, ⟨78, 83, 110, 17⟩], ⟨84, 89, 110, 17⟩, [⟨90, 95, 110, 17⟩, ⟨96, 109, 110, 17⟩], 3, rfl, (by
        intro y hy
        simp only [List.mem_cons, List.not_mem_nil, or_false] at hy
        rcases hy with rfl | rfl | rfl | rfl | rfl | rfl
        · exact Or.inl (by decide)
        · exact Or.inl (by decide)
        · exact Or.inl (by decide)
        · exact Or.inl (by decide)
        · exact Or.inl (by decide)
        · exact Or.inl (by decide)), by decide, by decide, aw_10_9, List.mem_of_getElem? (i := 3) rfl, by decide, Or.inl ⟨3, rfl, dL_one_110, rfl⟩⟩, ?_⟩
    refine wm_sipush (v := (-1001)) 114 rfl dL_one_111 (by decide) ?_
    exact wll_iret dL_one_114 rfl (Or.inr ⟨hE.1, eIO, hE.2, List.mem_of_getElem? (i := 0) rfl⟩) (Nat.le_of_eq (Nat.zero_add _)) (Nat.le_of_eq (Nat.zero_add _))
  show Wm (zTh [(0, 53, 110, 17), (54, 59, 110, 17), (60, 65, 110, 17), (66, 71, 110, 17), (72, 77, 110, 17), (78, 83, 110, 17), (84, 89, 110, 17), (90, 95, 110, 17), (96, 109, 110, 17)]) l (rmx 8 mc ms) RL cL_one 4 (some .int) D cT ad Lc (zA ad Lc.length sz) (zZl (fun D cT ad L sz => zQi D cT ad L sz (fun v σ1 => post v σ1 ∨ (stb σ σ1 ∧ exq [(eIO, (-1001 : Int32))] LX v))) mc ms D cT ad Lc sz) [] 0 (lv_args 0 [.ref 0, .int p0, .int 6]) [] σ 0 0
  refine wm_iload_n 1 rfl dL_one_0 rfl rfl ?_
  refine wm_tabIn (off := 83) 84 dL_one_1 (by decide) (by decide) rfl (by decide) ?_
  refine wm_aload_n 85 rfl dL_one_84 rfl rfl ?_
  refine wm_iload_n 86 rfl dL_one_85 rfl rfl ?_
  refine wlh_callVi 89 rfl dL_one_86 hM ca_X4_weight cv_X4_weight rfl aw_12_5 rfl rfl ⟨Nat.le_of_ble_eq_true rfl, Nat.le_of_ble_eq_true rfl⟩ (Nat.le_of_ble_eq_true rfl) ⟨Nat.le_of_eq (Nat.zero_add _), Nat.le_of_eq (Nat.zero_add _)⟩ hx (fun r σ1 hp => ?_)
  exact wll_iret dL_one_89 rfl (Or.inl hp) (Nat.le_of_eq (Nat.zero_add _)) (Nat.le_of_eq (Nat.zero_add _))
theorem h_one7 (l : Launch) {σ : Sg} {post : Int32 → Sg → Prop} {LX : List (String × Prop)} {mc ms : Nat} (p0 : Int32) (hM : xMi l yX4_thingsWithout cX4_thingsWithout 3 .int 8 mc ms Lc [.ref 0, .int p0] σ post (pT σ LX)) (hL : ∀ E ∈ LX.map Prod.fst, E ∈ [eIO]) : lMi l yL_one cL_one 4 [(0, 53, 110, 17), (54, 59, 110, 17), (60, 65, 110, 17), (66, 71, 110, 17), (72, 77, 110, 17), (78, 83, 110, 17), (84, 89, 110, 17), (90, 95, 110, 17), (96, 109, 110, 17)] 9 mc ms [.ref 0, .int p0, .int 7] σ (fun v σ1 => post v σ1 ∨ (stb σ σ1 ∧ exq [(eIO, (-1001 : Int32))] LX v)) := by
  refine lMet_ofH (by decide +kernel) (Nat.le_of_ble_eq_true rfl) (fun D cT ad sz => ?_)
  have hx : ∀ E σ1, pT σ LX E σ1 → ∃ ps, zHd cL_one [(0, 53, 110, 17), (54, 59, 110, 17), (60, 65, 110, 17), (66, 71, 110, 17), (72, 77, 110, 17), (78, 83, 110, 17), (84, 89, 110, 17), (90, 95, 110, 17), (96, 109, 110, 17)] 92 4 E ps ∧ Wm (zTh [(0, 53, 110, 17), (54, 59, 110, 17), (60, 65, 110, 17), (66, 71, 110, 17), (72, 77, 110, 17), (78, 83, 110, 17), (84, 89, 110, 17), (90, 95, 110, 17), (96, 109, 110, 17)]) l (rmx 9 mc ms) RL cL_one 4 (some .int) D cT ad Lc (zA ad Lc.length sz) (zZl (fun D cT ad L sz => zQi D cT ad L sz (fun v σ1 => post v σ1 ∨ (stb σ σ1 ∧ exq [(eIO, (-1001 : Int32))] LX v))) mc ms D cT ad Lc sz) [] ps [] [] σ1 (0 + mc) (0 + ms) := by
    intro E σ1 hE
    have hm := hL E (thr_mem hE.2)
    simp only [List.mem_cons, List.not_mem_nil, or_false] at hm
    subst hm
    refine ⟨111, ⟨[⟨0, 53, 110, 17⟩, ⟨54, 59, 110, 17⟩, ⟨60, 65, 110, 17⟩, ⟨66, 71, 110, 17⟩, ⟨72, 77, 110, 17⟩, ⟨78, 83, 110, 17⟩, ⟨84, 89, 110, 17⟩], ⟨90, 95, 110, 17⟩, [⟨96, 109, 110, 17⟩], 3, rfl, (by
        intro y hy
        simp only [List.mem_cons, List.not_mem_nil, or_false] at hy
        rcases hy with rfl | rfl | rfl | rfl | rfl | rfl | rfl
        · exact Or.inl (by decide)
        · exact Or.inl (by decide)
        · exact Or.inl (by decide)
        · exact Or.inl (by decide)
        · exact Or.inl (by decide)
        · exact Or.inl (by decide)
        · exact Or.inl (by decide)), by decide, by decide, aw_10_9, List.mem_of_getElem? (i := 3) rfl, by decide, Or.inl ⟨3, rfl, dL_one_110, rfl⟩⟩, ?_⟩
    refine wm_sipush (v := (-1001)) 114 rfl dL_one_111 (by decide) ?_
    exact wll_iret dL_one_114 rfl (Or.inr ⟨hE.1, eIO, hE.2, List.mem_of_getElem? (i := 0) rfl⟩) (Nat.le_of_eq (Nat.zero_add _)) (Nat.le_of_eq (Nat.zero_add _))
  show Wm (zTh [(0, 53, 110, 17), (54, 59, 110, 17), (60, 65, 110, 17), (66, 71, 110, 17), (72, 77, 110, 17), (78, 83, 110, 17), (84, 89, 110, 17), (90, 95, 110, 17), (96, 109, 110, 17)]) l (rmx 9 mc ms) RL cL_one 4 (some .int) D cT ad Lc (zA ad Lc.length sz) (zZl (fun D cT ad L sz => zQi D cT ad L sz (fun v σ1 => post v σ1 ∨ (stb σ σ1 ∧ exq [(eIO, (-1001 : Int32))] LX v))) mc ms D cT ad Lc sz) [] 0 (lv_args 0 [.ref 0, .int p0, .int 7]) [] σ 0 0
  refine wm_iload_n 1 rfl dL_one_0 rfl rfl ?_
  refine wm_tabIn (off := 89) 90 dL_one_1 (by decide) (by decide) rfl (by decide) ?_
  refine wm_aload_n 91 rfl dL_one_90 rfl rfl ?_
  refine wm_iload_n 92 rfl dL_one_91 rfl rfl ?_
  refine wlh_callVi 95 rfl dL_one_92 hM ca_X4_thingsWithout cv_X4_thingsWithout rfl aw_12_13 rfl rfl ⟨Nat.le_of_ble_eq_true rfl, Nat.le_of_ble_eq_true rfl⟩ (Nat.le_of_ble_eq_true rfl) ⟨Nat.le_of_eq (Nat.zero_add _), Nat.le_of_eq (Nat.zero_add _)⟩ hx (fun r σ1 hp => ?_)
  exact wll_iret dL_one_95 rfl (Or.inl hp) (Nat.le_of_eq (Nat.zero_add _)) (Nat.le_of_eq (Nat.zero_add _))
theorem h_pair0 (l : Launch) {σ : Sg} {post : Int32 → Sg → Prop} {LX : List (String × Prop)} {mc ms : Nat} (p0 p1 : Int32) (hM : xMi l yX4_forbid cX4_forbid 3 .int 7 mc ms Lc [.ref 0, .int p0, .int p1] σ post (pT σ LX)) (hL : ∀ E ∈ LX.map Prod.fst, E ∈ [eIO, eIA, eIS, eNS]) : lMi l yL_pair cL_pair 5 [(0, 69, 70, 17), (0, 69, 76, 19), (0, 69, 82, 21), (0, 69, 88, 81)] 8 mc ms [.ref 0, .int p0, .int p1, .int 0] σ (fun v σ1 => post v σ1 ∨ (stb σ σ1 ∧ exq [(eIO, (-1001 : Int32)), (eIA, (-1002 : Int32)), (eIS, (-1003 : Int32)), (eNS, (-1004 : Int32))] LX v)) := by
  refine lMet_ofH (by decide +kernel) (Nat.le_of_ble_eq_true rfl) (fun D cT ad sz => ?_)
  have hx : ∀ E σ1, pT σ LX E σ1 → ∃ ps, zHd cL_pair [(0, 69, 70, 17), (0, 69, 76, 19), (0, 69, 82, 21), (0, 69, 88, 81)] 7 5 E ps ∧ Wm (zTh [(0, 69, 70, 17), (0, 69, 76, 19), (0, 69, 82, 21), (0, 69, 88, 81)]) l (rmx 8 mc ms) RL cL_pair 5 (some .int) D cT ad Lc (zA ad Lc.length sz) (zZl (fun D cT ad L sz => zQi D cT ad L sz (fun v σ1 => post v σ1 ∨ (stb σ σ1 ∧ exq [(eIO, (-1001 : Int32)), (eIA, (-1002 : Int32)), (eIS, (-1003 : Int32)), (eNS, (-1004 : Int32))] LX v))) mc ms D cT ad Lc sz) [] ps [] [] σ1 (0 + mc) (0 + ms) := by
    intro E σ1 hE
    have hm := hL E (thr_mem hE.2)
    simp only [List.mem_cons, List.not_mem_nil, or_false] at hm
    rcases hm with rfl | rfl | rfl | rfl
    · refine ⟨72, ⟨[], ⟨0, 69, 70, 17⟩, [⟨0, 69, 76, 19⟩, ⟨0, 69, 82, 21⟩, ⟨0, 69, 88, 81⟩], 4, rfl, (fun _ h => absurd h List.not_mem_nil), by decide, by decide, aw_10_9, List.mem_of_getElem? (i := 3) rfl, by decide, Or.inr ⟨dL_pair_70, rfl⟩⟩, ?_⟩
      refine wm_sipush (v := (-1001)) 75 rfl dL_pair_72 (by decide) ?_
      exact wll_iret dL_pair_75 rfl (Or.inr ⟨hE.1, eIO, hE.2, List.mem_of_getElem? (i := 0) rfl⟩) (Nat.le_of_eq (Nat.zero_add _)) (Nat.le_of_eq (Nat.zero_add _))
    · refine ⟨78, ⟨[⟨0, 69, 70, 17⟩], ⟨0, 69, 76, 19⟩, [⟨0, 69, 82, 21⟩, ⟨0, 69, 88, 81⟩], 4, rfl, (by
        intro y hy
        simp only [List.mem_cons, List.not_mem_nil, or_false] at hy
        subst hy
        exact Or.inr ⟨by decide, eIO, aw_10_9, List.mem_of_getElem? (i := 0) rfl⟩), by decide, by decide, aw_16_1, List.mem_of_getElem? (i := 1) rfl, by decide, Or.inr ⟨dL_pair_76, rfl⟩⟩, ?_⟩
      refine wm_sipush (v := (-1002)) 81 rfl dL_pair_78 (by decide) ?_
      exact wll_iret dL_pair_81 rfl (Or.inr ⟨hE.1, eIA, hE.2, List.mem_of_getElem? (i := 1) rfl⟩) (Nat.le_of_eq (Nat.zero_add _)) (Nat.le_of_eq (Nat.zero_add _))
    · refine ⟨84, ⟨[⟨0, 69, 70, 17⟩, ⟨0, 69, 76, 19⟩], ⟨0, 69, 82, 21⟩, [⟨0, 69, 88, 81⟩], 4, rfl, (by
        intro y hy
        simp only [List.mem_cons, List.not_mem_nil, or_false] at hy
        rcases hy with rfl | rfl
        · exact Or.inr ⟨by decide, eIO, aw_10_9, List.mem_of_getElem? (i := 1) rfl⟩
        · exact Or.inr ⟨by decide, eIA, aw_16_1, List.mem_of_getElem? (i := 2) rfl⟩), by decide, by decide, aw_16_2, List.mem_of_getElem? (i := 2) rfl, by decide, Or.inr ⟨dL_pair_82, rfl⟩⟩, ?_⟩
      refine wm_sipush (v := (-1003)) 87 rfl dL_pair_84 (by decide) ?_
      exact wll_iret dL_pair_87 rfl (Or.inr ⟨hE.1, eIS, hE.2, List.mem_of_getElem? (i := 2) rfl⟩) (Nat.le_of_eq (Nat.zero_add _)) (Nat.le_of_eq (Nat.zero_add _))
    · refine ⟨90, ⟨[⟨0, 69, 70, 17⟩, ⟨0, 69, 76, 19⟩, ⟨0, 69, 82, 21⟩], ⟨0, 69, 88, 81⟩, [], 4, rfl, (by
        intro y hy
        simp only [List.mem_cons, List.not_mem_nil, or_false] at hy
        rcases hy with rfl | rfl | rfl
        · exact Or.inr ⟨by decide, eIO, aw_10_9, List.mem_of_getElem? (i := 3) rfl⟩
        · exact Or.inr ⟨by decide, eIA, aw_16_1, List.mem_of_getElem? (i := 4) rfl⟩
        · exact Or.inr ⟨by decide, eIS, aw_16_2, List.mem_of_getElem? (i := 5) rfl⟩), by decide, by decide, aw_13_4, List.mem_of_getElem? (i := 4) rfl, by decide, Or.inr ⟨dL_pair_88, rfl⟩⟩, ?_⟩
      refine wm_sipush (v := (-1004)) 93 rfl dL_pair_90 (by decide) ?_
      exact wll_iret dL_pair_93 rfl (Or.inr ⟨hE.1, eNS, hE.2, List.mem_of_getElem? (i := 3) rfl⟩) (Nat.le_of_eq (Nat.zero_add _)) (Nat.le_of_eq (Nat.zero_add _))
  show Wm (zTh [(0, 69, 70, 17), (0, 69, 76, 19), (0, 69, 82, 21), (0, 69, 88, 81)]) l (rmx 8 mc ms) RL cL_pair 5 (some .int) D cT ad Lc (zA ad Lc.length sz) (zZl (fun D cT ad L sz => zQi D cT ad L sz (fun v σ1 => post v σ1 ∨ (stb σ σ1 ∧ exq [(eIO, (-1001 : Int32)), (eIA, (-1002 : Int32)), (eIS, (-1003 : Int32)), (eNS, (-1004 : Int32))] LX v))) mc ms D cT ad Lc sz) [] 0 (lv_args 0 [.ref 0, .int p0, .int p1, .int 0]) [] σ 0 0
  refine wm_iload_n 1 rfl dL_pair_0 rfl rfl ?_
  refine wm_if_ne 13 4 rfl (by decide) dL_pair_1 (fun c9 => absurd c9 (by decide)) (fun _ => ?_)
  refine wm_aload_n 5 rfl dL_pair_4 rfl rfl ?_
  refine wm_iload_n 6 rfl dL_pair_5 rfl rfl ?_
  refine wm_iload_n 7 rfl dL_pair_6 rfl rfl ?_
  refine wlh_callVi 10 rfl dL_pair_7 hM ca_X4_forbid cv_X4_forbid rfl aw_18_11 rfl rfl ⟨Nat.le_of_ble_eq_true rfl, Nat.le_of_ble_eq_true rfl⟩ (Nat.le_of_ble_eq_true rfl) ⟨Nat.le_of_eq (Nat.zero_add _), Nat.le_of_eq (Nat.zero_add _)⟩ hx (fun r σ1 hp => ?_)
  refine wm_goto 69 (by decide) dL_pair_10 ?_
  exact wll_iret dL_pair_69 rfl (Or.inl hp) (Nat.le_of_eq (Nat.zero_add _)) (Nat.le_of_eq (Nat.zero_add _))
theorem h_pair1 (l : Launch) {σ : Sg} {post : Int32 → Sg → Prop} {LX : List (String × Prop)} {mc ms : Nat} (p0 p1 : Int32) (hM : xMi l yX4_allow cX4_allow 3 .int 7 mc ms Lc [.ref 0, .int p0, .int p1] σ post (pT σ LX)) (hL : ∀ E ∈ LX.map Prod.fst, E ∈ [eIO, eIA, eIS, eNS]) : lMi l yL_pair cL_pair 5 [(0, 69, 70, 17), (0, 69, 76, 19), (0, 69, 82, 21), (0, 69, 88, 81)] 8 mc ms [.ref 0, .int p0, .int p1, .int 1] σ (fun v σ1 => post v σ1 ∨ (stb σ σ1 ∧ exq [(eIO, (-1001 : Int32)), (eIA, (-1002 : Int32)), (eIS, (-1003 : Int32)), (eNS, (-1004 : Int32))] LX v)) := by
  refine lMet_ofH (by decide +kernel) (Nat.le_of_ble_eq_true rfl) (fun D cT ad sz => ?_)
  have hx : ∀ E σ1, pT σ LX E σ1 → ∃ ps, zHd cL_pair [(0, 69, 70, 17), (0, 69, 76, 19), (0, 69, 82, 21), (0, 69, 88, 81)] 21 5 E ps ∧ Wm (zTh [(0, 69, 70, 17), (0, 69, 76, 19), (0, 69, 82, 21), (0, 69, 88, 81)]) l (rmx 8 mc ms) RL cL_pair 5 (some .int) D cT ad Lc (zA ad Lc.length sz) (zZl (fun D cT ad L sz => zQi D cT ad L sz (fun v σ1 => post v σ1 ∨ (stb σ σ1 ∧ exq [(eIO, (-1001 : Int32)), (eIA, (-1002 : Int32)), (eIS, (-1003 : Int32)), (eNS, (-1004 : Int32))] LX v))) mc ms D cT ad Lc sz) [] ps [] [] σ1 (0 + mc) (0 + ms) := by
    intro E σ1 hE
    have hm := hL E (thr_mem hE.2)
    simp only [List.mem_cons, List.not_mem_nil, or_false] at hm
    rcases hm with rfl | rfl | rfl | rfl
    · refine ⟨72, ⟨[], ⟨0, 69, 70, 17⟩, [⟨0, 69, 76, 19⟩, ⟨0, 69, 82, 21⟩, ⟨0, 69, 88, 81⟩], 4, rfl, (fun _ h => absurd h List.not_mem_nil), by decide, by decide, aw_10_9, List.mem_of_getElem? (i := 3) rfl, by decide, Or.inr ⟨dL_pair_70, rfl⟩⟩, ?_⟩
      refine wm_sipush (v := (-1001)) 75 rfl dL_pair_72 (by decide) ?_
      exact wll_iret dL_pair_75 rfl (Or.inr ⟨hE.1, eIO, hE.2, List.mem_of_getElem? (i := 0) rfl⟩) (Nat.le_of_eq (Nat.zero_add _)) (Nat.le_of_eq (Nat.zero_add _))
    · refine ⟨78, ⟨[⟨0, 69, 70, 17⟩], ⟨0, 69, 76, 19⟩, [⟨0, 69, 82, 21⟩, ⟨0, 69, 88, 81⟩], 4, rfl, (by
        intro y hy
        simp only [List.mem_cons, List.not_mem_nil, or_false] at hy
        subst hy
        exact Or.inr ⟨by decide, eIO, aw_10_9, List.mem_of_getElem? (i := 0) rfl⟩), by decide, by decide, aw_16_1, List.mem_of_getElem? (i := 1) rfl, by decide, Or.inr ⟨dL_pair_76, rfl⟩⟩, ?_⟩
      refine wm_sipush (v := (-1002)) 81 rfl dL_pair_78 (by decide) ?_
      exact wll_iret dL_pair_81 rfl (Or.inr ⟨hE.1, eIA, hE.2, List.mem_of_getElem? (i := 1) rfl⟩) (Nat.le_of_eq (Nat.zero_add _)) (Nat.le_of_eq (Nat.zero_add _))
    · refine ⟨84, ⟨[⟨0, 69, 70, 17⟩, ⟨0, 69, 76, 19⟩], ⟨0, 69, 82, 21⟩, [⟨0, 69, 88, 81⟩], 4, rfl, (by
        intro y hy
        simp only [List.mem_cons, List.not_mem_nil, or_false] at hy
        rcases hy with rfl | rfl
        · exact Or.inr ⟨by decide, eIO, aw_10_9, List.mem_of_getElem? (i := 1) rfl⟩
        · exact Or.inr ⟨by decide, eIA, aw_16_1, List.mem_of_getElem? (i := 2) rfl⟩), by decide, by decide, aw_16_2, List.mem_of_getElem? (i := 2) rfl, by decide, Or.inr ⟨dL_pair_82, rfl⟩⟩, ?_⟩
      refine wm_sipush (v := (-1003)) 87 rfl dL_pair_84 (by decide) ?_
      exact wll_iret dL_pair_87 rfl (Or.inr ⟨hE.1, eIS, hE.2, List.mem_of_getElem? (i := 2) rfl⟩) (Nat.le_of_eq (Nat.zero_add _)) (Nat.le_of_eq (Nat.zero_add _))
    · refine ⟨90, ⟨[⟨0, 69, 70, 17⟩, ⟨0, 69, 76, 19⟩, ⟨0, 69, 82, 21⟩], ⟨0, 69, 88, 81⟩, [], 4, rfl, (by
        intro y hy
        simp only [List.mem_cons, List.not_mem_nil, or_false] at hy
        rcases hy with rfl | rfl | rfl
        · exact Or.inr ⟨by decide, eIO, aw_10_9, List.mem_of_getElem? (i := 3) rfl⟩
        · exact Or.inr ⟨by decide, eIA, aw_16_1, List.mem_of_getElem? (i := 4) rfl⟩
        · exact Or.inr ⟨by decide, eIS, aw_16_2, List.mem_of_getElem? (i := 5) rfl⟩), by decide, by decide, aw_13_4, List.mem_of_getElem? (i := 4) rfl, by decide, Or.inr ⟨dL_pair_88, rfl⟩⟩, ?_⟩
      refine wm_sipush (v := (-1004)) 93 rfl dL_pair_90 (by decide) ?_
      exact wll_iret dL_pair_93 rfl (Or.inr ⟨hE.1, eNS, hE.2, List.mem_of_getElem? (i := 3) rfl⟩) (Nat.le_of_eq (Nat.zero_add _)) (Nat.le_of_eq (Nat.zero_add _))
  show Wm (zTh [(0, 69, 70, 17), (0, 69, 76, 19), (0, 69, 82, 21), (0, 69, 88, 81)]) l (rmx 8 mc ms) RL cL_pair 5 (some .int) D cT ad Lc (zA ad Lc.length sz) (zZl (fun D cT ad L sz => zQi D cT ad L sz (fun v σ1 => post v σ1 ∨ (stb σ σ1 ∧ exq [(eIO, (-1001 : Int32)), (eIA, (-1002 : Int32)), (eIS, (-1003 : Int32)), (eNS, (-1004 : Int32))] LX v))) mc ms D cT ad Lc sz) [] 0 (lv_args 0 [.ref 0, .int p0, .int p1, .int 1]) [] σ 0 0
  refine wm_iload_n 1 rfl dL_pair_0 rfl rfl ?_
  refine wm_if_ne 13 4 rfl (by decide) dL_pair_1 (fun _ => ?_) (fun c9 => absurd c9 (by decide))
  refine wm_iload_n 14 rfl dL_pair_13 rfl rfl ?_
  refine wm_iconst (v := 1) 15 rfl dL_pair_14 (by decide) ?_
  refine wm_icmp_ne 27 18 rfl (by decide) dL_pair_15 (fun c9 => absurd c9 (by decide)) (fun _ => ?_)
  refine wm_aload_n 19 rfl dL_pair_18 rfl rfl ?_
  refine wm_iload_n 20 rfl dL_pair_19 rfl rfl ?_
  refine wm_iload_n 21 rfl dL_pair_20 rfl rfl ?_
  refine wlh_callVi 24 rfl dL_pair_21 hM ca_X4_allow cv_X4_allow rfl aw_19_7 rfl rfl ⟨Nat.le_of_ble_eq_true rfl, Nat.le_of_ble_eq_true rfl⟩ (Nat.le_of_ble_eq_true rfl) ⟨Nat.le_of_eq (Nat.zero_add _), Nat.le_of_eq (Nat.zero_add _)⟩ hx (fun r σ1 hp => ?_)
  refine wm_goto 69 (by decide) dL_pair_24 ?_
  exact wll_iret dL_pair_69 rfl (Or.inl hp) (Nat.le_of_eq (Nat.zero_add _)) (Nat.le_of_eq (Nat.zero_add _))
theorem h_pair2 (l : Launch) {σ : Sg} {post : Int32 → Sg → Prop} {LX : List (String × Prop)} {mc ms : Nat} (p0 p1 : Int32) (hM : xMi l yX4_areTogether cX4_areTogether 3 .boolean 8 mc ms Lc [.ref 0, .int p0, .int p1] σ post (pT σ LX)) (hL : ∀ E ∈ LX.map Prod.fst, E ∈ [eIO, eIA, eIS, eNS]) (hz : ∀ v σ1, post v σ1 → v = 0 ∨ v = 1) : lMi l yL_pair cL_pair 5 [(0, 69, 70, 17), (0, 69, 76, 19), (0, 69, 82, 21), (0, 69, 88, 81)] 9 mc ms [.ref 0, .int p0, .int p1, .int 2] σ (fun v σ1 => post v σ1 ∨ (stb σ σ1 ∧ exq [(eIO, (-1001 : Int32)), (eIA, (-1002 : Int32)), (eIS, (-1003 : Int32)), (eNS, (-1004 : Int32))] LX v)) := by
  refine lMet_ofH (by decide +kernel) (Nat.le_of_ble_eq_true rfl) (fun D cT ad sz => ?_)
  have hx : ∀ E σ1, pT σ LX E σ1 → ∃ ps, zHd cL_pair [(0, 69, 70, 17), (0, 69, 76, 19), (0, 69, 82, 21), (0, 69, 88, 81)] 35 5 E ps ∧ Wm (zTh [(0, 69, 70, 17), (0, 69, 76, 19), (0, 69, 82, 21), (0, 69, 88, 81)]) l (rmx 9 mc ms) RL cL_pair 5 (some .int) D cT ad Lc (zA ad Lc.length sz) (zZl (fun D cT ad L sz => zQi D cT ad L sz (fun v σ1 => post v σ1 ∨ (stb σ σ1 ∧ exq [(eIO, (-1001 : Int32)), (eIA, (-1002 : Int32)), (eIS, (-1003 : Int32)), (eNS, (-1004 : Int32))] LX v))) mc ms D cT ad Lc sz) [] ps [] [] σ1 (0 + mc) (0 + ms) := by
    intro E σ1 hE
    have hm := hL E (thr_mem hE.2)
    simp only [List.mem_cons, List.not_mem_nil, or_false] at hm
    rcases hm with rfl | rfl | rfl | rfl
    · refine ⟨72, ⟨[], ⟨0, 69, 70, 17⟩, [⟨0, 69, 76, 19⟩, ⟨0, 69, 82, 21⟩, ⟨0, 69, 88, 81⟩], 4, rfl, (fun _ h => absurd h List.not_mem_nil), by decide, by decide, aw_10_9, List.mem_of_getElem? (i := 3) rfl, by decide, Or.inr ⟨dL_pair_70, rfl⟩⟩, ?_⟩
      refine wm_sipush (v := (-1001)) 75 rfl dL_pair_72 (by decide) ?_
      exact wll_iret dL_pair_75 rfl (Or.inr ⟨hE.1, eIO, hE.2, List.mem_of_getElem? (i := 0) rfl⟩) (Nat.le_of_eq (Nat.zero_add _)) (Nat.le_of_eq (Nat.zero_add _))
    · refine ⟨78, ⟨[⟨0, 69, 70, 17⟩], ⟨0, 69, 76, 19⟩, [⟨0, 69, 82, 21⟩, ⟨0, 69, 88, 81⟩], 4, rfl, (by
        intro y hy
        simp only [List.mem_cons, List.not_mem_nil, or_false] at hy
        subst hy
        exact Or.inr ⟨by decide, eIO, aw_10_9, List.mem_of_getElem? (i := 0) rfl⟩), by decide, by decide, aw_16_1, List.mem_of_getElem? (i := 1) rfl, by decide, Or.inr ⟨dL_pair_76, rfl⟩⟩, ?_⟩
      refine wm_sipush (v := (-1002)) 81 rfl dL_pair_78 (by decide) ?_
      exact wll_iret dL_pair_81 rfl (Or.inr ⟨hE.1, eIA, hE.2, List.mem_of_getElem? (i := 1) rfl⟩) (Nat.le_of_eq (Nat.zero_add _)) (Nat.le_of_eq (Nat.zero_add _))
    · refine ⟨84, ⟨[⟨0, 69, 70, 17⟩, ⟨0, 69, 76, 19⟩], ⟨0, 69, 82, 21⟩, [⟨0, 69, 88, 81⟩], 4, rfl, (by
        intro y hy
        simp only [List.mem_cons, List.not_mem_nil, or_false] at hy
        rcases hy with rfl | rfl
        · exact Or.inr ⟨by decide, eIO, aw_10_9, List.mem_of_getElem? (i := 1) rfl⟩
        · exact Or.inr ⟨by decide, eIA, aw_16_1, List.mem_of_getElem? (i := 2) rfl⟩), by decide, by decide, aw_16_2, List.mem_of_getElem? (i := 2) rfl, by decide, Or.inr ⟨dL_pair_82, rfl⟩⟩, ?_⟩
      refine wm_sipush (v := (-1003)) 87 rfl dL_pair_84 (by decide) ?_
      exact wll_iret dL_pair_87 rfl (Or.inr ⟨hE.1, eIS, hE.2, List.mem_of_getElem? (i := 2) rfl⟩) (Nat.le_of_eq (Nat.zero_add _)) (Nat.le_of_eq (Nat.zero_add _))
    · refine ⟨90, ⟨[⟨0, 69, 70, 17⟩, ⟨0, 69, 76, 19⟩, ⟨0, 69, 82, 21⟩], ⟨0, 69, 88, 81⟩, [], 4, rfl, (by
        intro y hy
        simp only [List.mem_cons, List.not_mem_nil, or_false] at hy
        rcases hy with rfl | rfl | rfl
        · exact Or.inr ⟨by decide, eIO, aw_10_9, List.mem_of_getElem? (i := 3) rfl⟩
        · exact Or.inr ⟨by decide, eIA, aw_16_1, List.mem_of_getElem? (i := 4) rfl⟩
        · exact Or.inr ⟨by decide, eIS, aw_16_2, List.mem_of_getElem? (i := 5) rfl⟩), by decide, by decide, aw_13_4, List.mem_of_getElem? (i := 4) rfl, by decide, Or.inr ⟨dL_pair_88, rfl⟩⟩, ?_⟩
      refine wm_sipush (v := (-1004)) 93 rfl dL_pair_90 (by decide) ?_
      exact wll_iret dL_pair_93 rfl (Or.inr ⟨hE.1, eNS, hE.2, List.mem_of_getElem? (i := 3) rfl⟩) (Nat.le_of_eq (Nat.zero_add _)) (Nat.le_of_eq (Nat.zero_add _))
  show Wm (zTh [(0, 69, 70, 17), (0, 69, 76, 19), (0, 69, 82, 21), (0, 69, 88, 81)]) l (rmx 9 mc ms) RL cL_pair 5 (some .int) D cT ad Lc (zA ad Lc.length sz) (zZl (fun D cT ad L sz => zQi D cT ad L sz (fun v σ1 => post v σ1 ∨ (stb σ σ1 ∧ exq [(eIO, (-1001 : Int32)), (eIA, (-1002 : Int32)), (eIS, (-1003 : Int32)), (eNS, (-1004 : Int32))] LX v))) mc ms D cT ad Lc sz) [] 0 (lv_args 0 [.ref 0, .int p0, .int p1, .int 2]) [] σ 0 0
  refine wm_iload_n 1 rfl dL_pair_0 rfl rfl ?_
  refine wm_if_ne 13 4 rfl (by decide) dL_pair_1 (fun _ => ?_) (fun c9 => absurd c9 (by decide))
  refine wm_iload_n 14 rfl dL_pair_13 rfl rfl ?_
  refine wm_iconst (v := 1) 15 rfl dL_pair_14 (by decide) ?_
  refine wm_icmp_ne 27 18 rfl (by decide) dL_pair_15 (fun _ => ?_) (fun c9 => absurd c9 (by decide))
  refine wm_iload_n 28 rfl dL_pair_27 rfl rfl ?_
  refine wm_iconst (v := 2) 29 rfl dL_pair_28 (by decide) ?_
  refine wm_icmp_ne 49 32 rfl (by decide) dL_pair_29 (fun c9 => absurd c9 (by decide)) (fun _ => ?_)
  refine wm_aload_n 33 rfl dL_pair_32 rfl rfl ?_
  refine wm_iload_n 34 rfl dL_pair_33 rfl rfl ?_
  refine wm_iload_n 35 rfl dL_pair_34 rfl rfl ?_
  refine wlh_callVi 38 rfl dL_pair_35 hM ca_X4_areTogether cv_X4_areTogether rfl aw_19_19 rfl rfl ⟨Nat.le_of_ble_eq_true rfl, Nat.le_of_ble_eq_true rfl⟩ (Nat.le_of_ble_eq_true rfl) ⟨Nat.le_of_eq (Nat.zero_add _), Nat.le_of_eq (Nat.zero_add _)⟩ hx (fun r σ1 hp => ?_)
  refine wm_if_eq 45 41 rfl (by decide) dL_pair_38 (fun c9 => ?_) (fun c9 => ?_)
  · refine wm_iconst (v := 0) 46 rfl dL_pair_45 (by decide) ?_
    refine wm_goto 69 (by decide) dL_pair_46 ?_
    exact wll_iret dL_pair_69 rfl (Or.inl (show post 0 σ1 from (show r = 0 from c9) ▸ hp)) (Nat.le_of_eq (Nat.zero_add _)) (Nat.le_of_eq (Nat.zero_add _))
  · refine wm_iconst (v := 1) 42 rfl dL_pair_41 (by decide) ?_
    refine wm_goto 69 (by decide) dL_pair_42 ?_
    exact wll_iret dL_pair_69 rfl (Or.inl (show post 1 σ1 from ((hz _ _ hp).resolve_left c9) ▸ hp)) (Nat.le_of_eq (Nat.zero_add _)) (Nat.le_of_eq (Nat.zero_add _))
theorem h_pair3 (l : Launch) {σ : Sg} {post : Int32 → Sg → Prop} {LX : List (String × Prop)} {mc ms : Nat} (p0 p1 : Int32) (hM : xMi l yX4_step cX4_step 4 .int 8 mc ms Lc [.ref 0, .int p0, .int p1] σ post (pT σ LX)) (hL : ∀ E ∈ LX.map Prod.fst, E ∈ [eIO, eIA, eIS, eNS]) : lMi l yL_pair cL_pair 5 [(0, 69, 70, 17), (0, 69, 76, 19), (0, 69, 82, 21), (0, 69, 88, 81)] 9 mc ms [.ref 0, .int p0, .int p1, .int 3] σ (fun v σ1 => post v σ1 ∨ (stb σ σ1 ∧ exq [(eIO, (-1001 : Int32)), (eIA, (-1002 : Int32)), (eIS, (-1003 : Int32)), (eNS, (-1004 : Int32))] LX v)) := by
  refine lMet_ofH (by decide +kernel) (Nat.le_of_ble_eq_true rfl) (fun D cT ad sz => ?_)
  have hx : ∀ E σ1, pT σ LX E σ1 → ∃ ps, zHd cL_pair [(0, 69, 70, 17), (0, 69, 76, 19), (0, 69, 82, 21), (0, 69, 88, 81)] 57 5 E ps ∧ Wm (zTh [(0, 69, 70, 17), (0, 69, 76, 19), (0, 69, 82, 21), (0, 69, 88, 81)]) l (rmx 9 mc ms) RL cL_pair 5 (some .int) D cT ad Lc (zA ad Lc.length sz) (zZl (fun D cT ad L sz => zQi D cT ad L sz (fun v σ1 => post v σ1 ∨ (stb σ σ1 ∧ exq [(eIO, (-1001 : Int32)), (eIA, (-1002 : Int32)), (eIS, (-1003 : Int32)), (eNS, (-1004 : Int32))] LX v))) mc ms D cT ad Lc sz) [] ps [] [] σ1 (0 + mc) (0 + ms) := by
    intro E σ1 hE
    have hm := hL E (thr_mem hE.2)
    simp only [List.mem_cons, List.not_mem_nil, or_false] at hm
    rcases hm with rfl | rfl | rfl | rfl
    · refine ⟨72, ⟨[], ⟨0, 69, 70, 17⟩, [⟨0, 69, 76, 19⟩, ⟨0, 69, 82, 21⟩, ⟨0, 69, 88, 81⟩], 4, rfl, (fun _ h => absurd h List.not_mem_nil), by decide, by decide, aw_10_9, List.mem_of_getElem? (i := 3) rfl, by decide, Or.inr ⟨dL_pair_70, rfl⟩⟩, ?_⟩
      refine wm_sipush (v := (-1001)) 75 rfl dL_pair_72 (by decide) ?_
      exact wll_iret dL_pair_75 rfl (Or.inr ⟨hE.1, eIO, hE.2, List.mem_of_getElem? (i := 0) rfl⟩) (Nat.le_of_eq (Nat.zero_add _)) (Nat.le_of_eq (Nat.zero_add _))
    · refine ⟨78, ⟨[⟨0, 69, 70, 17⟩], ⟨0, 69, 76, 19⟩, [⟨0, 69, 82, 21⟩, ⟨0, 69, 88, 81⟩], 4, rfl, (by
        intro y hy
        simp only [List.mem_cons, List.not_mem_nil, or_false] at hy
        subst hy
        exact Or.inr ⟨by decide, eIO, aw_10_9, List.mem_of_getElem? (i := 0) rfl⟩), by decide, by decide, aw_16_1, List.mem_of_getElem? (i := 1) rfl, by decide, Or.inr ⟨dL_pair_76, rfl⟩⟩, ?_⟩
      refine wm_sipush (v := (-1002)) 81 rfl dL_pair_78 (by decide) ?_
      exact wll_iret dL_pair_81 rfl (Or.inr ⟨hE.1, eIA, hE.2, List.mem_of_getElem? (i := 1) rfl⟩) (Nat.le_of_eq (Nat.zero_add _)) (Nat.le_of_eq (Nat.zero_add _))
    · refine ⟨84, ⟨[⟨0, 69, 70, 17⟩, ⟨0, 69, 76, 19⟩], ⟨0, 69, 82, 21⟩, [⟨0, 69, 88, 81⟩], 4, rfl, (by
        intro y hy
        simp only [List.mem_cons, List.not_mem_nil, or_false] at hy
        rcases hy with rfl | rfl
        · exact Or.inr ⟨by decide, eIO, aw_10_9, List.mem_of_getElem? (i := 1) rfl⟩
        · exact Or.inr ⟨by decide, eIA, aw_16_1, List.mem_of_getElem? (i := 2) rfl⟩), by decide, by decide, aw_16_2, List.mem_of_getElem? (i := 2) rfl, by decide, Or.inr ⟨dL_pair_82, rfl⟩⟩, ?_⟩
      refine wm_sipush (v := (-1003)) 87 rfl dL_pair_84 (by decide) ?_
      exact wll_iret dL_pair_87 rfl (Or.inr ⟨hE.1, eIS, hE.2, List.mem_of_getElem? (i := 2) rfl⟩) (Nat.le_of_eq (Nat.zero_add _)) (Nat.le_of_eq (Nat.zero_add _))
    · refine ⟨90, ⟨[⟨0, 69, 70, 17⟩, ⟨0, 69, 76, 19⟩, ⟨0, 69, 82, 21⟩], ⟨0, 69, 88, 81⟩, [], 4, rfl, (by
        intro y hy
        simp only [List.mem_cons, List.not_mem_nil, or_false] at hy
        rcases hy with rfl | rfl | rfl
        · exact Or.inr ⟨by decide, eIO, aw_10_9, List.mem_of_getElem? (i := 3) rfl⟩
        · exact Or.inr ⟨by decide, eIA, aw_16_1, List.mem_of_getElem? (i := 4) rfl⟩
        · exact Or.inr ⟨by decide, eIS, aw_16_2, List.mem_of_getElem? (i := 5) rfl⟩), by decide, by decide, aw_13_4, List.mem_of_getElem? (i := 4) rfl, by decide, Or.inr ⟨dL_pair_88, rfl⟩⟩, ?_⟩
      refine wm_sipush (v := (-1004)) 93 rfl dL_pair_90 (by decide) ?_
      exact wll_iret dL_pair_93 rfl (Or.inr ⟨hE.1, eNS, hE.2, List.mem_of_getElem? (i := 3) rfl⟩) (Nat.le_of_eq (Nat.zero_add _)) (Nat.le_of_eq (Nat.zero_add _))
  show Wm (zTh [(0, 69, 70, 17), (0, 69, 76, 19), (0, 69, 82, 21), (0, 69, 88, 81)]) l (rmx 9 mc ms) RL cL_pair 5 (some .int) D cT ad Lc (zA ad Lc.length sz) (zZl (fun D cT ad L sz => zQi D cT ad L sz (fun v σ1 => post v σ1 ∨ (stb σ σ1 ∧ exq [(eIO, (-1001 : Int32)), (eIA, (-1002 : Int32)), (eIS, (-1003 : Int32)), (eNS, (-1004 : Int32))] LX v))) mc ms D cT ad Lc sz) [] 0 (lv_args 0 [.ref 0, .int p0, .int p1, .int 3]) [] σ 0 0
  refine wm_iload_n 1 rfl dL_pair_0 rfl rfl ?_
  refine wm_if_ne 13 4 rfl (by decide) dL_pair_1 (fun _ => ?_) (fun c9 => absurd c9 (by decide))
  refine wm_iload_n 14 rfl dL_pair_13 rfl rfl ?_
  refine wm_iconst (v := 1) 15 rfl dL_pair_14 (by decide) ?_
  refine wm_icmp_ne 27 18 rfl (by decide) dL_pair_15 (fun _ => ?_) (fun c9 => absurd c9 (by decide))
  refine wm_iload_n 28 rfl dL_pair_27 rfl rfl ?_
  refine wm_iconst (v := 2) 29 rfl dL_pair_28 (by decide) ?_
  refine wm_icmp_ne 49 32 rfl (by decide) dL_pair_29 (fun _ => ?_) (fun c9 => absurd c9 (by decide))
  refine wm_iload_n 50 rfl dL_pair_49 rfl rfl ?_
  refine wm_iconst (v := 3) 51 rfl dL_pair_50 (by decide) ?_
  refine wm_icmp_ne 63 54 rfl (by decide) dL_pair_51 (fun c9 => absurd c9 (by decide)) (fun _ => ?_)
  refine wm_aload_n 55 rfl dL_pair_54 rfl rfl ?_
  refine wm_iload_n 56 rfl dL_pair_55 rfl rfl ?_
  refine wm_iload_n 57 rfl dL_pair_56 rfl rfl ?_
  refine wlh_callVi 60 rfl dL_pair_57 hM ca_X4_step cv_X4_step rfl aw_19_23 rfl rfl ⟨Nat.le_of_ble_eq_true rfl, Nat.le_of_ble_eq_true rfl⟩ (Nat.le_of_ble_eq_true rfl) ⟨Nat.le_of_eq (Nat.zero_add _), Nat.le_of_eq (Nat.zero_add _)⟩ hx (fun r σ1 hp => ?_)
  refine wm_goto 69 (by decide) dL_pair_60 ?_
  exact wll_iret dL_pair_69 rfl (Or.inl hp) (Nat.le_of_eq (Nat.zero_add _)) (Nat.le_of_eq (Nat.zero_add _))
theorem h_pair4 (l : Launch) {σ : Sg} {post : Int32 → Sg → Prop} {LX : List (String × Prop)} {mc ms : Nat} (p0 p1 : Int32) (hM : xMi l yX4_thingsIfAllowed cX4_thingsIfAllowed 4 .int 8 mc ms Lc [.ref 0, .int p0, .int p1] σ post (pT σ LX)) (hL : ∀ E ∈ LX.map Prod.fst, E ∈ [eIO, eIA, eIS, eNS]) : lMi l yL_pair cL_pair 5 [(0, 69, 70, 17), (0, 69, 76, 19), (0, 69, 82, 21), (0, 69, 88, 81)] 9 mc ms [.ref 0, .int p0, .int p1, .int 4] σ (fun v σ1 => post v σ1 ∨ (stb σ σ1 ∧ exq [(eIO, (-1001 : Int32)), (eIA, (-1002 : Int32)), (eIS, (-1003 : Int32)), (eNS, (-1004 : Int32))] LX v)) := by
  refine lMet_ofH (by decide +kernel) (Nat.le_of_ble_eq_true rfl) (fun D cT ad sz => ?_)
  have hx : ∀ E σ1, pT σ LX E σ1 → ∃ ps, zHd cL_pair [(0, 69, 70, 17), (0, 69, 76, 19), (0, 69, 82, 21), (0, 69, 88, 81)] 66 5 E ps ∧ Wm (zTh [(0, 69, 70, 17), (0, 69, 76, 19), (0, 69, 82, 21), (0, 69, 88, 81)]) l (rmx 9 mc ms) RL cL_pair 5 (some .int) D cT ad Lc (zA ad Lc.length sz) (zZl (fun D cT ad L sz => zQi D cT ad L sz (fun v σ1 => post v σ1 ∨ (stb σ σ1 ∧ exq [(eIO, (-1001 : Int32)), (eIA, (-1002 : Int32)), (eIS, (-1003 : Int32)), (eNS, (-1004 : Int32))] LX v))) mc ms D cT ad Lc sz) [] ps [] [] σ1 (0 + mc) (0 + ms) := by
    intro E σ1 hE
    have hm := hL E (thr_mem hE.2)
    simp only [List.mem_cons, List.not_mem_nil, or_false] at hm
    rcases hm with rfl | rfl | rfl | rfl
    · refine ⟨72, ⟨[], ⟨0, 69, 70, 17⟩, [⟨0, 69, 76, 19⟩, ⟨0, 69, 82, 21⟩, ⟨0, 69, 88, 81⟩], 4, rfl, (fun _ h => absurd h List.not_mem_nil), by decide, by decide, aw_10_9, List.mem_of_getElem? (i := 3) rfl, by decide, Or.inr ⟨dL_pair_70, rfl⟩⟩, ?_⟩
      refine wm_sipush (v := (-1001)) 75 rfl dL_pair_72 (by decide) ?_
      exact wll_iret dL_pair_75 rfl (Or.inr ⟨hE.1, eIO, hE.2, List.mem_of_getElem? (i := 0) rfl⟩) (Nat.le_of_eq (Nat.zero_add _)) (Nat.le_of_eq (Nat.zero_add _))
    · refine ⟨78, ⟨[⟨0, 69, 70, 17⟩], ⟨0, 69, 76, 19⟩, [⟨0, 69, 82, 21⟩, ⟨0, 69, 88, 81⟩], 4, rfl, (by
        intro y hy
        simp only [List.mem_cons, List.not_mem_nil, or_false] at hy
        subst hy
        exact Or.inr ⟨by decide, eIO, aw_10_9, List.mem_of_getElem? (i := 0) rfl⟩), by decide, by decide, aw_16_1, List.mem_of_getElem? (i := 1) rfl, by decide, Or.inr ⟨dL_pair_76, rfl⟩⟩, ?_⟩
      refine wm_sipush (v := (-1002)) 81 rfl dL_pair_78 (by decide) ?_
      exact wll_iret dL_pair_81 rfl (Or.inr ⟨hE.1, eIA, hE.2, List.mem_of_getElem? (i := 1) rfl⟩) (Nat.le_of_eq (Nat.zero_add _)) (Nat.le_of_eq (Nat.zero_add _))
    · refine ⟨84, ⟨[⟨0, 69, 70, 17⟩, ⟨0, 69, 76, 19⟩], ⟨0, 69, 82, 21⟩, [⟨0, 69, 88, 81⟩], 4, rfl, (by
        intro y hy
        simp only [List.mem_cons, List.not_mem_nil, or_false] at hy
        rcases hy with rfl | rfl
        · exact Or.inr ⟨by decide, eIO, aw_10_9, List.mem_of_getElem? (i := 1) rfl⟩
        · exact Or.inr ⟨by decide, eIA, aw_16_1, List.mem_of_getElem? (i := 2) rfl⟩), by decide, by decide, aw_16_2, List.mem_of_getElem? (i := 2) rfl, by decide, Or.inr ⟨dL_pair_82, rfl⟩⟩, ?_⟩
      refine wm_sipush (v := (-1003)) 87 rfl dL_pair_84 (by decide) ?_
      exact wll_iret dL_pair_87 rfl (Or.inr ⟨hE.1, eIS, hE.2, List.mem_of_getElem? (i := 2) rfl⟩) (Nat.le_of_eq (Nat.zero_add _)) (Nat.le_of_eq (Nat.zero_add _))
    · refine ⟨90, ⟨[⟨0, 69, 70, 17⟩, ⟨0, 69, 76, 19⟩, ⟨0, 69, 82, 21⟩], ⟨0, 69, 88, 81⟩, [], 4, rfl, (by
        intro y hy
        simp only [List.mem_cons, List.not_mem_nil, or_false] at hy
        rcases hy with rfl | rfl | rfl
        · exact Or.inr ⟨by decide, eIO, aw_10_9, List.mem_of_getElem? (i := 3) rfl⟩
        · exact Or.inr ⟨by decide, eIA, aw_16_1, List.mem_of_getElem? (i := 4) rfl⟩
        · exact Or.inr ⟨by decide, eIS, aw_16_2, List.mem_of_getElem? (i := 5) rfl⟩), by decide, by decide, aw_13_4, List.mem_of_getElem? (i := 4) rfl, by decide, Or.inr ⟨dL_pair_88, rfl⟩⟩, ?_⟩
      refine wm_sipush (v := (-1004)) 93 rfl dL_pair_90 (by decide) ?_
      exact wll_iret dL_pair_93 rfl (Or.inr ⟨hE.1, eNS, hE.2, List.mem_of_getElem? (i := 3) rfl⟩) (Nat.le_of_eq (Nat.zero_add _)) (Nat.le_of_eq (Nat.zero_add _))
  show Wm (zTh [(0, 69, 70, 17), (0, 69, 76, 19), (0, 69, 82, 21), (0, 69, 88, 81)]) l (rmx 9 mc ms) RL cL_pair 5 (some .int) D cT ad Lc (zA ad Lc.length sz) (zZl (fun D cT ad L sz => zQi D cT ad L sz (fun v σ1 => post v σ1 ∨ (stb σ σ1 ∧ exq [(eIO, (-1001 : Int32)), (eIA, (-1002 : Int32)), (eIS, (-1003 : Int32)), (eNS, (-1004 : Int32))] LX v))) mc ms D cT ad Lc sz) [] 0 (lv_args 0 [.ref 0, .int p0, .int p1, .int 4]) [] σ 0 0
  refine wm_iload_n 1 rfl dL_pair_0 rfl rfl ?_
  refine wm_if_ne 13 4 rfl (by decide) dL_pair_1 (fun _ => ?_) (fun c9 => absurd c9 (by decide))
  refine wm_iload_n 14 rfl dL_pair_13 rfl rfl ?_
  refine wm_iconst (v := 1) 15 rfl dL_pair_14 (by decide) ?_
  refine wm_icmp_ne 27 18 rfl (by decide) dL_pair_15 (fun _ => ?_) (fun c9 => absurd c9 (by decide))
  refine wm_iload_n 28 rfl dL_pair_27 rfl rfl ?_
  refine wm_iconst (v := 2) 29 rfl dL_pair_28 (by decide) ?_
  refine wm_icmp_ne 49 32 rfl (by decide) dL_pair_29 (fun _ => ?_) (fun c9 => absurd c9 (by decide))
  refine wm_iload_n 50 rfl dL_pair_49 rfl rfl ?_
  refine wm_iconst (v := 3) 51 rfl dL_pair_50 (by decide) ?_
  refine wm_icmp_ne 63 54 rfl (by decide) dL_pair_51 (fun _ => ?_) (fun c9 => absurd c9 (by decide))
  refine wm_aload_n 64 rfl dL_pair_63 rfl rfl ?_
  refine wm_iload_n 65 rfl dL_pair_64 rfl rfl ?_
  refine wm_iload_n 66 rfl dL_pair_65 rfl rfl ?_
  refine wlh_callVi 69 rfl dL_pair_66 hM ca_X4_thingsIfAllowed cv_X4_thingsIfAllowed rfl aw_20_7 rfl rfl ⟨Nat.le_of_ble_eq_true rfl, Nat.le_of_ble_eq_true rfl⟩ (Nat.le_of_ble_eq_true rfl) ⟨Nat.le_of_eq (Nat.zero_add _), Nat.le_of_eq (Nat.zero_add _)⟩ hx (fun r σ1 hp => ?_)
  exact wll_iret dL_pair_69 rfl (Or.inl hp) (Nat.le_of_eq (Nat.zero_add _)) (Nat.le_of_eq (Nat.zero_add _))
theorem h_key0 (l : Launch) {σ : Sg} {post : Int32 → Sg → Prop} {LX : List (String × Prop)} {mc ms : Nat} (p0 p1 : Int32) (hM : xMi l yX4_key cX4_key 3 .int 7 mc ms Lc [.ref 0, .int p0, .int p1] σ post (pT σ LX)) (hL : ∀ E ∈ LX.map Prod.fst, E ∈ [eIO, eNS]) : lMi l yL_key cL_key 5 [(0, 19, 20, 17), (0, 19, 26, 81)] 8 mc ms [.ref 0, .int p0, .int p1, .int 0] σ (fun v σ1 => post v σ1 ∨ (stb σ σ1 ∧ exq [(eIO, (-1001 : Int32)), (eNS, (-1002 : Int32))] LX v)) := by
  refine lMet_ofH (by decide +kernel) (Nat.le_of_ble_eq_true rfl) (fun D cT ad sz => ?_)
  have hx : ∀ E σ1, pT σ LX E σ1 → ∃ ps, zHd cL_key [(0, 19, 20, 17), (0, 19, 26, 81)] 16 5 E ps ∧ Wm (zTh [(0, 19, 20, 17), (0, 19, 26, 81)]) l (rmx 8 mc ms) RL cL_key 5 (some .int) D cT ad Lc (zA ad Lc.length sz) (zZl (fun D cT ad L sz => zQi D cT ad L sz (fun v σ1 => post v σ1 ∨ (stb σ σ1 ∧ exq [(eIO, (-1001 : Int32)), (eNS, (-1002 : Int32))] LX v))) mc ms D cT ad Lc sz) [] ps [] [] σ1 (0 + mc) (0 + ms) := by
    intro E σ1 hE
    have hm := hL E (thr_mem hE.2)
    simp only [List.mem_cons, List.not_mem_nil, or_false] at hm
    rcases hm with rfl | rfl
    · refine ⟨22, ⟨[], ⟨0, 19, 20, 17⟩, [⟨0, 19, 26, 81⟩], 4, rfl, (fun _ h => absurd h List.not_mem_nil), by decide, by decide, aw_10_9, List.mem_of_getElem? (i := 3) rfl, by decide, Or.inr ⟨dL_key_20, rfl⟩⟩, ?_⟩
      refine wm_sipush (v := (-1001)) 25 rfl dL_key_22 (by decide) ?_
      exact wll_iret dL_key_25 rfl (Or.inr ⟨hE.1, eIO, hE.2, List.mem_of_getElem? (i := 0) rfl⟩) (Nat.le_of_eq (Nat.zero_add _)) (Nat.le_of_eq (Nat.zero_add _))
    · refine ⟨28, ⟨[⟨0, 19, 20, 17⟩], ⟨0, 19, 26, 81⟩, [], 4, rfl, (by
        intro y hy
        simp only [List.mem_cons, List.not_mem_nil, or_false] at hy
        subst hy
        exact Or.inr ⟨by decide, eIO, aw_10_9, List.mem_of_getElem? (i := 3) rfl⟩), by decide, by decide, aw_13_4, List.mem_of_getElem? (i := 4) rfl, by decide, Or.inr ⟨dL_key_26, rfl⟩⟩, ?_⟩
      refine wm_sipush (v := (-1002)) 31 rfl dL_key_28 (by decide) ?_
      exact wll_iret dL_key_31 rfl (Or.inr ⟨hE.1, eNS, hE.2, List.mem_of_getElem? (i := 1) rfl⟩) (Nat.le_of_eq (Nat.zero_add _)) (Nat.le_of_eq (Nat.zero_add _))
  show Wm (zTh [(0, 19, 20, 17), (0, 19, 26, 81)]) l (rmx 8 mc ms) RL cL_key 5 (some .int) D cT ad Lc (zA ad Lc.length sz) (zZl (fun D cT ad L sz => zQi D cT ad L sz (fun v σ1 => post v σ1 ∨ (stb σ σ1 ∧ exq [(eIO, (-1001 : Int32)), (eNS, (-1002 : Int32))] LX v))) mc ms D cT ad Lc sz) [] 0 (lv_args 0 [.ref 0, .int p0, .int p1, .int 0]) [] σ 0 0
  refine wm_iload_n 1 rfl dL_key_0 rfl rfl ?_
  refine wm_if_eq 13 4 rfl (by decide) dL_key_1 (fun _ => ?_) (fun c9 => absurd c9 (by decide))
  refine wm_aload_n 14 rfl dL_key_13 rfl rfl ?_
  refine wm_iload_n 15 rfl dL_key_14 rfl rfl ?_
  refine wm_iload_n 16 rfl dL_key_15 rfl rfl ?_
  refine wlh_callVi 19 rfl dL_key_16 hM ca_X4_key cv_X4_key rfl aw_13_15 rfl rfl ⟨Nat.le_of_ble_eq_true rfl, Nat.le_of_ble_eq_true rfl⟩ (Nat.le_of_ble_eq_true rfl) ⟨Nat.le_of_eq (Nat.zero_add _), Nat.le_of_eq (Nat.zero_add _)⟩ hx (fun r σ1 hp => ?_)
  exact wll_iret dL_key_19 rfl (Or.inl hp) (Nat.le_of_eq (Nat.zero_add _)) (Nat.le_of_eq (Nat.zero_add _))
theorem h_key1 (l : Launch) {σ : Sg} {post : Int32 → Sg → Prop} {LX : List (String × Prop)} {mc ms : Nat} (p0 p1 : Int32) (hM : xMi l yX4_member cX4_member 4 .int 8 mc ms Lc [.ref 0, .int p0, .int p1] σ post (pT σ LX)) (hL : ∀ E ∈ LX.map Prod.fst, E ∈ [eIO, eNS]) : lMi l yL_key cL_key 5 [(0, 19, 20, 17), (0, 19, 26, 81)] 9 mc ms [.ref 0, .int p0, .int p1, .int 1] σ (fun v σ1 => post v σ1 ∨ (stb σ σ1 ∧ exq [(eIO, (-1001 : Int32)), (eNS, (-1002 : Int32))] LX v)) := by
  refine lMet_ofH (by decide +kernel) (Nat.le_of_ble_eq_true rfl) (fun D cT ad sz => ?_)
  have hx : ∀ E σ1, pT σ LX E σ1 → ∃ ps, zHd cL_key [(0, 19, 20, 17), (0, 19, 26, 81)] 7 5 E ps ∧ Wm (zTh [(0, 19, 20, 17), (0, 19, 26, 81)]) l (rmx 9 mc ms) RL cL_key 5 (some .int) D cT ad Lc (zA ad Lc.length sz) (zZl (fun D cT ad L sz => zQi D cT ad L sz (fun v σ1 => post v σ1 ∨ (stb σ σ1 ∧ exq [(eIO, (-1001 : Int32)), (eNS, (-1002 : Int32))] LX v))) mc ms D cT ad Lc sz) [] ps [] [] σ1 (0 + mc) (0 + ms) := by
    intro E σ1 hE
    have hm := hL E (thr_mem hE.2)
    simp only [List.mem_cons, List.not_mem_nil, or_false] at hm
    rcases hm with rfl | rfl
    · refine ⟨22, ⟨[], ⟨0, 19, 20, 17⟩, [⟨0, 19, 26, 81⟩], 4, rfl, (fun _ h => absurd h List.not_mem_nil), by decide, by decide, aw_10_9, List.mem_of_getElem? (i := 3) rfl, by decide, Or.inr ⟨dL_key_20, rfl⟩⟩, ?_⟩
      refine wm_sipush (v := (-1001)) 25 rfl dL_key_22 (by decide) ?_
      exact wll_iret dL_key_25 rfl (Or.inr ⟨hE.1, eIO, hE.2, List.mem_of_getElem? (i := 0) rfl⟩) (Nat.le_of_eq (Nat.zero_add _)) (Nat.le_of_eq (Nat.zero_add _))
    · refine ⟨28, ⟨[⟨0, 19, 20, 17⟩], ⟨0, 19, 26, 81⟩, [], 4, rfl, (by
        intro y hy
        simp only [List.mem_cons, List.not_mem_nil, or_false] at hy
        subst hy
        exact Or.inr ⟨by decide, eIO, aw_10_9, List.mem_of_getElem? (i := 3) rfl⟩), by decide, by decide, aw_13_4, List.mem_of_getElem? (i := 4) rfl, by decide, Or.inr ⟨dL_key_26, rfl⟩⟩, ?_⟩
      refine wm_sipush (v := (-1002)) 31 rfl dL_key_28 (by decide) ?_
      exact wll_iret dL_key_31 rfl (Or.inr ⟨hE.1, eNS, hE.2, List.mem_of_getElem? (i := 1) rfl⟩) (Nat.le_of_eq (Nat.zero_add _)) (Nat.le_of_eq (Nat.zero_add _))
  show Wm (zTh [(0, 19, 20, 17), (0, 19, 26, 81)]) l (rmx 9 mc ms) RL cL_key 5 (some .int) D cT ad Lc (zA ad Lc.length sz) (zZl (fun D cT ad L sz => zQi D cT ad L sz (fun v σ1 => post v σ1 ∨ (stb σ σ1 ∧ exq [(eIO, (-1001 : Int32)), (eNS, (-1002 : Int32))] LX v))) mc ms D cT ad Lc sz) [] 0 (lv_args 0 [.ref 0, .int p0, .int p1, .int 1]) [] σ 0 0
  refine wm_iload_n 1 rfl dL_key_0 rfl rfl ?_
  refine wm_if_eq 13 4 rfl (by decide) dL_key_1 (fun c9 => absurd c9 (by decide)) (fun _ => ?_)
  refine wm_aload_n 5 rfl dL_key_4 rfl rfl ?_
  refine wm_iload_n 6 rfl dL_key_5 rfl rfl ?_
  refine wm_iload_n 7 rfl dL_key_6 rfl rfl ?_
  refine wlh_callVi 10 rfl dL_key_7 hM ca_X4_member cv_X4_member rfl aw_13_5 rfl rfl ⟨Nat.le_of_ble_eq_true rfl, Nat.le_of_ble_eq_true rfl⟩ (Nat.le_of_ble_eq_true rfl) ⟨Nat.le_of_eq (Nat.zero_add _), Nat.le_of_eq (Nat.zero_add _)⟩ hx (fun r σ1 hp => ?_)
  refine wm_goto 19 (by decide) dL_key_10 ?_
  exact wll_iret dL_key_19 rfl (Or.inl hp) (Nat.le_of_eq (Nat.zero_add _)) (Nat.le_of_eq (Nat.zero_add _))
theorem h_shared (l : Launch) {σ : Sg} {post : Int32 → Sg → Prop} {LX : List (String × Prop)} {mc ms : Nat} (p0 : Int32) (hM : xMi l yX4_shared cX4_shared 4 .int 7 mc ms Lc [.ref 0, .int p0] σ post (pT σ LX)) (hL : ∀ E ∈ LX.map Prod.fst, E ∈ [eIO]) : lMi l yL_shared cL_shared 3 [(0, 5, 6, 17)] 8 mc ms [.ref 0, .int p0] σ (fun v σ1 => post v σ1 ∨ (stb σ σ1 ∧ exq [(eIO, (-1001 : Int32))] LX v)) := by
  refine lMet_ofH (by decide +kernel) (Nat.le_of_ble_eq_true rfl) (fun D cT ad sz => ?_)
  have hx : ∀ E σ1, pT σ LX E σ1 → ∃ ps, zHd cL_shared [(0, 5, 6, 17)] 2 3 E ps ∧ Wm (zTh [(0, 5, 6, 17)]) l (rmx 8 mc ms) RL cL_shared 3 (some .int) D cT ad Lc (zA ad Lc.length sz) (zZl (fun D cT ad L sz => zQi D cT ad L sz (fun v σ1 => post v σ1 ∨ (stb σ σ1 ∧ exq [(eIO, (-1001 : Int32))] LX v))) mc ms D cT ad Lc sz) [] ps [] [] σ1 (0 + mc) (0 + ms) := by
    intro E σ1 hE
    have hm := hL E (thr_mem hE.2)
    simp only [List.mem_cons, List.not_mem_nil, or_false] at hm
    subst hm
    refine ⟨7, ⟨[], ⟨0, 5, 6, 17⟩, [], 2, rfl, (fun _ h => absurd h List.not_mem_nil), by decide, by decide, aw_10_9, List.mem_of_getElem? (i := 3) rfl, by decide, Or.inl ⟨2, rfl, dL_shared_6, rfl⟩⟩, ?_⟩
    refine wm_sipush (v := (-1001)) 10 rfl dL_shared_7 (by decide) ?_
    exact wll_iret dL_shared_10 rfl (Or.inr ⟨hE.1, eIO, hE.2, List.mem_of_getElem? (i := 0) rfl⟩) (Nat.le_of_eq (Nat.zero_add _)) (Nat.le_of_eq (Nat.zero_add _))
  show Wm (zTh [(0, 5, 6, 17)]) l (rmx 8 mc ms) RL cL_shared 3 (some .int) D cT ad Lc (zA ad Lc.length sz) (zZl (fun D cT ad L sz => zQi D cT ad L sz (fun v σ1 => post v σ1 ∨ (stb σ σ1 ∧ exq [(eIO, (-1001 : Int32))] LX v))) mc ms D cT ad Lc sz) [] 0 (lv_args 0 [.ref 0, .int p0]) [] σ 0 0
  refine wm_aload_n 1 rfl dL_shared_0 rfl rfl ?_
  refine wm_iload_n 2 rfl dL_shared_1 rfl rfl ?_
  refine wlh_callVi 5 rfl dL_shared_2 hM ca_X4_shared cv_X4_shared rfl aw_21_21 rfl rfl ⟨Nat.le_of_ble_eq_true rfl, Nat.le_of_ble_eq_true rfl⟩ (Nat.le_of_ble_eq_true rfl) ⟨Nat.le_of_eq (Nat.zero_add _), Nat.le_of_eq (Nat.zero_add _)⟩ hx (fun r σ1 hp => ?_)
  exact wll_iret dL_shared_5 rfl (Or.inl hp) (Nat.le_of_eq (Nat.zero_add _)) (Nat.le_of_eq (Nat.zero_add _))
theorem h_fact0 (l : Launch) {σ : Sg} {post : Int32 → Sg → Prop} {LX : List (String × Prop)} {mc ms : Nat} (p0 p1 : Int32) (hM : xMi l yX4_fact cX4_fact 4 .int 8 mc ms Lc [.ref 0, .int p0, .int p1] σ post (pT σ LX)) (hL : ∀ E ∈ LX.map Prod.fst, E ∈ [eIO, eNS]) : lMi l yL_fact cL_fact 5 [(0, 33, 34, 17), (0, 33, 40, 81)] 9 mc ms [.ref 0, .int p0, .int p1, .int 0] σ (fun v σ1 => post v σ1 ∨ (stb σ σ1 ∧ exq [(eIO, (-1001 : Int32)), (eNS, (-1002 : Int32))] LX v)) := by
  refine lMet_ofH (by decide +kernel) (Nat.le_of_ble_eq_true rfl) (fun D cT ad sz => ?_)
  have hx : ∀ E σ1, pT σ LX E σ1 → ∃ ps, zHd cL_fact [(0, 33, 34, 17), (0, 33, 40, 81)] 7 5 E ps ∧ Wm (zTh [(0, 33, 34, 17), (0, 33, 40, 81)]) l (rmx 9 mc ms) RL cL_fact 5 (some .int) D cT ad Lc (zA ad Lc.length sz) (zZl (fun D cT ad L sz => zQi D cT ad L sz (fun v σ1 => post v σ1 ∨ (stb σ σ1 ∧ exq [(eIO, (-1001 : Int32)), (eNS, (-1002 : Int32))] LX v))) mc ms D cT ad Lc sz) [] ps [] [] σ1 (0 + mc) (0 + ms) := by
    intro E σ1 hE
    have hm := hL E (thr_mem hE.2)
    simp only [List.mem_cons, List.not_mem_nil, or_false] at hm
    rcases hm with rfl | rfl
    · refine ⟨36, ⟨[], ⟨0, 33, 34, 17⟩, [⟨0, 33, 40, 81⟩], 4, rfl, (fun _ h => absurd h List.not_mem_nil), by decide, by decide, aw_10_9, List.mem_of_getElem? (i := 3) rfl, by decide, Or.inr ⟨dL_fact_34, rfl⟩⟩, ?_⟩
      refine wm_sipush (v := (-1001)) 39 rfl dL_fact_36 (by decide) ?_
      exact wll_iret dL_fact_39 rfl (Or.inr ⟨hE.1, eIO, hE.2, List.mem_of_getElem? (i := 0) rfl⟩) (Nat.le_of_eq (Nat.zero_add _)) (Nat.le_of_eq (Nat.zero_add _))
    · refine ⟨42, ⟨[⟨0, 33, 34, 17⟩], ⟨0, 33, 40, 81⟩, [], 4, rfl, (by
        intro y hy
        simp only [List.mem_cons, List.not_mem_nil, or_false] at hy
        subst hy
        exact Or.inr ⟨by decide, eIO, aw_10_9, List.mem_of_getElem? (i := 3) rfl⟩), by decide, by decide, aw_13_4, List.mem_of_getElem? (i := 4) rfl, by decide, Or.inr ⟨dL_fact_40, rfl⟩⟩, ?_⟩
      refine wm_sipush (v := (-1002)) 45 rfl dL_fact_42 (by decide) ?_
      exact wll_iret dL_fact_45 rfl (Or.inr ⟨hE.1, eNS, hE.2, List.mem_of_getElem? (i := 1) rfl⟩) (Nat.le_of_eq (Nat.zero_add _)) (Nat.le_of_eq (Nat.zero_add _))
  show Wm (zTh [(0, 33, 34, 17), (0, 33, 40, 81)]) l (rmx 9 mc ms) RL cL_fact 5 (some .int) D cT ad Lc (zA ad Lc.length sz) (zZl (fun D cT ad L sz => zQi D cT ad L sz (fun v σ1 => post v σ1 ∨ (stb σ σ1 ∧ exq [(eIO, (-1001 : Int32)), (eNS, (-1002 : Int32))] LX v))) mc ms D cT ad Lc sz) [] 0 (lv_args 0 [.ref 0, .int p0, .int p1, .int 0]) [] σ 0 0
  refine wm_iload_n 1 rfl dL_fact_0 rfl rfl ?_
  refine wm_if_ne 13 4 rfl (by decide) dL_fact_1 (fun c9 => absurd c9 (by decide)) (fun _ => ?_)
  refine wm_aload_n 5 rfl dL_fact_4 rfl rfl ?_
  refine wm_iload_n 6 rfl dL_fact_5 rfl rfl ?_
  refine wm_iload_n 7 rfl dL_fact_6 rfl rfl ?_
  refine wlh_callVi 10 rfl dL_fact_7 hM ca_X4_fact cv_X4_fact rfl aw_14_2 rfl rfl ⟨Nat.le_of_ble_eq_true rfl, Nat.le_of_ble_eq_true rfl⟩ (Nat.le_of_ble_eq_true rfl) ⟨Nat.le_of_eq (Nat.zero_add _), Nat.le_of_eq (Nat.zero_add _)⟩ hx (fun r σ1 hp => ?_)
  refine wm_goto 33 (by decide) dL_fact_10 ?_
  exact wll_iret dL_fact_33 rfl (Or.inl hp) (Nat.le_of_eq (Nat.zero_add _)) (Nat.le_of_eq (Nat.zero_add _))
theorem h_fact1 (l : Launch) {σ : Sg} {post : Int32 → Sg → Prop} {LX : List (String × Prop)} {mc ms : Nat} (p0 p1 : Int32) (hM : xMi l yX4_factByPairs cX4_factByPairs 4 .int 8 mc ms Lc [.ref 0, .int p0, .int p1] σ post (pT σ LX)) (hL : ∀ E ∈ LX.map Prod.fst, E ∈ [eIO, eNS]) : lMi l yL_fact cL_fact 5 [(0, 33, 34, 17), (0, 33, 40, 81)] 9 mc ms [.ref 0, .int p0, .int p1, .int 1] σ (fun v σ1 => post v σ1 ∨ (stb σ σ1 ∧ exq [(eIO, (-1001 : Int32)), (eNS, (-1002 : Int32))] LX v)) := by
  refine lMet_ofH (by decide +kernel) (Nat.le_of_ble_eq_true rfl) (fun D cT ad sz => ?_)
  have hx : ∀ E σ1, pT σ LX E σ1 → ∃ ps, zHd cL_fact [(0, 33, 34, 17), (0, 33, 40, 81)] 21 5 E ps ∧ Wm (zTh [(0, 33, 34, 17), (0, 33, 40, 81)]) l (rmx 9 mc ms) RL cL_fact 5 (some .int) D cT ad Lc (zA ad Lc.length sz) (zZl (fun D cT ad L sz => zQi D cT ad L sz (fun v σ1 => post v σ1 ∨ (stb σ σ1 ∧ exq [(eIO, (-1001 : Int32)), (eNS, (-1002 : Int32))] LX v))) mc ms D cT ad Lc sz) [] ps [] [] σ1 (0 + mc) (0 + ms) := by
    intro E σ1 hE
    have hm := hL E (thr_mem hE.2)
    simp only [List.mem_cons, List.not_mem_nil, or_false] at hm
    rcases hm with rfl | rfl
    · refine ⟨36, ⟨[], ⟨0, 33, 34, 17⟩, [⟨0, 33, 40, 81⟩], 4, rfl, (fun _ h => absurd h List.not_mem_nil), by decide, by decide, aw_10_9, List.mem_of_getElem? (i := 3) rfl, by decide, Or.inr ⟨dL_fact_34, rfl⟩⟩, ?_⟩
      refine wm_sipush (v := (-1001)) 39 rfl dL_fact_36 (by decide) ?_
      exact wll_iret dL_fact_39 rfl (Or.inr ⟨hE.1, eIO, hE.2, List.mem_of_getElem? (i := 0) rfl⟩) (Nat.le_of_eq (Nat.zero_add _)) (Nat.le_of_eq (Nat.zero_add _))
    · refine ⟨42, ⟨[⟨0, 33, 34, 17⟩], ⟨0, 33, 40, 81⟩, [], 4, rfl, (by
        intro y hy
        simp only [List.mem_cons, List.not_mem_nil, or_false] at hy
        subst hy
        exact Or.inr ⟨by decide, eIO, aw_10_9, List.mem_of_getElem? (i := 3) rfl⟩), by decide, by decide, aw_13_4, List.mem_of_getElem? (i := 4) rfl, by decide, Or.inr ⟨dL_fact_40, rfl⟩⟩, ?_⟩
      refine wm_sipush (v := (-1002)) 45 rfl dL_fact_42 (by decide) ?_
      exact wll_iret dL_fact_45 rfl (Or.inr ⟨hE.1, eNS, hE.2, List.mem_of_getElem? (i := 1) rfl⟩) (Nat.le_of_eq (Nat.zero_add _)) (Nat.le_of_eq (Nat.zero_add _))
  show Wm (zTh [(0, 33, 34, 17), (0, 33, 40, 81)]) l (rmx 9 mc ms) RL cL_fact 5 (some .int) D cT ad Lc (zA ad Lc.length sz) (zZl (fun D cT ad L sz => zQi D cT ad L sz (fun v σ1 => post v σ1 ∨ (stb σ σ1 ∧ exq [(eIO, (-1001 : Int32)), (eNS, (-1002 : Int32))] LX v))) mc ms D cT ad Lc sz) [] 0 (lv_args 0 [.ref 0, .int p0, .int p1, .int 1]) [] σ 0 0
  refine wm_iload_n 1 rfl dL_fact_0 rfl rfl ?_
  refine wm_if_ne 13 4 rfl (by decide) dL_fact_1 (fun _ => ?_) (fun c9 => absurd c9 (by decide))
  refine wm_iload_n 14 rfl dL_fact_13 rfl rfl ?_
  refine wm_iconst (v := 1) 15 rfl dL_fact_14 (by decide) ?_
  refine wm_icmp_ne 27 18 rfl (by decide) dL_fact_15 (fun c9 => absurd c9 (by decide)) (fun _ => ?_)
  refine wm_aload_n 19 rfl dL_fact_18 rfl rfl ?_
  refine wm_iload_n 20 rfl dL_fact_19 rfl rfl ?_
  refine wm_iload_n 21 rfl dL_fact_20 rfl rfl ?_
  refine wlh_callVi 24 rfl dL_fact_21 hM ca_X4_factByPairs cv_X4_factByPairs rfl aw_15_2 rfl rfl ⟨Nat.le_of_ble_eq_true rfl, Nat.le_of_ble_eq_true rfl⟩ (Nat.le_of_ble_eq_true rfl) ⟨Nat.le_of_eq (Nat.zero_add _), Nat.le_of_eq (Nat.zero_add _)⟩ hx (fun r σ1 hp => ?_)
  refine wm_goto 33 (by decide) dL_fact_24 ?_
  exact wll_iret dL_fact_33 rfl (Or.inl hp) (Nat.le_of_eq (Nat.zero_add _)) (Nat.le_of_eq (Nat.zero_add _))
theorem h_fact2 (l : Launch) {σ : Sg} {post : Int32 → Sg → Prop} {LX : List (String × Prop)} {mc ms : Nat} (p0 p1 : Int32) (hM : xMi l yX4_factFrom cX4_factFrom 4 .int 8 mc ms Lc [.ref 0, .int p0, .int p1] σ post (pT σ LX)) (hL : ∀ E ∈ LX.map Prod.fst, E ∈ [eIO, eNS]) : lMi l yL_fact cL_fact 5 [(0, 33, 34, 17), (0, 33, 40, 81)] 9 mc ms [.ref 0, .int p0, .int p1, .int 2] σ (fun v σ1 => post v σ1 ∨ (stb σ σ1 ∧ exq [(eIO, (-1001 : Int32)), (eNS, (-1002 : Int32))] LX v)) := by
  refine lMet_ofH (by decide +kernel) (Nat.le_of_ble_eq_true rfl) (fun D cT ad sz => ?_)
  have hx : ∀ E σ1, pT σ LX E σ1 → ∃ ps, zHd cL_fact [(0, 33, 34, 17), (0, 33, 40, 81)] 30 5 E ps ∧ Wm (zTh [(0, 33, 34, 17), (0, 33, 40, 81)]) l (rmx 9 mc ms) RL cL_fact 5 (some .int) D cT ad Lc (zA ad Lc.length sz) (zZl (fun D cT ad L sz => zQi D cT ad L sz (fun v σ1 => post v σ1 ∨ (stb σ σ1 ∧ exq [(eIO, (-1001 : Int32)), (eNS, (-1002 : Int32))] LX v))) mc ms D cT ad Lc sz) [] ps [] [] σ1 (0 + mc) (0 + ms) := by
    intro E σ1 hE
    have hm := hL E (thr_mem hE.2)
    simp only [List.mem_cons, List.not_mem_nil, or_false] at hm
    rcases hm with rfl | rfl
    · refine ⟨36, ⟨[], ⟨0, 33, 34, 17⟩, [⟨0, 33, 40, 81⟩], 4, rfl, (fun _ h => absurd h List.not_mem_nil), by decide, by decide, aw_10_9, List.mem_of_getElem? (i := 3) rfl, by decide, Or.inr ⟨dL_fact_34, rfl⟩⟩, ?_⟩
      refine wm_sipush (v := (-1001)) 39 rfl dL_fact_36 (by decide) ?_
      exact wll_iret dL_fact_39 rfl (Or.inr ⟨hE.1, eIO, hE.2, List.mem_of_getElem? (i := 0) rfl⟩) (Nat.le_of_eq (Nat.zero_add _)) (Nat.le_of_eq (Nat.zero_add _))
    · refine ⟨42, ⟨[⟨0, 33, 34, 17⟩], ⟨0, 33, 40, 81⟩, [], 4, rfl, (by
        intro y hy
        simp only [List.mem_cons, List.not_mem_nil, or_false] at hy
        subst hy
        exact Or.inr ⟨by decide, eIO, aw_10_9, List.mem_of_getElem? (i := 3) rfl⟩), by decide, by decide, aw_13_4, List.mem_of_getElem? (i := 4) rfl, by decide, Or.inr ⟨dL_fact_40, rfl⟩⟩, ?_⟩
      refine wm_sipush (v := (-1002)) 45 rfl dL_fact_42 (by decide) ?_
      exact wll_iret dL_fact_45 rfl (Or.inr ⟨hE.1, eNS, hE.2, List.mem_of_getElem? (i := 1) rfl⟩) (Nat.le_of_eq (Nat.zero_add _)) (Nat.le_of_eq (Nat.zero_add _))
  show Wm (zTh [(0, 33, 34, 17), (0, 33, 40, 81)]) l (rmx 9 mc ms) RL cL_fact 5 (some .int) D cT ad Lc (zA ad Lc.length sz) (zZl (fun D cT ad L sz => zQi D cT ad L sz (fun v σ1 => post v σ1 ∨ (stb σ σ1 ∧ exq [(eIO, (-1001 : Int32)), (eNS, (-1002 : Int32))] LX v))) mc ms D cT ad Lc sz) [] 0 (lv_args 0 [.ref 0, .int p0, .int p1, .int 2]) [] σ 0 0
  refine wm_iload_n 1 rfl dL_fact_0 rfl rfl ?_
  refine wm_if_ne 13 4 rfl (by decide) dL_fact_1 (fun _ => ?_) (fun c9 => absurd c9 (by decide))
  refine wm_iload_n 14 rfl dL_fact_13 rfl rfl ?_
  refine wm_iconst (v := 1) 15 rfl dL_fact_14 (by decide) ?_
  refine wm_icmp_ne 27 18 rfl (by decide) dL_fact_15 (fun _ => ?_) (fun c9 => absurd c9 (by decide))
  refine wm_aload_n 28 rfl dL_fact_27 rfl rfl ?_
  refine wm_iload_n 29 rfl dL_fact_28 rfl rfl ?_
  refine wm_iload_n 30 rfl dL_fact_29 rfl rfl ?_
  refine wlh_callVi 33 rfl dL_fact_30 hM ca_X4_factFrom cv_X4_factFrom rfl aw_15_18 rfl rfl ⟨Nat.le_of_ble_eq_true rfl, Nat.le_of_ble_eq_true rfl⟩ (Nat.le_of_ble_eq_true rfl) ⟨Nat.le_of_eq (Nat.zero_add _), Nat.le_of_eq (Nat.zero_add _)⟩ hx (fun r σ1 hp => ?_)
  exact wll_iret dL_fact_33 rfl (Or.inl hp) (Nat.le_of_eq (Nat.zero_add _)) (Nat.le_of_eq (Nat.zero_add _))
theorem h_agreement (l : Launch) {σ : Sg} {post : UInt32 → Sg → Prop} {LX : List (String × Prop)} {mc ms : Nat} (p0 p1 : Int32) (hM : xMf l yX4_agreement cX4_agreement 8 8 mc ms Lc [.ref 0, .int p0, .int p1] σ post (pT σ LX)) (hL : ∀ E ∈ LX.map Prod.fst, E ∈ [eIO, eNS]) : lMf l yL_agreement cL_agreement 4 [(0, 6, 7, 17), (0, 6, 11, 81)] 9 mc ms [.ref 0, .int p0, .int p1] σ (fun v σ1 => post v σ1 ∨ (stb σ σ1 ∧ exq [(eIO, ((3212836864) : UInt32)), (eNS, ((3221225472) : UInt32))] LX v)) := by
  refine lMet_ofH (by decide +kernel) (Nat.le_of_ble_eq_true rfl) (fun D cT ad sz => ?_)
  have hx : ∀ E σ1, pT σ LX E σ1 → ∃ ps, zHd cL_agreement [(0, 6, 7, 17), (0, 6, 11, 81)] 3 4 E ps ∧ Wm (zTh [(0, 6, 7, 17), (0, 6, 11, 81)]) l (rmx 9 mc ms) RL cL_agreement 4 (some .float) D cT ad Lc (zA ad Lc.length sz) (zZl (fun D cT ad L sz => zQf D cT ad L sz (fun v σ1 => post v σ1 ∨ (stb σ σ1 ∧ exq [(eIO, ((3212836864) : UInt32)), (eNS, ((3221225472) : UInt32))] LX v))) mc ms D cT ad Lc sz) [] ps [] [] σ1 (0 + mc) (0 + ms) := by
    intro E σ1 hE
    have hm := hL E (thr_mem hE.2)
    simp only [List.mem_cons, List.not_mem_nil, or_false] at hm
    rcases hm with rfl | rfl
    · refine ⟨8, ⟨[], ⟨0, 6, 7, 17⟩, [⟨0, 6, 11, 81⟩], 3, rfl, (fun _ h => absurd h List.not_mem_nil), by decide, by decide, aw_10_9, List.mem_of_getElem? (i := 3) rfl, by decide, Or.inl ⟨3, rfl, dL_agreement_7, rfl⟩⟩, ?_⟩
      refine wm_ldcf 10 rfl dL_agreement_8 aw_1_8 ?_
      exact wll_fret dL_agreement_10 (Or.inr ⟨hE.1, eIO, hE.2, List.mem_of_getElem? (i := 0) rfl⟩) (Nat.le_of_eq (Nat.zero_add _)) (Nat.le_of_eq (Nat.zero_add _))
    · refine ⟨12, ⟨[⟨0, 6, 7, 17⟩], ⟨0, 6, 11, 81⟩, [], 3, rfl, (by
        intro y hy
        simp only [List.mem_cons, List.not_mem_nil, or_false] at hy
        subst hy
        exact Or.inr ⟨by decide, eIO, aw_10_9, List.mem_of_getElem? (i := 3) rfl⟩), by decide, by decide, aw_13_4, List.mem_of_getElem? (i := 4) rfl, by decide, Or.inl ⟨3, rfl, dL_agreement_11, rfl⟩⟩, ?_⟩
      refine wm_ldcf 14 rfl dL_agreement_12 aw_21_4 ?_
      exact wll_fret dL_agreement_14 (Or.inr ⟨hE.1, eNS, hE.2, List.mem_of_getElem? (i := 1) rfl⟩) (Nat.le_of_eq (Nat.zero_add _)) (Nat.le_of_eq (Nat.zero_add _))
  show Wm (zTh [(0, 6, 7, 17), (0, 6, 11, 81)]) l (rmx 9 mc ms) RL cL_agreement 4 (some .float) D cT ad Lc (zA ad Lc.length sz) (zZl (fun D cT ad L sz => zQf D cT ad L sz (fun v σ1 => post v σ1 ∨ (stb σ σ1 ∧ exq [(eIO, ((3212836864) : UInt32)), (eNS, ((3221225472) : UInt32))] LX v))) mc ms D cT ad Lc sz) [] 0 (lv_args 0 [.ref 0, .int p0, .int p1]) [] σ 0 0
  refine wm_aload_n 1 rfl dL_agreement_0 rfl rfl ?_
  refine wm_iload_n 2 rfl dL_agreement_1 rfl rfl ?_
  refine wm_iload_n 3 rfl dL_agreement_2 rfl rfl ?_
  refine wlh_callVf 6 rfl dL_agreement_3 hM ca_X4_agreement cv_X4_agreement rfl aw_21_5 rfl rfl ⟨Nat.le_of_ble_eq_true rfl, Nat.le_of_ble_eq_true rfl⟩ (Nat.le_of_ble_eq_true rfl) ⟨Nat.le_of_eq (Nat.zero_add _), Nat.le_of_eq (Nat.zero_add _)⟩ hx (fun r σ1 hp => ?_)
  exact wll_fret dL_agreement_6 (Or.inl hp) (Nat.le_of_eq (Nat.zero_add _)) (Nat.le_of_eq (Nat.zero_add _))
theorem h_days0 (l : Launch) {σ : Sg} {post : Int32 → Sg → Prop} {LX : List (String × Prop)} {mc ms : Nat} (p0 : Int32) (hM : xMi l yX4_pass cX4_pass 2 .int 7 mc ms Lc [.ref 0, .int p0] σ post (pT σ LX)) (hL : ∀ E ∈ LX.map Prod.fst, E ∈ [eIA]) : lMi l yL_days cL_days 4 [(0, 17, 18, 19)] 8 mc ms [.ref 0, .int p0, .int 0] σ (fun v σ1 => post v σ1 ∨ (stb σ σ1 ∧ exq [(eIA, (-1001 : Int32))] LX v)) := by
  refine lMet_ofH (by decide +kernel) (Nat.le_of_ble_eq_true rfl) (fun D cT ad sz => ?_)
  have hx : ∀ E σ1, pT σ LX E σ1 → ∃ ps, zHd cL_days [(0, 17, 18, 19)] 14 4 E ps ∧ Wm (zTh [(0, 17, 18, 19)]) l (rmx 8 mc ms) RL cL_days 4 (some .int) D cT ad Lc (zA ad Lc.length sz) (zZl (fun D cT ad L sz => zQi D cT ad L sz (fun v σ1 => post v σ1 ∨ (stb σ σ1 ∧ exq [(eIA, (-1001 : Int32))] LX v))) mc ms D cT ad Lc sz) [] ps [] [] σ1 (0 + mc) (0 + ms) := by
    intro E σ1 hE
    have hm := hL E (thr_mem hE.2)
    simp only [List.mem_cons, List.not_mem_nil, or_false] at hm
    subst hm
    refine ⟨19, ⟨[], ⟨0, 17, 18, 19⟩, [], 3, rfl, (fun _ h => absurd h List.not_mem_nil), by decide, by decide, aw_16_1, List.mem_of_getElem? (i := 1) rfl, by decide, Or.inl ⟨3, rfl, dL_days_18, rfl⟩⟩, ?_⟩
    refine wm_sipush (v := (-1001)) 22 rfl dL_days_19 (by decide) ?_
    exact wll_iret dL_days_22 rfl (Or.inr ⟨hE.1, eIA, hE.2, List.mem_of_getElem? (i := 0) rfl⟩) (Nat.le_of_eq (Nat.zero_add _)) (Nat.le_of_eq (Nat.zero_add _))
  show Wm (zTh [(0, 17, 18, 19)]) l (rmx 8 mc ms) RL cL_days 4 (some .int) D cT ad Lc (zA ad Lc.length sz) (zZl (fun D cT ad L sz => zQi D cT ad L sz (fun v σ1 => post v σ1 ∨ (stb σ σ1 ∧ exq [(eIA, (-1001 : Int32))] LX v))) mc ms D cT ad Lc sz) [] 0 (lv_args 0 [.ref 0, .int p0, .int 0]) [] σ 0 0
  refine wm_iload_n 1 rfl dL_days_0 rfl rfl ?_
  refine wm_if_eq 12 4 rfl (by decide) dL_days_1 (fun _ => ?_) (fun c9 => absurd c9 (by decide))
  refine wm_aload_n 13 rfl dL_days_12 rfl rfl ?_
  refine wm_iload_n 14 rfl dL_days_13 rfl rfl ?_
  refine wlh_callVi 17 rfl dL_days_14 hM ca_X4_pass cv_X4_pass rfl aw_20_18 rfl rfl ⟨Nat.le_of_ble_eq_true rfl, Nat.le_of_ble_eq_true rfl⟩ (Nat.le_of_ble_eq_true rfl) ⟨Nat.le_of_eq (Nat.zero_add _), Nat.le_of_eq (Nat.zero_add _)⟩ hx (fun r σ1 hp => ?_)
  exact wll_iret dL_days_17 rfl (Or.inl hp) (Nat.le_of_eq (Nat.zero_add _)) (Nat.le_of_eq (Nat.zero_add _))
theorem h_days1 (l : Launch) {σ : Sg} {post : Int32 → Sg → Prop} {LX : List (String × Prop)} {mc ms : Nat} (p0 : Int32) (hM : xMi l yX4_setLimit cX4_setLimit 3 .int 7 mc ms Lc [.ref 0, .int p0] σ post (pT σ LX)) (hL : ∀ E ∈ LX.map Prod.fst, E ∈ [eIA]) : lMi l yL_days cL_days 4 [(0, 17, 18, 19)] 8 mc ms [.ref 0, .int p0, .int 1] σ (fun v σ1 => post v σ1 ∨ (stb σ σ1 ∧ exq [(eIA, (-1001 : Int32))] LX v)) := by
  refine lMet_ofH (by decide +kernel) (Nat.le_of_ble_eq_true rfl) (fun D cT ad sz => ?_)
  have hx : ∀ E σ1, pT σ LX E σ1 → ∃ ps, zHd cL_days [(0, 17, 18, 19)] 6 4 E ps ∧ Wm (zTh [(0, 17, 18, 19)]) l (rmx 8 mc ms) RL cL_days 4 (some .int) D cT ad Lc (zA ad Lc.length sz) (zZl (fun D cT ad L sz => zQi D cT ad L sz (fun v σ1 => post v σ1 ∨ (stb σ σ1 ∧ exq [(eIA, (-1001 : Int32))] LX v))) mc ms D cT ad Lc sz) [] ps [] [] σ1 (0 + mc) (0 + ms) := by
    intro E σ1 hE
    have hm := hL E (thr_mem hE.2)
    simp only [List.mem_cons, List.not_mem_nil, or_false] at hm
    subst hm
    refine ⟨19, ⟨[], ⟨0, 17, 18, 19⟩, [], 3, rfl, (fun _ h => absurd h List.not_mem_nil), by decide, by decide, aw_16_1, List.mem_of_getElem? (i := 1) rfl, by decide, Or.inl ⟨3, rfl, dL_days_18, rfl⟩⟩, ?_⟩
    refine wm_sipush (v := (-1001)) 22 rfl dL_days_19 (by decide) ?_
    exact wll_iret dL_days_22 rfl (Or.inr ⟨hE.1, eIA, hE.2, List.mem_of_getElem? (i := 0) rfl⟩) (Nat.le_of_eq (Nat.zero_add _)) (Nat.le_of_eq (Nat.zero_add _))
  show Wm (zTh [(0, 17, 18, 19)]) l (rmx 8 mc ms) RL cL_days 4 (some .int) D cT ad Lc (zA ad Lc.length sz) (zZl (fun D cT ad L sz => zQi D cT ad L sz (fun v σ1 => post v σ1 ∨ (stb σ σ1 ∧ exq [(eIA, (-1001 : Int32))] LX v))) mc ms D cT ad Lc sz) [] 0 (lv_args 0 [.ref 0, .int p0, .int 1]) [] σ 0 0
  refine wm_iload_n 1 rfl dL_days_0 rfl rfl ?_
  refine wm_if_eq 12 4 rfl (by decide) dL_days_1 (fun c9 => absurd c9 (by decide)) (fun _ => ?_)
  refine wm_aload_n 5 rfl dL_days_4 rfl rfl ?_
  refine wm_iload_n 6 rfl dL_days_5 rfl rfl ?_
  refine wlh_callVi 9 rfl dL_days_6 hM ca_X4_setLimit cv_X4_setLimit rfl aw_20_14 rfl rfl ⟨Nat.le_of_ble_eq_true rfl, Nat.le_of_ble_eq_true rfl⟩ (Nat.le_of_ble_eq_true rfl) ⟨Nat.le_of_eq (Nat.zero_add _), Nat.le_of_eq (Nat.zero_add _)⟩ hx (fun r σ1 hp => ?_)
  refine wm_goto 17 (by decide) dL_days_9 ?_
  exact wll_iret dL_days_17 rfl (Or.inl hp) (Nat.le_of_eq (Nat.zero_add _)) (Nat.le_of_eq (Nat.zero_add _))
