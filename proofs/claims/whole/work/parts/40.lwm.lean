theorem ca_X4_addSource : zCal yX4_addSource cX4_addSource 2 (some .int) 1 := ⟨aw_4_6, aw_1_2, by decide +kernel, by decide +kernel, by decide +kernel⟩
theorem cv_X4_addSource : zCaV RX4 yX4_addSource := ⟨aw_4_4, aw_4_5⟩
theorem ca_X4_setTrust : zCal yX4_setTrust cX4_setTrust 4 (some .int) 2 := ⟨aw_5_16, aw_1_2, by decide +kernel, by decide +kernel, by decide +kernel⟩
theorem cv_X4_setTrust : zCaV RX4 yX4_setTrust := ⟨aw_5_14, aw_5_15⟩
theorem ca_X4_addRecord : zCal yX4_addRecord cX4_addRecord 6 (some .int) 4 := ⟨aw_6_10, aw_1_2, by decide +kernel, by decide +kernel, by decide +kernel⟩
theorem cv_X4_addRecord : zCaV RX4 yX4_addRecord := ⟨aw_6_8, aw_6_9⟩
theorem ca_X4_setKey : zCal yX4_setKey cX4_setKey 5 (some .int) 3 := ⟨aw_7_15, aw_1_2, by decide +kernel, by decide +kernel, by decide +kernel⟩
theorem cv_X4_setKey : zCaV RX4 yX4_setKey := ⟨aw_7_13, aw_7_14⟩
theorem ca_X4_setFact : zCal yX4_setFact cX4_setFact 5 (some .int) 3 := ⟨aw_8_20, aw_1_2, by decide +kernel, by decide +kernel, by decide +kernel⟩
theorem cv_X4_setFact : zCaV RX4 yX4_setFact := ⟨aw_8_18, aw_8_19⟩
theorem ca_X4_see : zCal yX4_see cX4_see 3 (some .int) 1 := ⟨aw_9_11, aw_1_2, by decide +kernel, by decide +kernel, by decide +kernel⟩
theorem cv_X4_see : zCaV RX4 yX4_see := ⟨aw_9_9, aw_9_10⟩
theorem ca_X4_drop : zCal yX4_drop cX4_drop 2 (some .int) 1 := ⟨aw_10_3, aw_1_2, by decide +kernel, by decide +kernel, by decide +kernel⟩
theorem cv_X4_drop : zCaV RX4 yX4_drop := ⟨aw_10_1, aw_10_2⟩
theorem ca_X4_forbid : zCal yX4_forbid cX4_forbid 3 (some .int) 2 := ⟨aw_11_9, aw_1_2, by decide +kernel, by decide +kernel, by decide +kernel⟩
theorem cv_X4_forbid : zCaV RX4 yX4_forbid := ⟨aw_11_7, aw_11_8⟩
theorem ca_X4_allow : zCal yX4_allow cX4_allow 3 (some .int) 2 := ⟨aw_12_23, aw_1_2, by decide +kernel, by decide +kernel, by decide +kernel⟩
theorem cv_X4_allow : zCaV RX4 yX4_allow := ⟨aw_12_21, aw_12_22⟩
theorem ca_X4_key : zCal yX4_key cX4_key 3 (some .int) 2 := ⟨aw_14_8, aw_1_2, by decide +kernel, by decide +kernel, by decide +kernel⟩
theorem cv_X4_key : zCaV RX4 yX4_key := ⟨aw_14_6, aw_14_7⟩
theorem ca_X4_seen : zCal yX4_seen cX4_seen 2 (some .int) 1 := ⟨aw_14_19, aw_1_2, by decide +kernel, by decide +kernel, by decide +kernel⟩
theorem cv_X4_seen : zCaV RX4 yX4_seen := ⟨aw_14_17, aw_14_18⟩
theorem ca_X4_thing : zCal yX4_thing cX4_thing 2 (some .int) 1 := ⟨aw_15_6, aw_1_2, by decide +kernel, by decide +kernel, by decide +kernel⟩
theorem cv_X4_thing : zCaV RX4 yX4_thing := ⟨aw_15_4, aw_15_5⟩
theorem ca_X4_thingByRounds : zCal yX4_thingByRounds cX4_thingByRounds 2 (some .int) 1 := ⟨aw_20_5, aw_1_2, by decide +kernel, by decide +kernel, by decide +kernel⟩
theorem cv_X4_thingByRounds : zCaV RX4 yX4_thingByRounds := ⟨aw_20_3, aw_20_4⟩
theorem ca_X4_size : zCal yX4_size cX4_size 2 (some .int) 1 := ⟨aw_21_22, aw_1_2, by decide +kernel, by decide +kernel, by decide +kernel⟩
theorem cv_X4_size : zCaV RX4 yX4_size := ⟨aw_21_20, aw_21_21⟩
theorem ca_X4_member : zCal yX4_member cX4_member 4 (some .int) 2 := ⟨aw_22_17, aw_1_2, by decide +kernel, by decide +kernel, by decide +kernel⟩
theorem cv_X4_member : zCaV RX4 yX4_member := ⟨aw_22_15, aw_22_16⟩
theorem ca_X4_areTogether : zCal yX4_areTogether cX4_areTogether 3 (some .boolean) 2 := ⟨aw_23_8, aw_1_2, by decide +kernel, by decide +kernel, by decide +kernel⟩
theorem cv_X4_areTogether : zCaV RX4 yX4_areTogether := ⟨aw_23_6, aw_23_7⟩
theorem ca_X4_step : zCal yX4_step cX4_step 4 (some .int) 2 := ⟨aw_23_19, aw_1_2, by decide +kernel, by decide +kernel, by decide +kernel⟩
theorem cv_X4_step : zCaV RX4 yX4_step := ⟨aw_23_17, aw_23_18⟩
theorem ca_X4_shared : zCal yX4_shared cX4_shared 4 (some .int) 1 := ⟨aw_24_10, aw_1_2, by decide +kernel, by decide +kernel, by decide +kernel⟩
theorem cv_X4_shared : zCaV RX4 yX4_shared := ⟨aw_24_8, aw_24_9⟩
theorem ca_X4_thingsWithout : zCal yX4_thingsWithout cX4_thingsWithout 3 (some .int) 1 := ⟨aw_25_11, aw_1_2, by decide +kernel, by decide +kernel, by decide +kernel⟩
theorem cv_X4_thingsWithout : zCaV RX4 yX4_thingsWithout := ⟨aw_25_9, aw_25_10⟩
theorem ca_X4_thingsIf : zCal yX4_thingsIf cX4_thingsIf 6 (some .int) 3 := ⟨aw_25_23, aw_1_2, by decide +kernel, by decide +kernel, by decide +kernel⟩
theorem cv_X4_thingsIf : zCaV RX4 yX4_thingsIf := ⟨aw_25_21, aw_25_22⟩
theorem ca_X4_thingsIfAllowed : zCal yX4_thingsIfAllowed cX4_thingsIfAllowed 4 (some .int) 2 := ⟨aw_26_11, aw_1_2, by decide +kernel, by decide +kernel, by decide +kernel⟩
theorem cv_X4_thingsIfAllowed : zCaV RX4 yX4_thingsIfAllowed := ⟨aw_26_9, aw_26_10⟩
theorem ca_X4_weight : zCal yX4_weight cX4_weight 2 (some .int) 1 := ⟨aw_26_22, aw_1_2, by decide +kernel, by decide +kernel, by decide +kernel⟩
theorem cv_X4_weight : zCaV RX4 yX4_weight := ⟨aw_26_20, aw_26_21⟩
theorem ca_X4_fact : zCal yX4_fact cX4_fact 4 (some .int) 2 := ⟨aw_27_17, aw_1_2, by decide +kernel, by decide +kernel, by decide +kernel⟩
theorem cv_X4_fact : zCaV RX4 yX4_fact := ⟨aw_27_15, aw_27_16⟩
theorem ca_X4_factByPairs : zCal yX4_factByPairs cX4_factByPairs 4 (some .int) 2 := ⟨aw_29_4, aw_1_2, by decide +kernel, by decide +kernel, by decide +kernel⟩
theorem cv_X4_factByPairs : zCaV RX4 yX4_factByPairs := ⟨aw_29_2, aw_29_3⟩
theorem ca_X4_factFrom : zCal yX4_factFrom cX4_factFrom 4 (some .int) 2 := ⟨aw_30_4, aw_1_2, by decide +kernel, by decide +kernel, by decide +kernel⟩
theorem cv_X4_factFrom : zCaV RX4 yX4_factFrom := ⟨aw_30_2, aw_30_3⟩
theorem ca_X4_agreement : zCal yX4_agreement cX4_agreement 8 (some .float) 2 := ⟨aw_30_15, aw_1_2, by decide +kernel, by decide +kernel, by decide +kernel⟩
theorem cv_X4_agreement : zCaV RX4 yX4_agreement := ⟨aw_30_13, aw_30_14⟩
theorem ca_X4_setLimit : zCal yX4_setLimit cX4_setLimit 3 (some .int) 1 := ⟨aw_31_2, aw_1_2, by decide +kernel, by decide +kernel, by decide +kernel⟩
theorem cv_X4_setLimit : zCaV RX4 yX4_setLimit := ⟨aw_31_0, aw_31_1⟩
theorem ca_X4_isGhost : zCal yX4_isGhost cX4_isGhost 2 (some .boolean) 1 := ⟨aw_31_13, aw_1_2, by decide +kernel, by decide +kernel, by decide +kernel⟩
theorem cv_X4_isGhost : zCaV RX4 yX4_isGhost := ⟨aw_31_11, aw_31_12⟩
theorem ca_X4_pass : zCal yX4_pass cX4_pass 2 (some .int) 1 := ⟨aw_33_20, aw_1_2, by decide +kernel, by decide +kernel, by decide +kernel⟩
theorem cv_X4_pass : zCaV RX4 yX4_pass := ⟨aw_33_18, aw_33_19⟩
/-! THE LAW'S METHODS, each over what the class's call does -/
theorem vin01 : vp_in (0 : Int32) 1 := by unfold vp_in; decide
theorem w_addSource (l : Launch) {σ : Sg} {post : Int32 → Sg → Prop} {LX : List (String × Prop)} {mc ms : Nat} (p0 : Int32) (hM : xMi l yX4_addSource cX4_addSource 2 .int 7 mc ms Lc [.ref 0, .int p0] σ post (pT σ LX)) (hL : ∀ E ∈ LX.map Prod.fst, E ∈ [eIA, eIS]) (o : Nat → Int64) : zMw l yL_addSource cL_addSource 4 [(0, 9, 12, 13), (0, 9, 15, 15)] 8 mc ms oL [.ref 0, .int p0, .ref 27] σ o (wpost [eIA, eIS] fI post (pT σ LX)) := by
  have hx : ∀ E σ1, pT σ LX E σ1 → ∃ v, zHd cL_addSource [(0, 9, 12, 13), (0, 9, 15, 15)] 4 4 E v ∧ wpost [eIA, eIS] fI post (pT σ LX) v (σ1, o) := by
    intro E σ1 hE
    refine ⟨cdL [eIA, eIS] E, ?_, wpost_thr 0 (by decide) hE⟩
    have hm := hL E (thr_mem hE.2)
    simp only [List.mem_cons, List.not_mem_nil, or_false] at hm
    rcases hm with rfl | rfl
    · exact ⟨[], ⟨0, 9, 12, 13⟩, [⟨0, 9, 15, 15⟩], 3, 13, 1, rfl, (fun _ h => absurd h List.not_mem_nil), by decide, by decide, aw_4_1, List.mem_of_getElem? (i := 1) rfl, by decide, Or.inl ⟨3, rfl, dL_addSource_12, rfl⟩, dL_addSource_13, by decide +kernel, dL_addSource_14⟩
    · exact ⟨[⟨0, 9, 12, 13⟩], ⟨0, 9, 15, 15⟩, [], 3, 16, 2, rfl, (by
        intro y hy
        simp only [List.mem_cons, List.not_mem_nil, or_false] at hy
        subst hy
        exact ⟨by decide, eIA, aw_4_1, List.mem_of_getElem? (i := 2) rfl⟩), by decide, by decide, aw_4_2, List.mem_of_getElem? (i := 2) rfl, by decide, Or.inl ⟨3, rfl, dL_addSource_15, rfl⟩, dL_addSource_16, by decide +kernel, dL_addSource_17⟩
  refine zMw_of (by decide +kernel) (Nat.le_of_ble_eq_true rfl) (fun D cT ad sz => ?_)
  show Wm (zTh [(0, 9, 12, 13), (0, 9, 15, 15)]) l (rmx 8 mc ms) RL cL_addSource 4 (some .int) D cT ad Lc (zA ad 28 sz) (zZw oL (wpost [eIA, eIS] fI post (pT σ LX)) mc ms D cT ad sz) [(ad 27, oL cT o)] 0 (lv_args 0 [.ref 0, .int p0, .ref 27]) [] σ 0 0
  refine wm_aload_n 1 rfl dL_addSource_0 rfl rfl ?_
  refine wm_iconst (v := 0) 2 rfl dL_addSource_1 (by decide) ?_
  refine wm_aload_n 3 rfl dL_addSource_2 rfl rfl ?_
  refine wm_iload_n 4 rfl dL_addSource_3 rfl rfl ?_
  refine wmw_callVi 7 rfl dL_addSource_4 hM ca_X4_addSource cv_X4_addSource rfl aw_4_3 rfl rfl ⟨Nat.le_of_ble_eq_true rfl, Nat.le_of_ble_eq_true rfl⟩ (Nat.le_of_ble_eq_true rfl) ⟨Nat.le_of_eq (Nat.zero_add _), Nat.le_of_eq (Nat.zero_add _)⟩ ⟨Nat.le_of_eq (Nat.zero_add _), Nat.le_of_eq (Nat.zero_add _)⟩ hx (fun r σ1 hp => ?_)
  refine wm_i2l 8 rfl dL_addSource_7 ?_
  refine wmw_last 9 rfl dL_addSource_8 vin01 ?_
  refine wm_goto 18 (by decide) dL_addSource_9 ?_
  refine wm_iconst (v := 0) 19 rfl dL_addSource_18 (by decide) ?_
  exact wmw_iret dL_addSource_19 (wpost_ok hp rfl) (Nat.le_of_eq (Nat.zero_add _)) (Nat.le_of_eq (Nat.zero_add _))
theorem w_setTrust (l : Launch) {σ : Sg} {post : Int32 → Sg → Prop} {LX : List (String × Prop)} {mc ms : Nat} (p0 p1 : Int32) (hM : xMi l yX4_setTrust cX4_setTrust 4 .int 7 mc ms Lc [.ref 0, .int p0, .int p1] σ post (pT σ LX)) (hL : ∀ E ∈ LX.map Prod.fst, E ∈ [eIO, eIA]) (o : Nat → Int64) : zMw l yL_setTrust cL_setTrust 5 [(0, 10, 13, 21), (0, 10, 17, 13)] 8 mc ms oL [.ref 0, .int p0, .int p1, .ref 27] σ o (wpost [eIO, eIA] fI post (pT σ LX)) := by
  have hx : ∀ E σ1, pT σ LX E σ1 → ∃ v, zHd cL_setTrust [(0, 10, 13, 21), (0, 10, 17, 13)] 5 5 E v ∧ wpost [eIO, eIA] fI post (pT σ LX) v (σ1, o) := by
    intro E σ1 hE
    refine ⟨cdL [eIO, eIA] E, ?_, wpost_thr 0 (by decide) hE⟩
    have hm := hL E (thr_mem hE.2)
    simp only [List.mem_cons, List.not_mem_nil, or_false] at hm
    rcases hm with rfl | rfl
    · exact ⟨[], ⟨0, 10, 13, 21⟩, [⟨0, 10, 17, 13⟩], 4, 15, 1, rfl, (fun _ h => absurd h List.not_mem_nil), by decide, by decide, aw_5_12, List.mem_of_getElem? (i := 3) rfl, by decide, Or.inr ⟨dL_setTrust_13, rfl⟩, dL_setTrust_15, by decide +kernel, dL_setTrust_16⟩
    · exact ⟨[⟨0, 10, 13, 21⟩], ⟨0, 10, 17, 13⟩, [], 4, 19, 2, rfl, (by
        intro y hy
        simp only [List.mem_cons, List.not_mem_nil, or_false] at hy
        subst hy
        exact ⟨by decide, eIO, aw_5_12, List.mem_of_getElem? (i := 0) rfl⟩), by decide, by decide, aw_4_1, List.mem_of_getElem? (i := 1) rfl, by decide, Or.inr ⟨dL_setTrust_17, rfl⟩, dL_setTrust_19, by decide +kernel, dL_setTrust_20⟩
  refine zMw_of (by decide +kernel) (Nat.le_of_ble_eq_true rfl) (fun D cT ad sz => ?_)
  show Wm (zTh [(0, 10, 13, 21), (0, 10, 17, 13)]) l (rmx 8 mc ms) RL cL_setTrust 5 (some .int) D cT ad Lc (zA ad 28 sz) (zZw oL (wpost [eIO, eIA] fI post (pT σ LX)) mc ms D cT ad sz) [(ad 27, oL cT o)] 0 (lv_args 0 [.ref 0, .int p0, .int p1, .ref 27]) [] σ 0 0
  refine wm_aload_n 1 rfl dL_setTrust_0 rfl rfl ?_
  refine wm_iconst (v := 0) 2 rfl dL_setTrust_1 (by decide) ?_
  refine wm_aload_n 3 rfl dL_setTrust_2 rfl rfl ?_
  refine wm_iload_n 4 rfl dL_setTrust_3 rfl rfl ?_
  refine wm_iload_n 5 rfl dL_setTrust_4 rfl rfl ?_
  refine wmw_callVi 8 rfl dL_setTrust_5 hM ca_X4_setTrust cv_X4_setTrust rfl aw_5_13 rfl rfl ⟨Nat.le_of_ble_eq_true rfl, Nat.le_of_ble_eq_true rfl⟩ (Nat.le_of_ble_eq_true rfl) ⟨Nat.le_of_eq (Nat.zero_add _), Nat.le_of_eq (Nat.zero_add _)⟩ ⟨Nat.le_of_eq (Nat.zero_add _), Nat.le_of_eq (Nat.zero_add _)⟩ hx (fun r σ1 hp => ?_)
  refine wm_i2l 9 rfl dL_setTrust_8 ?_
  refine wmw_last 10 rfl dL_setTrust_9 vin01 ?_
  refine wm_goto 21 (by decide) dL_setTrust_10 ?_
  refine wm_iconst (v := 0) 22 rfl dL_setTrust_21 (by decide) ?_
  exact wmw_iret dL_setTrust_22 (wpost_ok hp rfl) (Nat.le_of_eq (Nat.zero_add _)) (Nat.le_of_eq (Nat.zero_add _))
theorem w_addRecord (l : Launch) {σ : Sg} {post : Int32 → Sg → Prop} {LX : List (String × Prop)} {mc ms : Nat} (p0 p1 p2 p3 : Int32) (hM : xMi l yX4_addRecord cX4_addRecord 6 .int 7 mc ms Lc [.ref 0, .int p0, .int p1, .int p2, .int p3] σ post (pT σ LX)) (hL : ∀ E ∈ LX.map Prod.fst, E ∈ [eIO, eIA, eIS]) (o : Nat → Int64) : zMw l yL_addRecord cL_addRecord 7 [(0, 14, 17, 21), (0, 14, 21, 13), (0, 14, 25, 15)] 8 mc ms oL [.ref 0, .int p0, .int p1, .int p2, .int p3, .ref 27] σ o (wpost [eIO, eIA, eIS] fI post (pT σ LX)) := by
  have hx : ∀ E σ1, pT σ LX E σ1 → ∃ v, zHd cL_addRecord [(0, 14, 17, 21), (0, 14, 21, 13), (0, 14, 25, 15)] 9 7 E v ∧ wpost [eIO, eIA, eIS] fI post (pT σ LX) v (σ1, o) := by
    intro E σ1 hE
    refine ⟨cdL [eIO, eIA, eIS] E, ?_, wpost_thr 0 (by decide) hE⟩
    have hm := hL E (thr_mem hE.2)
    simp only [List.mem_cons, List.not_mem_nil, or_false] at hm
    rcases hm with rfl | rfl | rfl
    · exact ⟨[], ⟨0, 14, 17, 21⟩, [⟨0, 14, 21, 13⟩, ⟨0, 14, 25, 15⟩], 6, 19, 1, rfl, (fun _ h => absurd h List.not_mem_nil), by decide, by decide, aw_5_12, List.mem_of_getElem? (i := 3) rfl, by decide, Or.inr ⟨dL_addRecord_17, rfl⟩, dL_addRecord_19, by decide +kernel, dL_addRecord_20⟩
    · exact ⟨[⟨0, 14, 17, 21⟩], ⟨0, 14, 21, 13⟩, [⟨0, 14, 25, 15⟩], 6, 23, 2, rfl, (by
        intro y hy
        simp only [List.mem_cons, List.not_mem_nil, or_false] at hy
        subst hy
        exact ⟨by decide, eIO, aw_5_12, List.mem_of_getElem? (i := 0) rfl⟩), by decide, by decide, aw_4_1, List.mem_of_getElem? (i := 1) rfl, by decide, Or.inr ⟨dL_addRecord_21, rfl⟩, dL_addRecord_23, by decide +kernel, dL_addRecord_24⟩
    · exact ⟨[⟨0, 14, 17, 21⟩, ⟨0, 14, 21, 13⟩], ⟨0, 14, 25, 15⟩, [], 6, 27, 3, rfl, (by
        intro y hy
        simp only [List.mem_cons, List.not_mem_nil, or_false] at hy
        rcases hy with rfl | rfl
        · exact ⟨by decide, eIO, aw_5_12, List.mem_of_getElem? (i := 1) rfl⟩
        · exact ⟨by decide, eIA, aw_4_1, List.mem_of_getElem? (i := 2) rfl⟩), by decide, by decide, aw_4_2, List.mem_of_getElem? (i := 2) rfl, by decide, Or.inr ⟨dL_addRecord_25, rfl⟩, dL_addRecord_27, by decide +kernel, dL_addRecord_28⟩
  refine zMw_of (by decide +kernel) (Nat.le_of_ble_eq_true rfl) (fun D cT ad sz => ?_)
  show Wm (zTh [(0, 14, 17, 21), (0, 14, 21, 13), (0, 14, 25, 15)]) l (rmx 8 mc ms) RL cL_addRecord 7 (some .int) D cT ad Lc (zA ad 28 sz) (zZw oL (wpost [eIO, eIA, eIS] fI post (pT σ LX)) mc ms D cT ad sz) [(ad 27, oL cT o)] 0 (lv_args 0 [.ref 0, .int p0, .int p1, .int p2, .int p3, .ref 27]) [] σ 0 0
  refine wm_aload 2 rfl dL_addRecord_0 rfl ?_
  refine wm_iconst (v := 0) 3 rfl dL_addRecord_2 (by decide) ?_
  refine wm_aload_n 4 rfl dL_addRecord_3 rfl rfl ?_
  refine wm_iload_n 5 rfl dL_addRecord_4 rfl rfl ?_
  refine wm_iload_n 6 rfl dL_addRecord_5 rfl rfl ?_
  refine wm_iload_n 7 rfl dL_addRecord_6 rfl rfl ?_
  refine wm_iload 9 rfl dL_addRecord_7 rfl ?_
  refine wmw_callVi 12 rfl dL_addRecord_9 hM ca_X4_addRecord cv_X4_addRecord rfl aw_6_7 rfl rfl ⟨Nat.le_of_ble_eq_true rfl, Nat.le_of_ble_eq_true rfl⟩ (Nat.le_of_ble_eq_true rfl) ⟨Nat.le_of_eq (Nat.zero_add _), Nat.le_of_eq (Nat.zero_add _)⟩ ⟨Nat.le_of_eq (Nat.zero_add _), Nat.le_of_eq (Nat.zero_add _)⟩ hx (fun r σ1 hp => ?_)
  refine wm_i2l 13 rfl dL_addRecord_12 ?_
  refine wmw_last 14 rfl dL_addRecord_13 vin01 ?_
  refine wm_goto 29 (by decide) dL_addRecord_14 ?_
  refine wm_iconst (v := 0) 30 rfl dL_addRecord_29 (by decide) ?_
  exact wmw_iret dL_addRecord_30 (wpost_ok hp rfl) (Nat.le_of_eq (Nat.zero_add _)) (Nat.le_of_eq (Nat.zero_add _))
theorem w_setKey (l : Launch) {σ : Sg} {post : Int32 → Sg → Prop} {LX : List (String × Prop)} {mc ms : Nat} (p0 p1 p2 : Int32) (hM : xMi l yX4_setKey cX4_setKey 5 .int 7 mc ms Lc [.ref 0, .int p0, .int p1, .int p2] σ post (pT σ LX)) (hL : ∀ E ∈ LX.map Prod.fst, E ∈ [eIO, eIA]) (o : Nat → Int64) : zMw l yL_setKey cL_setKey 6 [(0, 12, 15, 21), (0, 12, 19, 13)] 8 mc ms oL [.ref 0, .int p0, .int p1, .int p2, .ref 27] σ o (wpost [eIO, eIA] fI post (pT σ LX)) := by
  have hx : ∀ E σ1, pT σ LX E σ1 → ∃ v, zHd cL_setKey [(0, 12, 15, 21), (0, 12, 19, 13)] 7 6 E v ∧ wpost [eIO, eIA] fI post (pT σ LX) v (σ1, o) := by
    intro E σ1 hE
    refine ⟨cdL [eIO, eIA] E, ?_, wpost_thr 0 (by decide) hE⟩
    have hm := hL E (thr_mem hE.2)
    simp only [List.mem_cons, List.not_mem_nil, or_false] at hm
    rcases hm with rfl | rfl
    · exact ⟨[], ⟨0, 12, 15, 21⟩, [⟨0, 12, 19, 13⟩], 5, 17, 1, rfl, (fun _ h => absurd h List.not_mem_nil), by decide, by decide, aw_5_12, List.mem_of_getElem? (i := 3) rfl, by decide, Or.inr ⟨dL_setKey_15, rfl⟩, dL_setKey_17, by decide +kernel, dL_setKey_18⟩
    · exact ⟨[⟨0, 12, 15, 21⟩], ⟨0, 12, 19, 13⟩, [], 5, 21, 2, rfl, (by
        intro y hy
        simp only [List.mem_cons, List.not_mem_nil, or_false] at hy
        subst hy
        exact ⟨by decide, eIO, aw_5_12, List.mem_of_getElem? (i := 0) rfl⟩), by decide, by decide, aw_4_1, List.mem_of_getElem? (i := 1) rfl, by decide, Or.inr ⟨dL_setKey_19, rfl⟩, dL_setKey_21, by decide +kernel, dL_setKey_22⟩
  refine zMw_of (by decide +kernel) (Nat.le_of_ble_eq_true rfl) (fun D cT ad sz => ?_)
  show Wm (zTh [(0, 12, 15, 21), (0, 12, 19, 13)]) l (rmx 8 mc ms) RL cL_setKey 6 (some .int) D cT ad Lc (zA ad 28 sz) (zZw oL (wpost [eIO, eIA] fI post (pT σ LX)) mc ms D cT ad sz) [(ad 27, oL cT o)] 0 (lv_args 0 [.ref 0, .int p0, .int p1, .int p2, .ref 27]) [] σ 0 0
  refine wm_aload 2 rfl dL_setKey_0 rfl ?_
  refine wm_iconst (v := 0) 3 rfl dL_setKey_2 (by decide) ?_
  refine wm_aload_n 4 rfl dL_setKey_3 rfl rfl ?_
  refine wm_iload_n 5 rfl dL_setKey_4 rfl rfl ?_
  refine wm_iload_n 6 rfl dL_setKey_5 rfl rfl ?_
  refine wm_iload_n 7 rfl dL_setKey_6 rfl rfl ?_
  refine wmw_callVi 10 rfl dL_setKey_7 hM ca_X4_setKey cv_X4_setKey rfl aw_7_12 rfl rfl ⟨Nat.le_of_ble_eq_true rfl, Nat.le_of_ble_eq_true rfl⟩ (Nat.le_of_ble_eq_true rfl) ⟨Nat.le_of_eq (Nat.zero_add _), Nat.le_of_eq (Nat.zero_add _)⟩ ⟨Nat.le_of_eq (Nat.zero_add _), Nat.le_of_eq (Nat.zero_add _)⟩ hx (fun r σ1 hp => ?_)
  refine wm_i2l 11 rfl dL_setKey_10 ?_
  refine wmw_last 12 rfl dL_setKey_11 vin01 ?_
  refine wm_goto 23 (by decide) dL_setKey_12 ?_
  refine wm_iconst (v := 0) 24 rfl dL_setKey_23 (by decide) ?_
  exact wmw_iret dL_setKey_24 (wpost_ok hp rfl) (Nat.le_of_eq (Nat.zero_add _)) (Nat.le_of_eq (Nat.zero_add _))
theorem w_setFact (l : Launch) {σ : Sg} {post : Int32 → Sg → Prop} {LX : List (String × Prop)} {mc ms : Nat} (p0 p1 p2 : Int32) (hM : xMi l yX4_setFact cX4_setFact 5 .int 7 mc ms Lc [.ref 0, .int p0, .int p1, .int p2] σ post (pT σ LX)) (hL : ∀ E ∈ LX.map Prod.fst, E ∈ [eIO, eIA]) (o : Nat → Int64) : zMw l yL_setFact cL_setFact 6 [(0, 12, 15, 21), (0, 12, 19, 13)] 8 mc ms oL [.ref 0, .int p0, .int p1, .int p2, .ref 27] σ o (wpost [eIO, eIA] fI post (pT σ LX)) := by
  have hx : ∀ E σ1, pT σ LX E σ1 → ∃ v, zHd cL_setFact [(0, 12, 15, 21), (0, 12, 19, 13)] 7 6 E v ∧ wpost [eIO, eIA] fI post (pT σ LX) v (σ1, o) := by
    intro E σ1 hE
    refine ⟨cdL [eIO, eIA] E, ?_, wpost_thr 0 (by decide) hE⟩
    have hm := hL E (thr_mem hE.2)
    simp only [List.mem_cons, List.not_mem_nil, or_false] at hm
    rcases hm with rfl | rfl
    · exact ⟨[], ⟨0, 12, 15, 21⟩, [⟨0, 12, 19, 13⟩], 5, 17, 1, rfl, (fun _ h => absurd h List.not_mem_nil), by decide, by decide, aw_5_12, List.mem_of_getElem? (i := 3) rfl, by decide, Or.inr ⟨dL_setFact_15, rfl⟩, dL_setFact_17, by decide +kernel, dL_setFact_18⟩
    · exact ⟨[⟨0, 12, 15, 21⟩], ⟨0, 12, 19, 13⟩, [], 5, 21, 2, rfl, (by
        intro y hy
        simp only [List.mem_cons, List.not_mem_nil, or_false] at hy
        subst hy
        exact ⟨by decide, eIO, aw_5_12, List.mem_of_getElem? (i := 0) rfl⟩), by decide, by decide, aw_4_1, List.mem_of_getElem? (i := 1) rfl, by decide, Or.inr ⟨dL_setFact_19, rfl⟩, dL_setFact_21, by decide +kernel, dL_setFact_22⟩
  refine zMw_of (by decide +kernel) (Nat.le_of_ble_eq_true rfl) (fun D cT ad sz => ?_)
  show Wm (zTh [(0, 12, 15, 21), (0, 12, 19, 13)]) l (rmx 8 mc ms) RL cL_setFact 6 (some .int) D cT ad Lc (zA ad 28 sz) (zZw oL (wpost [eIO, eIA] fI post (pT σ LX)) mc ms D cT ad sz) [(ad 27, oL cT o)] 0 (lv_args 0 [.ref 0, .int p0, .int p1, .int p2, .ref 27]) [] σ 0 0
  refine wm_aload 2 rfl dL_setFact_0 rfl ?_
  refine wm_iconst (v := 0) 3 rfl dL_setFact_2 (by decide) ?_
  refine wm_aload_n 4 rfl dL_setFact_3 rfl rfl ?_
  refine wm_iload_n 5 rfl dL_setFact_4 rfl rfl ?_
  refine wm_iload_n 6 rfl dL_setFact_5 rfl rfl ?_
  refine wm_iload_n 7 rfl dL_setFact_6 rfl rfl ?_
  refine wmw_callVi 10 rfl dL_setFact_7 hM ca_X4_setFact cv_X4_setFact rfl aw_8_17 rfl rfl ⟨Nat.le_of_ble_eq_true rfl, Nat.le_of_ble_eq_true rfl⟩ (Nat.le_of_ble_eq_true rfl) ⟨Nat.le_of_eq (Nat.zero_add _), Nat.le_of_eq (Nat.zero_add _)⟩ ⟨Nat.le_of_eq (Nat.zero_add _), Nat.le_of_eq (Nat.zero_add _)⟩ hx (fun r σ1 hp => ?_)
  refine wm_i2l 11 rfl dL_setFact_10 ?_
  refine wmw_last 12 rfl dL_setFact_11 vin01 ?_
  refine wm_goto 23 (by decide) dL_setFact_12 ?_
  refine wm_iconst (v := 0) 24 rfl dL_setFact_23 (by decide) ?_
  exact wmw_iret dL_setFact_24 (wpost_ok hp rfl) (Nat.le_of_eq (Nat.zero_add _)) (Nat.le_of_eq (Nat.zero_add _))
theorem w_see (l : Launch) {σ : Sg} {post : Int32 → Sg → Prop} {LX : List (String × Prop)} {mc ms : Nat} (p0 : Int32) (hM : xMi l yX4_see cX4_see 3 .int 7 mc ms Lc [.ref 0, .int p0] σ post (pT σ LX)) (hL : ∀ E ∈ LX.map Prod.fst, E ∈ [eIO]) (o : Nat → Int64) : zMw l yL_see cL_see 4 [(0, 9, 12, 21)] 8 mc ms oL [.ref 0, .int p0, .ref 27] σ o (wpost [eIO] fI post (pT σ LX)) := by
  have hx : ∀ E σ1, pT σ LX E σ1 → ∃ v, zHd cL_see [(0, 9, 12, 21)] 4 4 E v ∧ wpost [eIO] fI post (pT σ LX) v (σ1, o) := by
    intro E σ1 hE
    refine ⟨cdL [eIO] E, ?_, wpost_thr 0 (by decide) hE⟩
    have hm := hL E (thr_mem hE.2)
    simp only [List.mem_cons, List.not_mem_nil, or_false] at hm
    subst hm
    exact ⟨[], ⟨0, 9, 12, 21⟩, [], 3, 13, 1, rfl, (fun _ h => absurd h List.not_mem_nil), by decide, by decide, aw_5_12, List.mem_of_getElem? (i := 3) rfl, by decide, Or.inl ⟨3, rfl, dL_see_12, rfl⟩, dL_see_13, by decide +kernel, dL_see_14⟩
  refine zMw_of (by decide +kernel) (Nat.le_of_ble_eq_true rfl) (fun D cT ad sz => ?_)
  show Wm (zTh [(0, 9, 12, 21)]) l (rmx 8 mc ms) RL cL_see 4 (some .int) D cT ad Lc (zA ad 28 sz) (zZw oL (wpost [eIO] fI post (pT σ LX)) mc ms D cT ad sz) [(ad 27, oL cT o)] 0 (lv_args 0 [.ref 0, .int p0, .ref 27]) [] σ 0 0
  refine wm_aload_n 1 rfl dL_see_0 rfl rfl ?_
  refine wm_iconst (v := 0) 2 rfl dL_see_1 (by decide) ?_
  refine wm_aload_n 3 rfl dL_see_2 rfl rfl ?_
  refine wm_iload_n 4 rfl dL_see_3 rfl rfl ?_
  refine wmw_callVi 7 rfl dL_see_4 hM ca_X4_see cv_X4_see rfl aw_9_8 rfl rfl ⟨Nat.le_of_ble_eq_true rfl, Nat.le_of_ble_eq_true rfl⟩ (Nat.le_of_ble_eq_true rfl) ⟨Nat.le_of_eq (Nat.zero_add _), Nat.le_of_eq (Nat.zero_add _)⟩ ⟨Nat.le_of_eq (Nat.zero_add _), Nat.le_of_eq (Nat.zero_add _)⟩ hx (fun r σ1 hp => ?_)
  refine wm_i2l 8 rfl dL_see_7 ?_
  refine wmw_last 9 rfl dL_see_8 vin01 ?_
  refine wm_goto 15 (by decide) dL_see_9 ?_
  refine wm_iconst (v := 0) 16 rfl dL_see_15 (by decide) ?_
  exact wmw_iret dL_see_16 (wpost_ok hp rfl) (Nat.le_of_eq (Nat.zero_add _)) (Nat.le_of_eq (Nat.zero_add _))
theorem w_drop (l : Launch) {σ : Sg} {post : Int32 → Sg → Prop} {LX : List (String × Prop)} {mc ms : Nat} (p0 : Int32) (hM : xMi l yX4_drop cX4_drop 2 .int 7 mc ms Lc [.ref 0, .int p0] σ post (pT σ LX)) (hL : ∀ E ∈ LX.map Prod.fst, E ∈ [eIO]) (o : Nat → Int64) : zMw l yL_drop cL_drop 4 [(0, 9, 12, 21)] 8 mc ms oL [.ref 0, .int p0, .ref 27] σ o (wpost [eIO] fI post (pT σ LX)) := by
  have hx : ∀ E σ1, pT σ LX E σ1 → ∃ v, zHd cL_drop [(0, 9, 12, 21)] 4 4 E v ∧ wpost [eIO] fI post (pT σ LX) v (σ1, o) := by
    intro E σ1 hE
    refine ⟨cdL [eIO] E, ?_, wpost_thr 0 (by decide) hE⟩
    have hm := hL E (thr_mem hE.2)
    simp only [List.mem_cons, List.not_mem_nil, or_false] at hm
    subst hm
    exact ⟨[], ⟨0, 9, 12, 21⟩, [], 3, 13, 1, rfl, (fun _ h => absurd h List.not_mem_nil), by decide, by decide, aw_5_12, List.mem_of_getElem? (i := 3) rfl, by decide, Or.inl ⟨3, rfl, dL_drop_12, rfl⟩, dL_drop_13, by decide +kernel, dL_drop_14⟩
  refine zMw_of (by decide +kernel) (Nat.le_of_ble_eq_true rfl) (fun D cT ad sz => ?_)
  show Wm (zTh [(0, 9, 12, 21)]) l (rmx 8 mc ms) RL cL_drop 4 (some .int) D cT ad Lc (zA ad 28 sz) (zZw oL (wpost [eIO] fI post (pT σ LX)) mc ms D cT ad sz) [(ad 27, oL cT o)] 0 (lv_args 0 [.ref 0, .int p0, .ref 27]) [] σ 0 0
  refine wm_aload_n 1 rfl dL_drop_0 rfl rfl ?_
  refine wm_iconst (v := 0) 2 rfl dL_drop_1 (by decide) ?_
  refine wm_aload_n 3 rfl dL_drop_2 rfl rfl ?_
  refine wm_iload_n 4 rfl dL_drop_3 rfl rfl ?_
  refine wmw_callVi 7 rfl dL_drop_4 hM ca_X4_drop cv_X4_drop rfl aw_10_0 rfl rfl ⟨Nat.le_of_ble_eq_true rfl, Nat.le_of_ble_eq_true rfl⟩ (Nat.le_of_ble_eq_true rfl) ⟨Nat.le_of_eq (Nat.zero_add _), Nat.le_of_eq (Nat.zero_add _)⟩ ⟨Nat.le_of_eq (Nat.zero_add _), Nat.le_of_eq (Nat.zero_add _)⟩ hx (fun r σ1 hp => ?_)
  refine wm_i2l 8 rfl dL_drop_7 ?_
  refine wmw_last 9 rfl dL_drop_8 vin01 ?_
  refine wm_goto 15 (by decide) dL_drop_9 ?_
  refine wm_iconst (v := 0) 16 rfl dL_drop_15 (by decide) ?_
  exact wmw_iret dL_drop_16 (wpost_ok hp rfl) (Nat.le_of_eq (Nat.zero_add _)) (Nat.le_of_eq (Nat.zero_add _))
theorem w_forbid (l : Launch) {σ : Sg} {post : Int32 → Sg → Prop} {LX : List (String × Prop)} {mc ms : Nat} (p0 p1 : Int32) (hM : xMi l yX4_forbid cX4_forbid 3 .int 7 mc ms Lc [.ref 0, .int p0, .int p1] σ post (pT σ LX)) (hL : ∀ E ∈ LX.map Prod.fst, E ∈ [eIO, eIA, eIS]) (o : Nat → Int64) : zMw l yL_forbid cL_forbid 5 [(0, 10, 13, 21), (0, 10, 17, 13), (0, 10, 21, 15)] 8 mc ms oL [.ref 0, .int p0, .int p1, .ref 27] σ o (wpost [eIO, eIA, eIS] fI post (pT σ LX)) := by
  have hx : ∀ E σ1, pT σ LX E σ1 → ∃ v, zHd cL_forbid [(0, 10, 13, 21), (0, 10, 17, 13), (0, 10, 21, 15)] 5 5 E v ∧ wpost [eIO, eIA, eIS] fI post (pT σ LX) v (σ1, o) := by
    intro E σ1 hE
    refine ⟨cdL [eIO, eIA, eIS] E, ?_, wpost_thr 0 (by decide) hE⟩
    have hm := hL E (thr_mem hE.2)
    simp only [List.mem_cons, List.not_mem_nil, or_false] at hm
    rcases hm with rfl | rfl | rfl
    · exact ⟨[], ⟨0, 10, 13, 21⟩, [⟨0, 10, 17, 13⟩, ⟨0, 10, 21, 15⟩], 4, 15, 1, rfl, (fun _ h => absurd h List.not_mem_nil), by decide, by decide, aw_5_12, List.mem_of_getElem? (i := 3) rfl, by decide, Or.inr ⟨dL_forbid_13, rfl⟩, dL_forbid_15, by decide +kernel, dL_forbid_16⟩
    · exact ⟨[⟨0, 10, 13, 21⟩], ⟨0, 10, 17, 13⟩, [⟨0, 10, 21, 15⟩], 4, 19, 2, rfl, (by
        intro y hy
        simp only [List.mem_cons, List.not_mem_nil, or_false] at hy
        subst hy
        exact ⟨by decide, eIO, aw_5_12, List.mem_of_getElem? (i := 0) rfl⟩), by decide, by decide, aw_4_1, List.mem_of_getElem? (i := 1) rfl, by decide, Or.inr ⟨dL_forbid_17, rfl⟩, dL_forbid_19, by decide +kernel, dL_forbid_20⟩
    · exact ⟨[⟨0, 10, 13, 21⟩, ⟨0, 10, 17, 13⟩], ⟨0, 10, 21, 15⟩, [], 4, 23, 3, rfl, (by
        intro y hy
        simp only [List.mem_cons, List.not_mem_nil, or_false] at hy
        rcases hy with rfl | rfl
        · exact ⟨by decide, eIO, aw_5_12, List.mem_of_getElem? (i := 1) rfl⟩
        · exact ⟨by decide, eIA, aw_4_1, List.mem_of_getElem? (i := 2) rfl⟩), by decide, by decide, aw_4_2, List.mem_of_getElem? (i := 2) rfl, by decide, Or.inr ⟨dL_forbid_21, rfl⟩, dL_forbid_23, by decide +kernel, dL_forbid_24⟩
  refine zMw_of (by decide +kernel) (Nat.le_of_ble_eq_true rfl) (fun D cT ad sz => ?_)
  show Wm (zTh [(0, 10, 13, 21), (0, 10, 17, 13), (0, 10, 21, 15)]) l (rmx 8 mc ms) RL cL_forbid 5 (some .int) D cT ad Lc (zA ad 28 sz) (zZw oL (wpost [eIO, eIA, eIS] fI post (pT σ LX)) mc ms D cT ad sz) [(ad 27, oL cT o)] 0 (lv_args 0 [.ref 0, .int p0, .int p1, .ref 27]) [] σ 0 0
  refine wm_aload_n 1 rfl dL_forbid_0 rfl rfl ?_
  refine wm_iconst (v := 0) 2 rfl dL_forbid_1 (by decide) ?_
  refine wm_aload_n 3 rfl dL_forbid_2 rfl rfl ?_
  refine wm_iload_n 4 rfl dL_forbid_3 rfl rfl ?_
  refine wm_iload_n 5 rfl dL_forbid_4 rfl rfl ?_
  refine wmw_callVi 8 rfl dL_forbid_5 hM ca_X4_forbid cv_X4_forbid rfl aw_11_6 rfl rfl ⟨Nat.le_of_ble_eq_true rfl, Nat.le_of_ble_eq_true rfl⟩ (Nat.le_of_ble_eq_true rfl) ⟨Nat.le_of_eq (Nat.zero_add _), Nat.le_of_eq (Nat.zero_add _)⟩ ⟨Nat.le_of_eq (Nat.zero_add _), Nat.le_of_eq (Nat.zero_add _)⟩ hx (fun r σ1 hp => ?_)
  refine wm_i2l 9 rfl dL_forbid_8 ?_
  refine wmw_last 10 rfl dL_forbid_9 vin01 ?_
  refine wm_goto 25 (by decide) dL_forbid_10 ?_
  refine wm_iconst (v := 0) 26 rfl dL_forbid_25 (by decide) ?_
  exact wmw_iret dL_forbid_26 (wpost_ok hp rfl) (Nat.le_of_eq (Nat.zero_add _)) (Nat.le_of_eq (Nat.zero_add _))
theorem w_allow (l : Launch) {σ : Sg} {post : Int32 → Sg → Prop} {LX : List (String × Prop)} {mc ms : Nat} (p0 p1 : Int32) (hM : xMi l yX4_allow cX4_allow 3 .int 7 mc ms Lc [.ref 0, .int p0, .int p1] σ post (pT σ LX)) (hL : ∀ E ∈ LX.map Prod.fst, E ∈ [eIO, eNS]) (o : Nat → Int64) : zMw l yL_allow cL_allow 5 [(0, 10, 13, 21), (0, 10, 17, 46)] 8 mc ms oL [.ref 0, .int p0, .int p1, .ref 27] σ o (wpost [eIO, eNS] fI post (pT σ LX)) := by
  have hx : ∀ E σ1, pT σ LX E σ1 → ∃ v, zHd cL_allow [(0, 10, 13, 21), (0, 10, 17, 46)] 5 5 E v ∧ wpost [eIO, eNS] fI post (pT σ LX) v (σ1, o) := by
    intro E σ1 hE
    refine ⟨cdL [eIO, eNS] E, ?_, wpost_thr 0 (by decide) hE⟩
    have hm := hL E (thr_mem hE.2)
    simp only [List.mem_cons, List.not_mem_nil, or_false] at hm
    rcases hm with rfl | rfl
    · exact ⟨[], ⟨0, 10, 13, 21⟩, [⟨0, 10, 17, 46⟩], 4, 15, 1, rfl, (fun _ h => absurd h List.not_mem_nil), by decide, by decide, aw_5_12, List.mem_of_getElem? (i := 3) rfl, by decide, Or.inr ⟨dL_allow_13, rfl⟩, dL_allow_15, by decide +kernel, dL_allow_16⟩
    · exact ⟨[⟨0, 10, 13, 21⟩], ⟨0, 10, 17, 46⟩, [], 4, 19, 2, rfl, (by
        intro y hy
        simp only [List.mem_cons, List.not_mem_nil, or_false] at hy
        subst hy
        exact ⟨by decide, eIO, aw_5_12, List.mem_of_getElem? (i := 3) rfl⟩), by decide, by decide, aw_12_19, List.mem_of_getElem? (i := 4) rfl, by decide, Or.inr ⟨dL_allow_17, rfl⟩, dL_allow_19, by decide +kernel, dL_allow_20⟩
  refine zMw_of (by decide +kernel) (Nat.le_of_ble_eq_true rfl) (fun D cT ad sz => ?_)
  show Wm (zTh [(0, 10, 13, 21), (0, 10, 17, 46)]) l (rmx 8 mc ms) RL cL_allow 5 (some .int) D cT ad Lc (zA ad 28 sz) (zZw oL (wpost [eIO, eNS] fI post (pT σ LX)) mc ms D cT ad sz) [(ad 27, oL cT o)] 0 (lv_args 0 [.ref 0, .int p0, .int p1, .ref 27]) [] σ 0 0
  refine wm_aload_n 1 rfl dL_allow_0 rfl rfl ?_
  refine wm_iconst (v := 0) 2 rfl dL_allow_1 (by decide) ?_
  refine wm_aload_n 3 rfl dL_allow_2 rfl rfl ?_
  refine wm_iload_n 4 rfl dL_allow_3 rfl rfl ?_
  refine wm_iload_n 5 rfl dL_allow_4 rfl rfl ?_
  refine wmw_callVi 8 rfl dL_allow_5 hM ca_X4_allow cv_X4_allow rfl aw_12_20 rfl rfl ⟨Nat.le_of_ble_eq_true rfl, Nat.le_of_ble_eq_true rfl⟩ (Nat.le_of_ble_eq_true rfl) ⟨Nat.le_of_eq (Nat.zero_add _), Nat.le_of_eq (Nat.zero_add _)⟩ ⟨Nat.le_of_eq (Nat.zero_add _), Nat.le_of_eq (Nat.zero_add _)⟩ hx (fun r σ1 hp => ?_)
  refine wm_i2l 9 rfl dL_allow_8 ?_
  refine wmw_last 10 rfl dL_allow_9 vin01 ?_
  refine wm_goto 21 (by decide) dL_allow_10 ?_
  refine wm_iconst (v := 0) 22 rfl dL_allow_21 (by decide) ?_
  exact wmw_iret dL_allow_22 (wpost_ok hp rfl) (Nat.le_of_eq (Nat.zero_add _)) (Nat.le_of_eq (Nat.zero_add _))
theorem w_key (l : Launch) {σ : Sg} {post : Int32 → Sg → Prop} {LX : List (String × Prop)} {mc ms : Nat} (p0 p1 : Int32) (hM : xMi l yX4_key cX4_key 3 .int 7 mc ms Lc [.ref 0, .int p0, .int p1] σ post (pT σ LX)) (hL : ∀ E ∈ LX.map Prod.fst, E ∈ [eIO]) (o : Nat → Int64) : zMw l yL_key cL_key 5 [(0, 10, 13, 21)] 8 mc ms oL [.ref 0, .int p0, .int p1, .ref 27] σ o (wpost [eIO] fI post (pT σ LX)) := by
  have hx : ∀ E σ1, pT σ LX E σ1 → ∃ v, zHd cL_key [(0, 10, 13, 21)] 5 5 E v ∧ wpost [eIO] fI post (pT σ LX) v (σ1, o) := by
    intro E σ1 hE
    refine ⟨cdL [eIO] E, ?_, wpost_thr 0 (by decide) hE⟩
    have hm := hL E (thr_mem hE.2)
    simp only [List.mem_cons, List.not_mem_nil, or_false] at hm
    subst hm
    exact ⟨[], ⟨0, 10, 13, 21⟩, [], 4, 15, 1, rfl, (fun _ h => absurd h List.not_mem_nil), by decide, by decide, aw_5_12, List.mem_of_getElem? (i := 3) rfl, by decide, Or.inr ⟨dL_key_13, rfl⟩, dL_key_15, by decide +kernel, dL_key_16⟩
  refine zMw_of (by decide +kernel) (Nat.le_of_ble_eq_true rfl) (fun D cT ad sz => ?_)
  show Wm (zTh [(0, 10, 13, 21)]) l (rmx 8 mc ms) RL cL_key 5 (some .int) D cT ad Lc (zA ad 28 sz) (zZw oL (wpost [eIO] fI post (pT σ LX)) mc ms D cT ad sz) [(ad 27, oL cT o)] 0 (lv_args 0 [.ref 0, .int p0, .int p1, .ref 27]) [] σ 0 0
  refine wm_aload_n 1 rfl dL_key_0 rfl rfl ?_
  refine wm_iconst (v := 0) 2 rfl dL_key_1 (by decide) ?_
  refine wm_aload_n 3 rfl dL_key_2 rfl rfl ?_
  refine wm_iload_n 4 rfl dL_key_3 rfl rfl ?_
  refine wm_iload_n 5 rfl dL_key_4 rfl rfl ?_
  refine wmw_callVi 8 rfl dL_key_5 hM ca_X4_key cv_X4_key rfl aw_14_5 rfl rfl ⟨Nat.le_of_ble_eq_true rfl, Nat.le_of_ble_eq_true rfl⟩ (Nat.le_of_ble_eq_true rfl) ⟨Nat.le_of_eq (Nat.zero_add _), Nat.le_of_eq (Nat.zero_add _)⟩ ⟨Nat.le_of_eq (Nat.zero_add _), Nat.le_of_eq (Nat.zero_add _)⟩ hx (fun r σ1 hp => ?_)
  refine wm_i2l 9 rfl dL_key_8 ?_
  refine wmw_last 10 rfl dL_key_9 vin01 ?_
  refine wm_goto 17 (by decide) dL_key_10 ?_
  refine wm_iconst (v := 0) 18 rfl dL_key_17 (by decide) ?_
  exact wmw_iret dL_key_18 (wpost_ok hp rfl) (Nat.le_of_eq (Nat.zero_add _)) (Nat.le_of_eq (Nat.zero_add _))
theorem w_seen (l : Launch) {σ : Sg} {post : Int32 → Sg → Prop} {LX : List (String × Prop)} {mc ms : Nat} (p0 : Int32) (hM : xMi l yX4_seen cX4_seen 2 .int 7 mc ms Lc [.ref 0, .int p0] σ post (pT σ LX)) (hL : ∀ E ∈ LX.map Prod.fst, E ∈ [eIO]) (o : Nat → Int64) : zMw l yL_seen cL_seen 4 [(0, 9, 12, 21)] 8 mc ms oL [.ref 0, .int p0, .ref 27] σ o (wpost [eIO] fI post (pT σ LX)) := by
  have hx : ∀ E σ1, pT σ LX E σ1 → ∃ v, zHd cL_seen [(0, 9, 12, 21)] 4 4 E v ∧ wpost [eIO] fI post (pT σ LX) v (σ1, o) := by
    intro E σ1 hE
    refine ⟨cdL [eIO] E, ?_, wpost_thr 0 (by decide) hE⟩
    have hm := hL E (thr_mem hE.2)
    simp only [List.mem_cons, List.not_mem_nil, or_false] at hm
    subst hm
    exact ⟨[], ⟨0, 9, 12, 21⟩, [], 3, 13, 1, rfl, (fun _ h => absurd h List.not_mem_nil), by decide, by decide, aw_5_12, List.mem_of_getElem? (i := 3) rfl, by decide, Or.inl ⟨3, rfl, dL_seen_12, rfl⟩, dL_seen_13, by decide +kernel, dL_seen_14⟩
  refine zMw_of (by decide +kernel) (Nat.le_of_ble_eq_true rfl) (fun D cT ad sz => ?_)
  show Wm (zTh [(0, 9, 12, 21)]) l (rmx 8 mc ms) RL cL_seen 4 (some .int) D cT ad Lc (zA ad 28 sz) (zZw oL (wpost [eIO] fI post (pT σ LX)) mc ms D cT ad sz) [(ad 27, oL cT o)] 0 (lv_args 0 [.ref 0, .int p0, .ref 27]) [] σ 0 0
  refine wm_aload_n 1 rfl dL_seen_0 rfl rfl ?_
  refine wm_iconst (v := 0) 2 rfl dL_seen_1 (by decide) ?_
  refine wm_aload_n 3 rfl dL_seen_2 rfl rfl ?_
  refine wm_iload_n 4 rfl dL_seen_3 rfl rfl ?_
  refine wmw_callVi 7 rfl dL_seen_4 hM ca_X4_seen cv_X4_seen rfl aw_14_16 rfl rfl ⟨Nat.le_of_ble_eq_true rfl, Nat.le_of_ble_eq_true rfl⟩ (Nat.le_of_ble_eq_true rfl) ⟨Nat.le_of_eq (Nat.zero_add _), Nat.le_of_eq (Nat.zero_add _)⟩ ⟨Nat.le_of_eq (Nat.zero_add _), Nat.le_of_eq (Nat.zero_add _)⟩ hx (fun r σ1 hp => ?_)
  refine wm_i2l 8 rfl dL_seen_7 ?_
  refine wmw_last 9 rfl dL_seen_8 vin01 ?_
  refine wm_goto 15 (by decide) dL_seen_9 ?_
  refine wm_iconst (v := 0) 16 rfl dL_seen_15 (by decide) ?_
  exact wmw_iret dL_seen_16 (wpost_ok hp rfl) (Nat.le_of_eq (Nat.zero_add _)) (Nat.le_of_eq (Nat.zero_add _))
theorem w_thing (l : Launch) {σ : Sg} {post : Int32 → Sg → Prop} {LX : List (String × Prop)} {mc ms : Nat} (p0 : Int32) (hM : xMi l yX4_thing cX4_thing 2 .int 8 mc ms Lc [.ref 0, .int p0] σ post (pT σ LX)) (hL : ∀ E ∈ LX.map Prod.fst, E ∈ [eIO]) (o : Nat → Int64) : zMw l yL_thing cL_thing 4 [(0, 9, 12, 21)] 9 mc ms oL [.ref 0, .int p0, .ref 27] σ o (wpost [eIO] fI post (pT σ LX)) := by
  have hx : ∀ E σ1, pT σ LX E σ1 → ∃ v, zHd cL_thing [(0, 9, 12, 21)] 4 4 E v ∧ wpost [eIO] fI post (pT σ LX) v (σ1, o) := by
    intro E σ1 hE
    refine ⟨cdL [eIO] E, ?_, wpost_thr 0 (by decide) hE⟩
    have hm := hL E (thr_mem hE.2)
    simp only [List.mem_cons, List.not_mem_nil, or_false] at hm
    subst hm
    exact ⟨[], ⟨0, 9, 12, 21⟩, [], 3, 13, 1, rfl, (fun _ h => absurd h List.not_mem_nil), by decide, by decide, aw_5_12, List.mem_of_getElem? (i := 3) rfl, by decide, Or.inl ⟨3, rfl, dL_thing_12, rfl⟩, dL_thing_13, by decide +kernel, dL_thing_14⟩
  refine zMw_of (by decide +kernel) (Nat.le_of_ble_eq_true rfl) (fun D cT ad sz => ?_)
  show Wm (zTh [(0, 9, 12, 21)]) l (rmx 9 mc ms) RL cL_thing 4 (some .int) D cT ad Lc (zA ad 28 sz) (zZw oL (wpost [eIO] fI post (pT σ LX)) mc ms D cT ad sz) [(ad 27, oL cT o)] 0 (lv_args 0 [.ref 0, .int p0, .ref 27]) [] σ 0 0
  refine wm_aload_n 1 rfl dL_thing_0 rfl rfl ?_
  refine wm_iconst (v := 0) 2 rfl dL_thing_1 (by decide) ?_
  refine wm_aload_n 3 rfl dL_thing_2 rfl rfl ?_
  refine wm_iload_n 4 rfl dL_thing_3 rfl rfl ?_
  refine wmw_callVi 7 rfl dL_thing_4 hM ca_X4_thing cv_X4_thing rfl aw_15_3 rfl rfl ⟨Nat.le_of_ble_eq_true rfl, Nat.le_of_ble_eq_true rfl⟩ (Nat.le_of_ble_eq_true rfl) ⟨Nat.le_of_eq (Nat.zero_add _), Nat.le_of_eq (Nat.zero_add _)⟩ ⟨Nat.le_of_eq (Nat.zero_add _), Nat.le_of_eq (Nat.zero_add _)⟩ hx (fun r σ1 hp => ?_)
  refine wm_i2l 8 rfl dL_thing_7 ?_
  refine wmw_last 9 rfl dL_thing_8 vin01 ?_
  refine wm_goto 15 (by decide) dL_thing_9 ?_
  refine wm_iconst (v := 0) 16 rfl dL_thing_15 (by decide) ?_
  exact wmw_iret dL_thing_16 (wpost_ok hp rfl) (Nat.le_of_eq (Nat.zero_add _)) (Nat.le_of_eq (Nat.zero_add _))
theorem w_thingByRounds (l : Launch) {σ : Sg} {post : Int32 → Sg → Prop} {LX : List (String × Prop)} {mc ms : Nat} (p0 : Int32) (hM : xMi l yX4_thingByRounds cX4_thingByRounds 2 .int 7 mc ms Lc [.ref 0, .int p0] σ post (pT σ LX)) (hL : ∀ E ∈ LX.map Prod.fst, E ∈ [eIO]) (o : Nat → Int64) : zMw l yL_thingByRounds cL_thingByRounds 4 [(0, 9, 12, 21)] 8 mc ms oL [.ref 0, .int p0, .ref 27] σ o (wpost [eIO] fI post (pT σ LX)) := by
  have hx : ∀ E σ1, pT σ LX E σ1 → ∃ v, zHd cL_thingByRounds [(0, 9, 12, 21)] 4 4 E v ∧ wpost [eIO] fI post (pT σ LX) v (σ1, o) := by
    intro E σ1 hE
    refine ⟨cdL [eIO] E, ?_, wpost_thr 0 (by decide) hE⟩
    have hm := hL E (thr_mem hE.2)
    simp only [List.mem_cons, List.not_mem_nil, or_false] at hm
    subst hm
    exact ⟨[], ⟨0, 9, 12, 21⟩, [], 3, 13, 1, rfl, (fun _ h => absurd h List.not_mem_nil), by decide, by decide, aw_5_12, List.mem_of_getElem? (i := 3) rfl, by decide, Or.inl ⟨3, rfl, dL_thingByRounds_12, rfl⟩, dL_thingByRounds_13, by decide +kernel, dL_thingByRounds_14⟩
  refine zMw_of (by decide +kernel) (Nat.le_of_ble_eq_true rfl) (fun D cT ad sz => ?_)
  show Wm (zTh [(0, 9, 12, 21)]) l (rmx 8 mc ms) RL cL_thingByRounds 4 (some .int) D cT ad Lc (zA ad 28 sz) (zZw oL (wpost [eIO] fI post (pT σ LX)) mc ms D cT ad sz) [(ad 27, oL cT o)] 0 (lv_args 0 [.ref 0, .int p0, .ref 27]) [] σ 0 0
  refine wm_aload_n 1 rfl dL_thingByRounds_0 rfl rfl ?_
  refine wm_iconst (v := 0) 2 rfl dL_thingByRounds_1 (by decide) ?_
  refine wm_aload_n 3 rfl dL_thingByRounds_2 rfl rfl ?_
  refine wm_iload_n 4 rfl dL_thingByRounds_3 rfl rfl ?_
  refine wmw_callVi 7 rfl dL_thingByRounds_4 hM ca_X4_thingByRounds cv_X4_thingByRounds rfl aw_20_2 rfl rfl ⟨Nat.le_of_ble_eq_true rfl, Nat.le_of_ble_eq_true rfl⟩ (Nat.le_of_ble_eq_true rfl) ⟨Nat.le_of_eq (Nat.zero_add _), Nat.le_of_eq (Nat.zero_add _)⟩ ⟨Nat.le_of_eq (Nat.zero_add _), Nat.le_of_eq (Nat.zero_add _)⟩ hx (fun r σ1 hp => ?_)
  refine wm_i2l 8 rfl dL_thingByRounds_7 ?_
  refine wmw_last 9 rfl dL_thingByRounds_8 vin01 ?_
  refine wm_goto 15 (by decide) dL_thingByRounds_9 ?_
  refine wm_iconst (v := 0) 16 rfl dL_thingByRounds_15 (by decide) ?_
  exact wmw_iret dL_thingByRounds_16 (wpost_ok hp rfl) (Nat.le_of_eq (Nat.zero_add _)) (Nat.le_of_eq (Nat.zero_add _))
theorem w_size (l : Launch) {σ : Sg} {post : Int32 → Sg → Prop} {LX : List (String × Prop)} {mc ms : Nat} (p0 : Int32) (hM : xMi l yX4_size cX4_size 2 .int 8 mc ms Lc [.ref 0, .int p0] σ post (pT σ LX)) (hL : ∀ E ∈ LX.map Prod.fst, E ∈ [eIO]) (o : Nat → Int64) : zMw l yL_size cL_size 4 [(0, 9, 12, 21)] 9 mc ms oL [.ref 0, .int p0, .ref 27] σ o (wpost [eIO] fI post (pT σ LX)) := by
  have hx : ∀ E σ1, pT σ LX E σ1 → ∃ v, zHd cL_size [(0, 9, 12, 21)] 4 4 E v ∧ wpost [eIO] fI post (pT σ LX) v (σ1, o) := by
    intro E σ1 hE
    refine ⟨cdL [eIO] E, ?_, wpost_thr 0 (by decide) hE⟩
    have hm := hL E (thr_mem hE.2)
    simp only [List.mem_cons, List.not_mem_nil, or_false] at hm
    subst hm
    exact ⟨[], ⟨0, 9, 12, 21⟩, [], 3, 13, 1, rfl, (fun _ h => absurd h List.not_mem_nil), by decide, by decide, aw_5_12, List.mem_of_getElem? (i := 3) rfl, by decide, Or.inl ⟨3, rfl, dL_size_12, rfl⟩, dL_size_13, by decide +kernel, dL_size_14⟩
  refine zMw_of (by decide +kernel) (Nat.le_of_ble_eq_true rfl) (fun D cT ad sz => ?_)
  show Wm (zTh [(0, 9, 12, 21)]) l (rmx 9 mc ms) RL cL_size 4 (some .int) D cT ad Lc (zA ad 28 sz) (zZw oL (wpost [eIO] fI post (pT σ LX)) mc ms D cT ad sz) [(ad 27, oL cT o)] 0 (lv_args 0 [.ref 0, .int p0, .ref 27]) [] σ 0 0
  refine wm_aload_n 1 rfl dL_size_0 rfl rfl ?_
  refine wm_iconst (v := 0) 2 rfl dL_size_1 (by decide) ?_
  refine wm_aload_n 3 rfl dL_size_2 rfl rfl ?_
  refine wm_iload_n 4 rfl dL_size_3 rfl rfl ?_
  refine wmw_callVi 7 rfl dL_size_4 hM ca_X4_size cv_X4_size rfl aw_21_19 rfl rfl ⟨Nat.le_of_ble_eq_true rfl, Nat.le_of_ble_eq_true rfl⟩ (Nat.le_of_ble_eq_true rfl) ⟨Nat.le_of_eq (Nat.zero_add _), Nat.le_of_eq (Nat.zero_add _)⟩ ⟨Nat.le_of_eq (Nat.zero_add _), Nat.le_of_eq (Nat.zero_add _)⟩ hx (fun r σ1 hp => ?_)
  refine wm_i2l 8 rfl dL_size_7 ?_
  refine wmw_last 9 rfl dL_size_8 vin01 ?_
  refine wm_goto 15 (by decide) dL_size_9 ?_
  refine wm_iconst (v := 0) 16 rfl dL_size_15 (by decide) ?_
  exact wmw_iret dL_size_16 (wpost_ok hp rfl) (Nat.le_of_eq (Nat.zero_add _)) (Nat.le_of_eq (Nat.zero_add _))
theorem w_member (l : Launch) {σ : Sg} {post : Int32 → Sg → Prop} {LX : List (String × Prop)} {mc ms : Nat} (p0 p1 : Int32) (hM : xMi l yX4_member cX4_member 4 .int 8 mc ms Lc [.ref 0, .int p0, .int p1] σ post (pT σ LX)) (hL : ∀ E ∈ LX.map Prod.fst, E ∈ [eIO, eNS]) (o : Nat → Int64) : zMw l yL_member cL_member 5 [(0, 10, 13, 21), (0, 10, 17, 46)] 9 mc ms oL [.ref 0, .int p0, .int p1, .ref 27] σ o (wpost [eIO, eNS] fI post (pT σ LX)) := by
  have hx : ∀ E σ1, pT σ LX E σ1 → ∃ v, zHd cL_member [(0, 10, 13, 21), (0, 10, 17, 46)] 5 5 E v ∧ wpost [eIO, eNS] fI post (pT σ LX) v (σ1, o) := by
    intro E σ1 hE
    refine ⟨cdL [eIO, eNS] E, ?_, wpost_thr 0 (by decide) hE⟩
    have hm := hL E (thr_mem hE.2)
    simp only [List.mem_cons, List.not_mem_nil, or_false] at hm
    rcases hm with rfl | rfl
    · exact ⟨[], ⟨0, 10, 13, 21⟩, [⟨0, 10, 17, 46⟩], 4, 15, 1, rfl, (fun _ h => absurd h List.not_mem_nil), by decide, by decide, aw_5_12, List.mem_of_getElem? (i := 3) rfl, by decide, Or.inr ⟨dL_member_13, rfl⟩, dL_member_15, by decide +kernel, dL_member_16⟩
    · exact ⟨[⟨0, 10, 13, 21⟩], ⟨0, 10, 17, 46⟩, [], 4, 19, 2, rfl, (by
        intro y hy
        simp only [List.mem_cons, List.not_mem_nil, or_false] at hy
        subst hy
        exact ⟨by decide, eIO, aw_5_12, List.mem_of_getElem? (i := 3) rfl⟩), by decide, by decide, aw_12_19, List.mem_of_getElem? (i := 4) rfl, by decide, Or.inr ⟨dL_member_17, rfl⟩, dL_member_19, by decide +kernel, dL_member_20⟩
  refine zMw_of (by decide +kernel) (Nat.le_of_ble_eq_true rfl) (fun D cT ad sz => ?_)
  show Wm (zTh [(0, 10, 13, 21), (0, 10, 17, 46)]) l (rmx 9 mc ms) RL cL_member 5 (some .int) D cT ad Lc (zA ad 28 sz) (zZw oL (wpost [eIO, eNS] fI post (pT σ LX)) mc ms D cT ad sz) [(ad 27, oL cT o)] 0 (lv_args 0 [.ref 0, .int p0, .int p1, .ref 27]) [] σ 0 0
  refine wm_aload_n 1 rfl dL_member_0 rfl rfl ?_
  refine wm_iconst (v := 0) 2 rfl dL_member_1 (by decide) ?_
  refine wm_aload_n 3 rfl dL_member_2 rfl rfl ?_
  refine wm_iload_n 4 rfl dL_member_3 rfl rfl ?_
  refine wm_iload_n 5 rfl dL_member_4 rfl rfl ?_
  refine wmw_callVi 8 rfl dL_member_5 hM ca_X4_member cv_X4_member rfl aw_22_14 rfl rfl ⟨Nat.le_of_ble_eq_true rfl, Nat.le_of_ble_eq_true rfl⟩ (Nat.le_of_ble_eq_true rfl) ⟨Nat.le_of_eq (Nat.zero_add _), Nat.le_of_eq (Nat.zero_add _)⟩ ⟨Nat.le_of_eq (Nat.zero_add _), Nat.le_of_eq (Nat.zero_add _)⟩ hx (fun r σ1 hp => ?_)
  refine wm_i2l 9 rfl dL_member_8 ?_
  refine wmw_last 10 rfl dL_member_9 vin01 ?_
  refine wm_goto 21 (by decide) dL_member_10 ?_
  refine wm_iconst (v := 0) 22 rfl dL_member_21 (by decide) ?_
  exact wmw_iret dL_member_22 (wpost_ok hp rfl) (Nat.le_of_eq (Nat.zero_add _)) (Nat.le_of_eq (Nat.zero_add _))
theorem w_areTogether (l : Launch) {σ : Sg} {post : Int32 → Sg → Prop} {LX : List (String × Prop)} {mc ms : Nat} (p0 p1 : Int32) (hM : xMi l yX4_areTogether cX4_areTogether 3 .boolean 8 mc ms Lc [.ref 0, .int p0, .int p1] σ post (pT σ LX)) (hL : ∀ E ∈ LX.map Prod.fst, E ∈ [eIO]) (hz : ∀ v σ1, post v σ1 → v = 0 ∨ v = 1) (o : Nat → Int64) : zMw l yL_areTogether cL_areTogether 5 [(0, 17, 20, 21)] 9 mc ms oL [.ref 0, .int p0, .int p1, .ref 27] σ o (wpost [eIO] fZ post (pT σ LX)) := by
  have hx : ∀ E σ1, pT σ LX E σ1 → ∃ v, zHd cL_areTogether [(0, 17, 20, 21)] 5 5 E v ∧ wpost [eIO] fZ post (pT σ LX) v (σ1, o) := by
    intro E σ1 hE
    refine ⟨cdL [eIO] E, ?_, wpost_thr 0 (by decide) hE⟩
    have hm := hL E (thr_mem hE.2)
    simp only [List.mem_cons, List.not_mem_nil, or_false] at hm
    subst hm
    exact ⟨[], ⟨0, 17, 20, 21⟩, [], 4, 22, 1, rfl, (fun _ h => absurd h List.not_mem_nil), by decide, by decide, aw_5_12, List.mem_of_getElem? (i := 3) rfl, by decide, Or.inr ⟨dL_areTogether_20, rfl⟩, dL_areTogether_22, by decide +kernel, dL_areTogether_23⟩
  refine zMw_of (by decide +kernel) (Nat.le_of_ble_eq_true rfl) (fun D cT ad sz => ?_)
  show Wm (zTh [(0, 17, 20, 21)]) l (rmx 9 mc ms) RL cL_areTogether 5 (some .int) D cT ad Lc (zA ad 28 sz) (zZw oL (wpost [eIO] fZ post (pT σ LX)) mc ms D cT ad sz) [(ad 27, oL cT o)] 0 (lv_args 0 [.ref 0, .int p0, .int p1, .ref 27]) [] σ 0 0
  refine wm_aload_n 1 rfl dL_areTogether_0 rfl rfl ?_
  refine wm_iconst (v := 0) 2 rfl dL_areTogether_1 (by decide) ?_
  refine wm_aload_n 3 rfl dL_areTogether_2 rfl rfl ?_
  refine wm_iload_n 4 rfl dL_areTogether_3 rfl rfl ?_
  refine wm_iload_n 5 rfl dL_areTogether_4 rfl rfl ?_
  refine wmw_callVi 8 rfl dL_areTogether_5 hM ca_X4_areTogether cv_X4_areTogether rfl aw_23_5 rfl rfl ⟨Nat.le_of_ble_eq_true rfl, Nat.le_of_ble_eq_true rfl⟩ (Nat.le_of_ble_eq_true rfl) ⟨Nat.le_of_eq (Nat.zero_add _), Nat.le_of_eq (Nat.zero_add _)⟩ ⟨Nat.le_of_eq (Nat.zero_add _), Nat.le_of_eq (Nat.zero_add _)⟩ hx (fun r σ1 hp => ?_)
  refine wm_if_eq 15 11 rfl (by decide) dL_areTogether_8 (fun c9 => ?_) (fun c9 => ?_)
  · refine wm_lconst (v := 0) 16 rfl dL_areTogether_15 (by decide) ?_
    refine wmw_last 17 rfl dL_areTogether_16 vin01 ?_
    refine wm_goto 24 (by decide) dL_areTogether_17 ?_
    refine wm_iconst (v := 0) 25 rfl dL_areTogether_24 (by decide) ?_
    exact wmw_iret dL_areTogether_25 (wpost_ok hp ⟨Or.inl c9, by rw [show r = 0 from c9]; rfl⟩) (Nat.le_of_eq (Nat.zero_add _)) (Nat.le_of_eq (Nat.zero_add _))
  · refine wm_lconst (v := 1) 12 rfl dL_areTogether_11 (by decide) ?_
    refine wm_goto 16 (by decide) dL_areTogether_12 ?_
    refine wmw_last 17 rfl dL_areTogether_16 vin01 ?_
    refine wm_goto 24 (by decide) dL_areTogether_17 ?_
    refine wm_iconst (v := 0) 25 rfl dL_areTogether_24 (by decide) ?_
    exact wmw_iret dL_areTogether_25 (wpost_ok hp ⟨hz _ _ hp, by rw [(hz _ _ hp).resolve_left c9]; rfl⟩) (Nat.le_of_eq (Nat.zero_add _)) (Nat.le_of_eq (Nat.zero_add _))
theorem w_step (l : Launch) {σ : Sg} {post : Int32 → Sg → Prop} {LX : List (String × Prop)} {mc ms : Nat} (p0 p1 : Int32) (hM : xMi l yX4_step cX4_step 4 .int 8 mc ms Lc [.ref 0, .int p0, .int p1] σ post (pT σ LX)) (hL : ∀ E ∈ LX.map Prod.fst, E ∈ [eIO, eIA, eNS]) (o : Nat → Int64) : zMw l yL_step cL_step 5 [(0, 10, 13, 21), (0, 10, 17, 13), (0, 10, 21, 46)] 9 mc ms oL [.ref 0, .int p0, .int p1, .ref 27] σ o (wpost [eIO, eIA, eNS] fI post (pT σ LX)) := by
  have hx : ∀ E σ1, pT σ LX E σ1 → ∃ v, zHd cL_step [(0, 10, 13, 21), (0, 10, 17, 13), (0, 10, 21, 46)] 5 5 E v ∧ wpost [eIO, eIA, eNS] fI post (pT σ LX) v (σ1, o) := by
    intro E σ1 hE
    refine ⟨cdL [eIO, eIA, eNS] E, ?_, wpost_thr 0 (by decide) hE⟩
    have hm := hL E (thr_mem hE.2)
    simp only [List.mem_cons, List.not_mem_nil, or_false] at hm
    rcases hm with rfl | rfl | rfl
    · exact ⟨[], ⟨0, 10, 13, 21⟩, [⟨0, 10, 17, 13⟩, ⟨0, 10, 21, 46⟩], 4, 15, 1, rfl, (fun _ h => absurd h List.not_mem_nil), by decide, by decide, aw_5_12, List.mem_of_getElem? (i := 3) rfl, by decide, Or.inr ⟨dL_step_13, rfl⟩, dL_step_15, by decide +kernel, dL_step_16⟩
    · exact ⟨[⟨0, 10, 13, 21⟩], ⟨0, 10, 17, 13⟩, [⟨0, 10, 21, 46⟩], 4, 19, 2, rfl, (by
        intro y hy
        simp only [List.mem_cons, List.not_mem_nil, or_false] at hy
        subst hy
        exact ⟨by decide, eIO, aw_5_12, List.mem_of_getElem? (i := 0) rfl⟩), by decide, by decide, aw_4_1, List.mem_of_getElem? (i := 1) rfl, by decide, Or.inr ⟨dL_step_17, rfl⟩, dL_step_19, by decide +kernel, dL_step_20⟩
    · exact ⟨[⟨0, 10, 13, 21⟩, ⟨0, 10, 17, 13⟩], ⟨0, 10, 21, 46⟩, [], 4, 23, 3, rfl, (by
        intro y hy
        simp only [List.mem_cons, List.not_mem_nil, or_false] at hy
        rcases hy with rfl | rfl
        · exact ⟨by decide, eIO, aw_5_12, List.mem_of_getElem? (i := 3) rfl⟩
        · exact ⟨by decide, eIA, aw_4_1, List.mem_of_getElem? (i := 4) rfl⟩), by decide, by decide, aw_12_19, List.mem_of_getElem? (i := 4) rfl, by decide, Or.inr ⟨dL_step_21, rfl⟩, dL_step_23, by decide +kernel, dL_step_24⟩
  refine zMw_of (by decide +kernel) (Nat.le_of_ble_eq_true rfl) (fun D cT ad sz => ?_)
  show Wm (zTh [(0, 10, 13, 21), (0, 10, 17, 13), (0, 10, 21, 46)]) l (rmx 9 mc ms) RL cL_step 5 (some .int) D cT ad Lc (zA ad 28 sz) (zZw oL (wpost [eIO, eIA, eNS] fI post (pT σ LX)) mc ms D cT ad sz) [(ad 27, oL cT o)] 0 (lv_args 0 [.ref 0, .int p0, .int p1, .ref 27]) [] σ 0 0
  refine wm_aload_n 1 rfl dL_step_0 rfl rfl ?_
  refine wm_iconst (v := 0) 2 rfl dL_step_1 (by decide) ?_
  refine wm_aload_n 3 rfl dL_step_2 rfl rfl ?_
  refine wm_iload_n 4 rfl dL_step_3 rfl rfl ?_
  refine wm_iload_n 5 rfl dL_step_4 rfl rfl ?_
  refine wmw_callVi 8 rfl dL_step_5 hM ca_X4_step cv_X4_step rfl aw_23_16 rfl rfl ⟨Nat.le_of_ble_eq_true rfl, Nat.le_of_ble_eq_true rfl⟩ (Nat.le_of_ble_eq_true rfl) ⟨Nat.le_of_eq (Nat.zero_add _), Nat.le_of_eq (Nat.zero_add _)⟩ ⟨Nat.le_of_eq (Nat.zero_add _), Nat.le_of_eq (Nat.zero_add _)⟩ hx (fun r σ1 hp => ?_)
  refine wm_i2l 9 rfl dL_step_8 ?_
  refine wmw_last 10 rfl dL_step_9 vin01 ?_
  refine wm_goto 25 (by decide) dL_step_10 ?_
  refine wm_iconst (v := 0) 26 rfl dL_step_25 (by decide) ?_
  exact wmw_iret dL_step_26 (wpost_ok hp rfl) (Nat.le_of_eq (Nat.zero_add _)) (Nat.le_of_eq (Nat.zero_add _))
theorem w_shared (l : Launch) {σ : Sg} {post : Int32 → Sg → Prop} {LX : List (String × Prop)} {mc ms : Nat} (p0 : Int32) (hM : xMi l yX4_shared cX4_shared 4 .int 7 mc ms Lc [.ref 0, .int p0] σ post (pT σ LX)) (hL : ∀ E ∈ LX.map Prod.fst, E ∈ [eIO]) (o : Nat → Int64) : zMw l yL_shared cL_shared 4 [(0, 9, 12, 21)] 8 mc ms oL [.ref 0, .int p0, .ref 27] σ o (wpost [eIO] fI post (pT σ LX)) := by
  have hx : ∀ E σ1, pT σ LX E σ1 → ∃ v, zHd cL_shared [(0, 9, 12, 21)] 4 4 E v ∧ wpost [eIO] fI post (pT σ LX) v (σ1, o) := by
    intro E σ1 hE
    refine ⟨cdL [eIO] E, ?_, wpost_thr 0 (by decide) hE⟩
    have hm := hL E (thr_mem hE.2)
    simp only [List.mem_cons, List.not_mem_nil, or_false] at hm
    subst hm
    exact ⟨[], ⟨0, 9, 12, 21⟩, [], 3, 13, 1, rfl, (fun _ h => absurd h List.not_mem_nil), by decide, by decide, aw_5_12, List.mem_of_getElem? (i := 3) rfl, by decide, Or.inl ⟨3, rfl, dL_shared_12, rfl⟩, dL_shared_13, by decide +kernel, dL_shared_14⟩
  refine zMw_of (by decide +kernel) (Nat.le_of_ble_eq_true rfl) (fun D cT ad sz => ?_)
  show Wm (zTh [(0, 9, 12, 21)]) l (rmx 8 mc ms) RL cL_shared 4 (some .int) D cT ad Lc (zA ad 28 sz) (zZw oL (wpost [eIO] fI post (pT σ LX)) mc ms D cT ad sz) [(ad 27, oL cT o)] 0 (lv_args 0 [.ref 0, .int p0, .ref 27]) [] σ 0 0
  refine wm_aload_n 1 rfl dL_shared_0 rfl rfl ?_
  refine wm_iconst (v := 0) 2 rfl dL_shared_1 (by decide) ?_
  refine wm_aload_n 3 rfl dL_shared_2 rfl rfl ?_
  refine wm_iload_n 4 rfl dL_shared_3 rfl rfl ?_
  refine wmw_callVi 7 rfl dL_shared_4 hM ca_X4_shared cv_X4_shared rfl aw_24_7 rfl rfl ⟨Nat.le_of_ble_eq_true rfl, Nat.le_of_ble_eq_true rfl⟩ (Nat.le_of_ble_eq_true rfl) ⟨Nat.le_of_eq (Nat.zero_add _), Nat.le_of_eq (Nat.zero_add _)⟩ ⟨Nat.le_of_eq (Nat.zero_add _), Nat.le_of_eq (Nat.zero_add _)⟩ hx (fun r σ1 hp => ?_)
  refine wm_i2l 8 rfl dL_shared_7 ?_
  refine wmw_last 9 rfl dL_shared_8 vin01 ?_
  refine wm_goto 15 (by decide) dL_shared_9 ?_
  refine wm_iconst (v := 0) 16 rfl dL_shared_15 (by decide) ?_
  exact wmw_iret dL_shared_16 (wpost_ok hp rfl) (Nat.le_of_eq (Nat.zero_add _)) (Nat.le_of_eq (Nat.zero_add _))
theorem w_thingsWithout (l : Launch) {σ : Sg} {post : Int32 → Sg → Prop} {LX : List (String × Prop)} {mc ms : Nat} (p0 : Int32) (hM : xMi l yX4_thingsWithout cX4_thingsWithout 3 .int 8 mc ms Lc [.ref 0, .int p0] σ post (pT σ LX)) (hL : ∀ E ∈ LX.map Prod.fst, E ∈ [eIO]) (o : Nat → Int64) : zMw l yL_thingsWithout cL_thingsWithout 4 [(0, 9, 12, 21)] 9 mc ms oL [.ref 0, .int p0, .ref 27] σ o (wpost [eIO] fI post (pT σ LX)) := by
  have hx : ∀ E σ1, pT σ LX E σ1 → ∃ v, zHd cL_thingsWithout [(0, 9, 12, 21)] 4 4 E v ∧ wpost [eIO] fI post (pT σ LX) v (σ1, o) := by
    intro E σ1 hE
    refine ⟨cdL [eIO] E, ?_, wpost_thr 0 (by decide) hE⟩
    have hm := hL E (thr_mem hE.2)
    simp only [List.mem_cons, List.not_mem_nil, or_false] at hm
    subst hm
    exact ⟨[], ⟨0, 9, 12, 21⟩, [], 3, 13, 1, rfl, (fun _ h => absurd h List.not_mem_nil), by decide, by decide, aw_5_12, List.mem_of_getElem? (i := 3) rfl, by decide, Or.inl ⟨3, rfl, dL_thingsWithout_12, rfl⟩, dL_thingsWithout_13, by decide +kernel, dL_thingsWithout_14⟩
  refine zMw_of (by decide +kernel) (Nat.le_of_ble_eq_true rfl) (fun D cT ad sz => ?_)
  show Wm (zTh [(0, 9, 12, 21)]) l (rmx 9 mc ms) RL cL_thingsWithout 4 (some .int) D cT ad Lc (zA ad 28 sz) (zZw oL (wpost [eIO] fI post (pT σ LX)) mc ms D cT ad sz) [(ad 27, oL cT o)] 0 (lv_args 0 [.ref 0, .int p0, .ref 27]) [] σ 0 0
  refine wm_aload_n 1 rfl dL_thingsWithout_0 rfl rfl ?_
  refine wm_iconst (v := 0) 2 rfl dL_thingsWithout_1 (by decide) ?_
  refine wm_aload_n 3 rfl dL_thingsWithout_2 rfl rfl ?_
  refine wm_iload_n 4 rfl dL_thingsWithout_3 rfl rfl ?_
  refine wmw_callVi 7 rfl dL_thingsWithout_4 hM ca_X4_thingsWithout cv_X4_thingsWithout rfl aw_25_8 rfl rfl ⟨Nat.le_of_ble_eq_true rfl, Nat.le_of_ble_eq_true rfl⟩ (Nat.le_of_ble_eq_true rfl) ⟨Nat.le_of_eq (Nat.zero_add _), Nat.le_of_eq (Nat.zero_add _)⟩ ⟨Nat.le_of_eq (Nat.zero_add _), Nat.le_of_eq (Nat.zero_add _)⟩ hx (fun r σ1 hp => ?_)
  refine wm_i2l 8 rfl dL_thingsWithout_7 ?_
  refine wmw_last 9 rfl dL_thingsWithout_8 vin01 ?_
  refine wm_goto 15 (by decide) dL_thingsWithout_9 ?_
  refine wm_iconst (v := 0) 16 rfl dL_thingsWithout_15 (by decide) ?_
  exact wmw_iret dL_thingsWithout_16 (wpost_ok hp rfl) (Nat.le_of_eq (Nat.zero_add _)) (Nat.le_of_eq (Nat.zero_add _))
theorem w_thingsIf (l : Launch) {σ : Sg} {post : Int32 → Sg → Prop} {LX : List (String × Prop)} {mc ms : Nat} (p0 p1 p2 : Int32) (hM : xMi l yX4_thingsIf cX4_thingsIf 6 .int 8 mc ms Lc [.ref 0, .int p0, .int p1, .int p2] σ post (pT σ LX)) (hL : ∀ E ∈ LX.map Prod.fst, E ∈ [eIO, eIA]) (o : Nat → Int64) : zMw l yL_thingsIf cL_thingsIf 6 [(0, 12, 15, 21), (0, 12, 19, 13)] 9 mc ms oL [.ref 0, .int p0, .int p1, .int p2, .ref 27] σ o (wpost [eIO, eIA] fI post (pT σ LX)) := by
  have hx : ∀ E σ1, pT σ LX E σ1 → ∃ v, zHd cL_thingsIf [(0, 12, 15, 21), (0, 12, 19, 13)] 7 6 E v ∧ wpost [eIO, eIA] fI post (pT σ LX) v (σ1, o) := by
    intro E σ1 hE
    refine ⟨cdL [eIO, eIA] E, ?_, wpost_thr 0 (by decide) hE⟩
    have hm := hL E (thr_mem hE.2)
    simp only [List.mem_cons, List.not_mem_nil, or_false] at hm
    rcases hm with rfl | rfl
    · exact ⟨[], ⟨0, 12, 15, 21⟩, [⟨0, 12, 19, 13⟩], 5, 17, 1, rfl, (fun _ h => absurd h List.not_mem_nil), by decide, by decide, aw_5_12, List.mem_of_getElem? (i := 3) rfl, by decide, Or.inr ⟨dL_thingsIf_15, rfl⟩, dL_thingsIf_17, by decide +kernel, dL_thingsIf_18⟩
    · exact ⟨[⟨0, 12, 15, 21⟩], ⟨0, 12, 19, 13⟩, [], 5, 21, 2, rfl, (by
        intro y hy
        simp only [List.mem_cons, List.not_mem_nil, or_false] at hy
        subst hy
        exact ⟨by decide, eIO, aw_5_12, List.mem_of_getElem? (i := 0) rfl⟩), by decide, by decide, aw_4_1, List.mem_of_getElem? (i := 1) rfl, by decide, Or.inr ⟨dL_thingsIf_19, rfl⟩, dL_thingsIf_21, by decide +kernel, dL_thingsIf_22⟩
  refine zMw_of (by decide +kernel) (Nat.le_of_ble_eq_true rfl) (fun D cT ad sz => ?_)
  show Wm (zTh [(0, 12, 15, 21), (0, 12, 19, 13)]) l (rmx 9 mc ms) RL cL_thingsIf 6 (some .int) D cT ad Lc (zA ad 28 sz) (zZw oL (wpost [eIO, eIA] fI post (pT σ LX)) mc ms D cT ad sz) [(ad 27, oL cT o)] 0 (lv_args 0 [.ref 0, .int p0, .int p1, .int p2, .ref 27]) [] σ 0 0
  refine wm_aload 2 rfl dL_thingsIf_0 rfl ?_
  refine wm_iconst (v := 0) 3 rfl dL_thingsIf_2 (by decide) ?_
  refine wm_aload_n 4 rfl dL_thingsIf_3 rfl rfl ?_
  refine wm_iload_n 5 rfl dL_thingsIf_4 rfl rfl ?_
  refine wm_iload_n 6 rfl dL_thingsIf_5 rfl rfl ?_
  refine wm_iload_n 7 rfl dL_thingsIf_6 rfl rfl ?_
  refine wmw_callVi 10 rfl dL_thingsIf_7 hM ca_X4_thingsIf cv_X4_thingsIf rfl aw_25_20 rfl rfl ⟨Nat.le_of_ble_eq_true rfl, Nat.le_of_ble_eq_true rfl⟩ (Nat.le_of_ble_eq_true rfl) ⟨Nat.le_of_eq (Nat.zero_add _), Nat.le_of_eq (Nat.zero_add _)⟩ ⟨Nat.le_of_eq (Nat.zero_add _), Nat.le_of_eq (Nat.zero_add _)⟩ hx (fun r σ1 hp => ?_)
  refine wm_i2l 11 rfl dL_thingsIf_10 ?_
  refine wmw_last 12 rfl dL_thingsIf_11 vin01 ?_
  refine wm_goto 23 (by decide) dL_thingsIf_12 ?_
  refine wm_iconst (v := 0) 24 rfl dL_thingsIf_23 (by decide) ?_
  exact wmw_iret dL_thingsIf_24 (wpost_ok hp rfl) (Nat.le_of_eq (Nat.zero_add _)) (Nat.le_of_eq (Nat.zero_add _))
theorem w_thingsIfAllowed (l : Launch) {σ : Sg} {post : Int32 → Sg → Prop} {LX : List (String × Prop)} {mc ms : Nat} (p0 p1 : Int32) (hM : xMi l yX4_thingsIfAllowed cX4_thingsIfAllowed 4 .int 8 mc ms Lc [.ref 0, .int p0, .int p1] σ post (pT σ LX)) (hL : ∀ E ∈ LX.map Prod.fst, E ∈ [eIO, eNS]) (o : Nat → Int64) : zMw l yL_thingsIfAllowed cL_thingsIfAllowed 5 [(0, 10, 13, 21), (0, 10, 17, 46)] 9 mc ms oL [.ref 0, .int p0, .int p1, .ref 27] σ o (wpost [eIO, eNS] fI post (pT σ LX)) := by
  have hx : ∀ E σ1, pT σ LX E σ1 → ∃ v, zHd cL_thingsIfAllowed [(0, 10, 13, 21), (0, 10, 17, 46)] 5 5 E v ∧ wpost [eIO, eNS] fI post (pT σ LX) v (σ1, o) := by
    intro E σ1 hE
    refine ⟨cdL [eIO, eNS] E, ?_, wpost_thr 0 (by decide) hE⟩
    have hm := hL E (thr_mem hE.2)
    simp only [List.mem_cons, List.not_mem_nil, or_false] at hm
    rcases hm with rfl | rfl
    · exact ⟨[], ⟨0, 10, 13, 21⟩, [⟨0, 10, 17, 46⟩], 4, 15, 1, rfl, (fun _ h => absurd h List.not_mem_nil), by decide, by decide, aw_5_12, List.mem_of_getElem? (i := 3) rfl, by decide, Or.inr ⟨dL_thingsIfAllowed_13, rfl⟩, dL_thingsIfAllowed_15, by decide +kernel, dL_thingsIfAllowed_16⟩
    · exact ⟨[⟨0, 10, 13, 21⟩], ⟨0, 10, 17, 46⟩, [], 4, 19, 2, rfl, (by
        intro y hy
        simp only [List.mem_cons, List.not_mem_nil, or_false] at hy
        subst hy
        exact ⟨by decide, eIO, aw_5_12, List.mem_of_getElem? (i := 3) rfl⟩), by decide, by decide, aw_12_19, List.mem_of_getElem? (i := 4) rfl, by decide, Or.inr ⟨dL_thingsIfAllowed_17, rfl⟩, dL_thingsIfAllowed_19, by decide +kernel, dL_thingsIfAllowed_20⟩
  refine zMw_of (by decide +kernel) (Nat.le_of_ble_eq_true rfl) (fun D cT ad sz => ?_)
  show Wm (zTh [(0, 10, 13, 21), (0, 10, 17, 46)]) l (rmx 9 mc ms) RL cL_thingsIfAllowed 5 (some .int) D cT ad Lc (zA ad 28 sz) (zZw oL (wpost [eIO, eNS] fI post (pT σ LX)) mc ms D cT ad sz) [(ad 27, oL cT o)] 0 (lv_args 0 [.ref 0, .int p0, .int p1, .ref 27]) [] σ 0 0
  refine wm_aload_n 1 rfl dL_thingsIfAllowed_0 rfl rfl ?_
  refine wm_iconst (v := 0) 2 rfl dL_thingsIfAllowed_1 (by decide) ?_
  refine wm_aload_n 3 rfl dL_thingsIfAllowed_2 rfl rfl ?_
  refine wm_iload_n 4 rfl dL_thingsIfAllowed_3 rfl rfl ?_
  refine wm_iload_n 5 rfl dL_thingsIfAllowed_4 rfl rfl ?_
  refine wmw_callVi 8 rfl dL_thingsIfAllowed_5 hM ca_X4_thingsIfAllowed cv_X4_thingsIfAllowed rfl aw_26_8 rfl rfl ⟨Nat.le_of_ble_eq_true rfl, Nat.le_of_ble_eq_true rfl⟩ (Nat.le_of_ble_eq_true rfl) ⟨Nat.le_of_eq (Nat.zero_add _), Nat.le_of_eq (Nat.zero_add _)⟩ ⟨Nat.le_of_eq (Nat.zero_add _), Nat.le_of_eq (Nat.zero_add _)⟩ hx (fun r σ1 hp => ?_)
  refine wm_i2l 9 rfl dL_thingsIfAllowed_8 ?_
  refine wmw_last 10 rfl dL_thingsIfAllowed_9 vin01 ?_
  refine wm_goto 21 (by decide) dL_thingsIfAllowed_10 ?_
  refine wm_iconst (v := 0) 22 rfl dL_thingsIfAllowed_21 (by decide) ?_
  exact wmw_iret dL_thingsIfAllowed_22 (wpost_ok hp rfl) (Nat.le_of_eq (Nat.zero_add _)) (Nat.le_of_eq (Nat.zero_add _))
theorem w_weight (l : Launch) {σ : Sg} {post : Int32 → Sg → Prop} {LX : List (String × Prop)} {mc ms : Nat} (p0 : Int32) (hM : xMi l yX4_weight cX4_weight 2 .int 7 mc ms Lc [.ref 0, .int p0] σ post (pT σ LX)) (hL : ∀ E ∈ LX.map Prod.fst, E ∈ [eIO]) (o : Nat → Int64) : zMw l yL_weight cL_weight 4 [(0, 9, 12, 21)] 8 mc ms oL [.ref 0, .int p0, .ref 27] σ o (wpost [eIO] fI post (pT σ LX)) := by
  have hx : ∀ E σ1, pT σ LX E σ1 → ∃ v, zHd cL_weight [(0, 9, 12, 21)] 4 4 E v ∧ wpost [eIO] fI post (pT σ LX) v (σ1, o) := by
    intro E σ1 hE
    refine ⟨cdL [eIO] E, ?_, wpost_thr 0 (by decide) hE⟩
    have hm := hL E (thr_mem hE.2)
    simp only [List.mem_cons, List.not_mem_nil, or_false] at hm
    subst hm
    exact ⟨[], ⟨0, 9, 12, 21⟩, [], 3, 13, 1, rfl, (fun _ h => absurd h List.not_mem_nil), by decide, by decide, aw_5_12, List.mem_of_getElem? (i := 3) rfl, by decide, Or.inl ⟨3, rfl, dL_weight_12, rfl⟩, dL_weight_13, by decide +kernel, dL_weight_14⟩
  refine zMw_of (by decide +kernel) (Nat.le_of_ble_eq_true rfl) (fun D cT ad sz => ?_)
  show Wm (zTh [(0, 9, 12, 21)]) l (rmx 8 mc ms) RL cL_weight 4 (some .int) D cT ad Lc (zA ad 28 sz) (zZw oL (wpost [eIO] fI post (pT σ LX)) mc ms D cT ad sz) [(ad 27, oL cT o)] 0 (lv_args 0 [.ref 0, .int p0, .ref 27]) [] σ 0 0
  refine wm_aload_n 1 rfl dL_weight_0 rfl rfl ?_
  refine wm_iconst (v := 0) 2 rfl dL_weight_1 (by decide) ?_
  refine wm_aload_n 3 rfl dL_weight_2 rfl rfl ?_
  refine wm_iload_n 4 rfl dL_weight_3 rfl rfl ?_
  refine wmw_callVi 7 rfl dL_weight_4 hM ca_X4_weight cv_X4_weight rfl aw_26_19 rfl rfl ⟨Nat.le_of_ble_eq_true rfl, Nat.le_of_ble_eq_true rfl⟩ (Nat.le_of_ble_eq_true rfl) ⟨Nat.le_of_eq (Nat.zero_add _), Nat.le_of_eq (Nat.zero_add _)⟩ ⟨Nat.le_of_eq (Nat.zero_add _), Nat.le_of_eq (Nat.zero_add _)⟩ hx (fun r σ1 hp => ?_)
  refine wm_i2l 8 rfl dL_weight_7 ?_
  refine wmw_last 9 rfl dL_weight_8 vin01 ?_
  refine wm_goto 15 (by decide) dL_weight_9 ?_
  refine wm_iconst (v := 0) 16 rfl dL_weight_15 (by decide) ?_
  exact wmw_iret dL_weight_16 (wpost_ok hp rfl) (Nat.le_of_eq (Nat.zero_add _)) (Nat.le_of_eq (Nat.zero_add _))
theorem w_fact (l : Launch) {σ : Sg} {post : Int32 → Sg → Prop} {LX : List (String × Prop)} {mc ms : Nat} (p0 p1 : Int32) (hM : xMi l yX4_fact cX4_fact 4 .int 8 mc ms Lc [.ref 0, .int p0, .int p1] σ post (pT σ LX)) (hL : ∀ E ∈ LX.map Prod.fst, E ∈ [eIO, eNS]) (o : Nat → Int64) : zMw l yL_fact cL_fact 5 [(0, 10, 13, 21), (0, 10, 17, 46)] 9 mc ms oL [.ref 0, .int p0, .int p1, .ref 27] σ o (wpost [eIO, eNS] fI post (pT σ LX)) := by
  have hx : ∀ E σ1, pT σ LX E σ1 → ∃ v, zHd cL_fact [(0, 10, 13, 21), (0, 10, 17, 46)] 5 5 E v ∧ wpost [eIO, eNS] fI post (pT σ LX) v (σ1, o) := by
    intro E σ1 hE
    refine ⟨cdL [eIO, eNS] E, ?_, wpost_thr 0 (by decide) hE⟩
    have hm := hL E (thr_mem hE.2)
    simp only [List.mem_cons, List.not_mem_nil, or_false] at hm
    rcases hm with rfl | rfl
    · exact ⟨[], ⟨0, 10, 13, 21⟩, [⟨0, 10, 17, 46⟩], 4, 15, 1, rfl, (fun _ h => absurd h List.not_mem_nil), by decide, by decide, aw_5_12, List.mem_of_getElem? (i := 3) rfl, by decide, Or.inr ⟨dL_fact_13, rfl⟩, dL_fact_15, by decide +kernel, dL_fact_16⟩
    · exact ⟨[⟨0, 10, 13, 21⟩], ⟨0, 10, 17, 46⟩, [], 4, 19, 2, rfl, (by
        intro y hy
        simp only [List.mem_cons, List.not_mem_nil, or_false] at hy
        subst hy
        exact ⟨by decide, eIO, aw_5_12, List.mem_of_getElem? (i := 3) rfl⟩), by decide, by decide, aw_12_19, List.mem_of_getElem? (i := 4) rfl, by decide, Or.inr ⟨dL_fact_17, rfl⟩, dL_fact_19, by decide +kernel, dL_fact_20⟩
  refine zMw_of (by decide +kernel) (Nat.le_of_ble_eq_true rfl) (fun D cT ad sz => ?_)
  show Wm (zTh [(0, 10, 13, 21), (0, 10, 17, 46)]) l (rmx 9 mc ms) RL cL_fact 5 (some .int) D cT ad Lc (zA ad 28 sz) (zZw oL (wpost [eIO, eNS] fI post (pT σ LX)) mc ms D cT ad sz) [(ad 27, oL cT o)] 0 (lv_args 0 [.ref 0, .int p0, .int p1, .ref 27]) [] σ 0 0
  refine wm_aload_n 1 rfl dL_fact_0 rfl rfl ?_
  refine wm_iconst (v := 0) 2 rfl dL_fact_1 (by decide) ?_
  refine wm_aload_n 3 rfl dL_fact_2 rfl rfl ?_
  refine wm_iload_n 4 rfl dL_fact_3 rfl rfl ?_
  refine wm_iload_n 5 rfl dL_fact_4 rfl rfl ?_
  refine wmw_callVi 8 rfl dL_fact_5 hM ca_X4_fact cv_X4_fact rfl aw_27_14 rfl rfl ⟨Nat.le_of_ble_eq_true rfl, Nat.le_of_ble_eq_true rfl⟩ (Nat.le_of_ble_eq_true rfl) ⟨Nat.le_of_eq (Nat.zero_add _), Nat.le_of_eq (Nat.zero_add _)⟩ ⟨Nat.le_of_eq (Nat.zero_add _), Nat.le_of_eq (Nat.zero_add _)⟩ hx (fun r σ1 hp => ?_)
  refine wm_i2l 9 rfl dL_fact_8 ?_
  refine wmw_last 10 rfl dL_fact_9 vin01 ?_
  refine wm_goto 21 (by decide) dL_fact_10 ?_
  refine wm_iconst (v := 0) 22 rfl dL_fact_21 (by decide) ?_
  exact wmw_iret dL_fact_22 (wpost_ok hp rfl) (Nat.le_of_eq (Nat.zero_add _)) (Nat.le_of_eq (Nat.zero_add _))
theorem w_factByPairs (l : Launch) {σ : Sg} {post : Int32 → Sg → Prop} {LX : List (String × Prop)} {mc ms : Nat} (p0 p1 : Int32) (hM : xMi l yX4_factByPairs cX4_factByPairs 4 .int 8 mc ms Lc [.ref 0, .int p0, .int p1] σ post (pT σ LX)) (hL : ∀ E ∈ LX.map Prod.fst, E ∈ [eIO, eNS]) (o : Nat → Int64) : zMw l yL_factByPairs cL_factByPairs 5 [(0, 10, 13, 21), (0, 10, 17, 46)] 9 mc ms oL [.ref 0, .int p0, .int p1, .ref 27] σ o (wpost [eIO, eNS] fI post (pT σ LX)) := by
  have hx : ∀ E σ1, pT σ LX E σ1 → ∃ v, zHd cL_factByPairs [(0, 10, 13, 21), (0, 10, 17, 46)] 5 5 E v ∧ wpost [eIO, eNS] fI post (pT σ LX) v (σ1, o) := by
    intro E σ1 hE
    refine ⟨cdL [eIO, eNS] E, ?_, wpost_thr 0 (by decide) hE⟩
    have hm := hL E (thr_mem hE.2)
    simp only [List.mem_cons, List.not_mem_nil, or_false] at hm
    rcases hm with rfl | rfl
    · exact ⟨[], ⟨0, 10, 13, 21⟩, [⟨0, 10, 17, 46⟩], 4, 15, 1, rfl, (fun _ h => absurd h List.not_mem_nil), by decide, by decide, aw_5_12, List.mem_of_getElem? (i := 3) rfl, by decide, Or.inr ⟨dL_factByPairs_13, rfl⟩, dL_factByPairs_15, by decide +kernel, dL_factByPairs_16⟩
    · exact ⟨[⟨0, 10, 13, 21⟩], ⟨0, 10, 17, 46⟩, [], 4, 19, 2, rfl, (by
        intro y hy
        simp only [List.mem_cons, List.not_mem_nil, or_false] at hy
        subst hy
        exact ⟨by decide, eIO, aw_5_12, List.mem_of_getElem? (i := 3) rfl⟩), by decide, by decide, aw_12_19, List.mem_of_getElem? (i := 4) rfl, by decide, Or.inr ⟨dL_factByPairs_17, rfl⟩, dL_factByPairs_19, by decide +kernel, dL_factByPairs_20⟩
  refine zMw_of (by decide +kernel) (Nat.le_of_ble_eq_true rfl) (fun D cT ad sz => ?_)
  show Wm (zTh [(0, 10, 13, 21), (0, 10, 17, 46)]) l (rmx 9 mc ms) RL cL_factByPairs 5 (some .int) D cT ad Lc (zA ad 28 sz) (zZw oL (wpost [eIO, eNS] fI post (pT σ LX)) mc ms D cT ad sz) [(ad 27, oL cT o)] 0 (lv_args 0 [.ref 0, .int p0, .int p1, .ref 27]) [] σ 0 0
  refine wm_aload_n 1 rfl dL_factByPairs_0 rfl rfl ?_
  refine wm_iconst (v := 0) 2 rfl dL_factByPairs_1 (by decide) ?_
  refine wm_aload_n 3 rfl dL_factByPairs_2 rfl rfl ?_
  refine wm_iload_n 4 rfl dL_factByPairs_3 rfl rfl ?_
  refine wm_iload_n 5 rfl dL_factByPairs_4 rfl rfl ?_
  refine wmw_callVi 8 rfl dL_factByPairs_5 hM ca_X4_factByPairs cv_X4_factByPairs rfl aw_29_1 rfl rfl ⟨Nat.le_of_ble_eq_true rfl, Nat.le_of_ble_eq_true rfl⟩ (Nat.le_of_ble_eq_true rfl) ⟨Nat.le_of_eq (Nat.zero_add _), Nat.le_of_eq (Nat.zero_add _)⟩ ⟨Nat.le_of_eq (Nat.zero_add _), Nat.le_of_eq (Nat.zero_add _)⟩ hx (fun r σ1 hp => ?_)
  refine wm_i2l 9 rfl dL_factByPairs_8 ?_
  refine wmw_last 10 rfl dL_factByPairs_9 vin01 ?_
  refine wm_goto 21 (by decide) dL_factByPairs_10 ?_
  refine wm_iconst (v := 0) 22 rfl dL_factByPairs_21 (by decide) ?_
  exact wmw_iret dL_factByPairs_22 (wpost_ok hp rfl) (Nat.le_of_eq (Nat.zero_add _)) (Nat.le_of_eq (Nat.zero_add _))
theorem w_factFrom (l : Launch) {σ : Sg} {post : Int32 → Sg → Prop} {LX : List (String × Prop)} {mc ms : Nat} (p0 p1 : Int32) (hM : xMi l yX4_factFrom cX4_factFrom 4 .int 8 mc ms Lc [.ref 0, .int p0, .int p1] σ post (pT σ LX)) (hL : ∀ E ∈ LX.map Prod.fst, E ∈ [eIO, eNS]) (o : Nat → Int64) : zMw l yL_factFrom cL_factFrom 5 [(0, 10, 13, 21), (0, 10, 17, 46)] 9 mc ms oL [.ref 0, .int p0, .int p1, .ref 27] σ o (wpost [eIO, eNS] fI post (pT σ LX)) := by
  have hx : ∀ E σ1, pT σ LX E σ1 → ∃ v, zHd cL_factFrom [(0, 10, 13, 21), (0, 10, 17, 46)] 5 5 E v ∧ wpost [eIO, eNS] fI post (pT σ LX) v (σ1, o) := by
    intro E σ1 hE
    refine ⟨cdL [eIO, eNS] E, ?_, wpost_thr 0 (by decide) hE⟩
    have hm := hL E (thr_mem hE.2)
    simp only [List.mem_cons, List.not_mem_nil, or_false] at hm
    rcases hm with rfl | rfl
    · exact ⟨[], ⟨0, 10, 13, 21⟩, [⟨0, 10, 17, 46⟩], 4, 15, 1, rfl, (fun _ h => absurd h List.not_mem_nil), by decide, by decide, aw_5_12, List.mem_of_getElem? (i := 3) rfl, by decide, Or.inr ⟨dL_factFrom_13, rfl⟩, dL_factFrom_15, by decide +kernel, dL_factFrom_16⟩
    · exact ⟨[⟨0, 10, 13, 21⟩], ⟨0, 10, 17, 46⟩, [], 4, 19, 2, rfl, (by
        intro y hy
        simp only [List.mem_cons, List.not_mem_nil, or_false] at hy
        subst hy
        exact ⟨by decide, eIO, aw_5_12, List.mem_of_getElem? (i := 3) rfl⟩), by decide, by decide, aw_12_19, List.mem_of_getElem? (i := 4) rfl, by decide, Or.inr ⟨dL_factFrom_17, rfl⟩, dL_factFrom_19, by decide +kernel, dL_factFrom_20⟩
  refine zMw_of (by decide +kernel) (Nat.le_of_ble_eq_true rfl) (fun D cT ad sz => ?_)
  show Wm (zTh [(0, 10, 13, 21), (0, 10, 17, 46)]) l (rmx 9 mc ms) RL cL_factFrom 5 (some .int) D cT ad Lc (zA ad 28 sz) (zZw oL (wpost [eIO, eNS] fI post (pT σ LX)) mc ms D cT ad sz) [(ad 27, oL cT o)] 0 (lv_args 0 [.ref 0, .int p0, .int p1, .ref 27]) [] σ 0 0
  refine wm_aload_n 1 rfl dL_factFrom_0 rfl rfl ?_
  refine wm_iconst (v := 0) 2 rfl dL_factFrom_1 (by decide) ?_
  refine wm_aload_n 3 rfl dL_factFrom_2 rfl rfl ?_
  refine wm_iload_n 4 rfl dL_factFrom_3 rfl rfl ?_
  refine wm_iload_n 5 rfl dL_factFrom_4 rfl rfl ?_
  refine wmw_callVi 8 rfl dL_factFrom_5 hM ca_X4_factFrom cv_X4_factFrom rfl aw_30_1 rfl rfl ⟨Nat.le_of_ble_eq_true rfl, Nat.le_of_ble_eq_true rfl⟩ (Nat.le_of_ble_eq_true rfl) ⟨Nat.le_of_eq (Nat.zero_add _), Nat.le_of_eq (Nat.zero_add _)⟩ ⟨Nat.le_of_eq (Nat.zero_add _), Nat.le_of_eq (Nat.zero_add _)⟩ hx (fun r σ1 hp => ?_)
  refine wm_i2l 9 rfl dL_factFrom_8 ?_
  refine wmw_last 10 rfl dL_factFrom_9 vin01 ?_
  refine wm_goto 21 (by decide) dL_factFrom_10 ?_
  refine wm_iconst (v := 0) 22 rfl dL_factFrom_21 (by decide) ?_
  exact wmw_iret dL_factFrom_22 (wpost_ok hp rfl) (Nat.le_of_eq (Nat.zero_add _)) (Nat.le_of_eq (Nat.zero_add _))
theorem w_agreement (l : Launch) {σ : Sg} {post : UInt32 → Sg → Prop} {LX : List (String × Prop)} {mc ms : Nat} (p0 p1 : Int32) (hM : xMf l yX4_agreement cX4_agreement 8 8 mc ms Lc [.ref 0, .int p0, .int p1] σ post (pT σ LX)) (hL : ∀ E ∈ LX.map Prod.fst, E ∈ [eIO, eNS]) (hz : ∀ v σ1, post v σ1 → nnF v) (o : Nat → UInt64) : zMw l yL_agreement cL_agreement 5 [(0, 10, 13, 21), (0, 10, 17, 46)] 9 mc ms oD [.ref 0, .int p0, .int p1, .ref 27] σ o (wpost [eIO, eNS] fF post (pT σ LX)) := by
  have hx : ∀ E σ1, pT σ LX E σ1 → ∃ v, zHd cL_agreement [(0, 10, 13, 21), (0, 10, 17, 46)] 5 5 E v ∧ wpost [eIO, eNS] fF post (pT σ LX) v (σ1, o) := by
    intro E σ1 hE
    refine ⟨cdL [eIO, eNS] E, ?_, wpost_thr 0 (by decide) hE⟩
    have hm := hL E (thr_mem hE.2)
    simp only [List.mem_cons, List.not_mem_nil, or_false] at hm
    rcases hm with rfl | rfl
    · exact ⟨[], ⟨0, 10, 13, 21⟩, [⟨0, 10, 17, 46⟩], 4, 15, 1, rfl, (fun _ h => absurd h List.not_mem_nil), by decide, by decide, aw_5_12, List.mem_of_getElem? (i := 3) rfl, by decide, Or.inr ⟨dL_agreement_13, rfl⟩, dL_agreement_15, by decide +kernel, dL_agreement_16⟩
    · exact ⟨[⟨0, 10, 13, 21⟩], ⟨0, 10, 17, 46⟩, [], 4, 19, 2, rfl, (by
        intro y hy
        simp only [List.mem_cons, List.not_mem_nil, or_false] at hy
        subst hy
        exact ⟨by decide, eIO, aw_5_12, List.mem_of_getElem? (i := 3) rfl⟩), by decide, by decide, aw_12_19, List.mem_of_getElem? (i := 4) rfl, by decide, Or.inr ⟨dL_agreement_17, rfl⟩, dL_agreement_19, by decide +kernel, dL_agreement_20⟩
  refine zMw_of (by decide +kernel) (Nat.le_of_ble_eq_true rfl) (fun D cT ad sz => ?_)
  show Wm (zTh [(0, 10, 13, 21), (0, 10, 17, 46)]) l (rmx 9 mc ms) RL cL_agreement 5 (some .int) D cT ad Lc (zA ad 28 sz) (zZw oD (wpost [eIO, eNS] fF post (pT σ LX)) mc ms D cT ad sz) [(ad 27, oD cT o)] 0 (lv_args 0 [.ref 0, .int p0, .int p1, .ref 27]) [] σ 0 0
  refine wm_aload_n 1 rfl dL_agreement_0 rfl rfl ?_
  refine wm_iconst (v := 0) 2 rfl dL_agreement_1 (by decide) ?_
  refine wm_aload_n 3 rfl dL_agreement_2 rfl rfl ?_
  refine wm_iload_n 4 rfl dL_agreement_3 rfl rfl ?_
  refine wm_iload_n 5 rfl dL_agreement_4 rfl rfl ?_
  refine wmw_callVf 8 rfl dL_agreement_5 hM ca_X4_agreement cv_X4_agreement rfl aw_30_12 rfl rfl ⟨Nat.le_of_ble_eq_true rfl, Nat.le_of_ble_eq_true rfl⟩ (Nat.le_of_ble_eq_true rfl) ⟨Nat.le_of_eq (Nat.zero_add _), Nat.le_of_eq (Nat.zero_add _)⟩ ⟨Nat.le_of_eq (Nat.zero_add _), Nat.le_of_eq (Nat.zero_add _)⟩ hx (fun r σ1 hp => ?_)
  refine wm_f2d 9 rfl dL_agreement_8 (hz _ _ hp).1 ?_
  refine wmw_dast 10 rfl dL_agreement_9 vin01 ?_
  refine wm_goto 21 (by decide) dL_agreement_10 ?_
  refine wm_iconst (v := 0) 22 rfl dL_agreement_21 (by decide) ?_
  exact wmw_iret dL_agreement_22 (wpost_ok hp ⟨hz _ _ hp, rfl⟩) (Nat.le_of_eq (Nat.zero_add _)) (Nat.le_of_eq (Nat.zero_add _))
theorem w_setLimit (l : Launch) {σ : Sg} {post : Int32 → Sg → Prop} {LX : List (String × Prop)} {mc ms : Nat} (p0 : Int32) (hM : xMi l yX4_setLimit cX4_setLimit 3 .int 7 mc ms Lc [.ref 0, .int p0] σ post (pT σ LX)) (hL : ∀ E ∈ LX.map Prod.fst, E ∈ [eIA]) (o : Nat → Int64) : zMw l yL_setLimit cL_setLimit 4 [(0, 9, 12, 13)] 8 mc ms oL [.ref 0, .int p0, .ref 27] σ o (wpost [eIA] fI post (pT σ LX)) := by
  have hx : ∀ E σ1, pT σ LX E σ1 → ∃ v, zHd cL_setLimit [(0, 9, 12, 13)] 4 4 E v ∧ wpost [eIA] fI post (pT σ LX) v (σ1, o) := by
    intro E σ1 hE
    refine ⟨cdL [eIA] E, ?_, wpost_thr 0 (by decide) hE⟩
    have hm := hL E (thr_mem hE.2)
    simp only [List.mem_cons, List.not_mem_nil, or_false] at hm
    subst hm
    exact ⟨[], ⟨0, 9, 12, 13⟩, [], 3, 13, 1, rfl, (fun _ h => absurd h List.not_mem_nil), by decide, by decide, aw_4_1, List.mem_of_getElem? (i := 1) rfl, by decide, Or.inl ⟨3, rfl, dL_setLimit_12, rfl⟩, dL_setLimit_13, by decide +kernel, dL_setLimit_14⟩
  refine zMw_of (by decide +kernel) (Nat.le_of_ble_eq_true rfl) (fun D cT ad sz => ?_)
  show Wm (zTh [(0, 9, 12, 13)]) l (rmx 8 mc ms) RL cL_setLimit 4 (some .int) D cT ad Lc (zA ad 28 sz) (zZw oL (wpost [eIA] fI post (pT σ LX)) mc ms D cT ad sz) [(ad 27, oL cT o)] 0 (lv_args 0 [.ref 0, .int p0, .ref 27]) [] σ 0 0
  refine wm_aload_n 1 rfl dL_setLimit_0 rfl rfl ?_
  refine wm_iconst (v := 0) 2 rfl dL_setLimit_1 (by decide) ?_
  refine wm_aload_n 3 rfl dL_setLimit_2 rfl rfl ?_
  refine wm_iload_n 4 rfl dL_setLimit_3 rfl rfl ?_
  refine wmw_callVi 7 rfl dL_setLimit_4 hM ca_X4_setLimit cv_X4_setLimit rfl aw_30_23 rfl rfl ⟨Nat.le_of_ble_eq_true rfl, Nat.le_of_ble_eq_true rfl⟩ (Nat.le_of_ble_eq_true rfl) ⟨Nat.le_of_eq (Nat.zero_add _), Nat.le_of_eq (Nat.zero_add _)⟩ ⟨Nat.le_of_eq (Nat.zero_add _), Nat.le_of_eq (Nat.zero_add _)⟩ hx (fun r σ1 hp => ?_)
  refine wm_i2l 8 rfl dL_setLimit_7 ?_
  refine wmw_last 9 rfl dL_setLimit_8 vin01 ?_
  refine wm_goto 15 (by decide) dL_setLimit_9 ?_
  refine wm_iconst (v := 0) 16 rfl dL_setLimit_15 (by decide) ?_
  exact wmw_iret dL_setLimit_16 (wpost_ok hp rfl) (Nat.le_of_eq (Nat.zero_add _)) (Nat.le_of_eq (Nat.zero_add _))
theorem w_isGhost (l : Launch) {σ : Sg} {post : Int32 → Sg → Prop} {LX : List (String × Prop)} {mc ms : Nat} (p0 : Int32) (hM : xMi l yX4_isGhost cX4_isGhost 2 .boolean 8 mc ms Lc [.ref 0, .int p0] σ post (pT σ LX)) (hL : ∀ E ∈ LX.map Prod.fst, E ∈ [eIO]) (hz : ∀ v σ1, post v σ1 → v = 0 ∨ v = 1) (o : Nat → Int64) : zMw l yL_isGhost cL_isGhost 4 [(0, 16, 19, 21)] 9 mc ms oL [.ref 0, .int p0, .ref 27] σ o (wpost [eIO] fZ post (pT σ LX)) := by
  have hx : ∀ E σ1, pT σ LX E σ1 → ∃ v, zHd cL_isGhost [(0, 16, 19, 21)] 4 4 E v ∧ wpost [eIO] fZ post (pT σ LX) v (σ1, o) := by
    intro E σ1 hE
    refine ⟨cdL [eIO] E, ?_, wpost_thr 0 (by decide) hE⟩
    have hm := hL E (thr_mem hE.2)
    simp only [List.mem_cons, List.not_mem_nil, or_false] at hm
    subst hm
    exact ⟨[], ⟨0, 16, 19, 21⟩, [], 3, 20, 1, rfl, (fun _ h => absurd h List.not_mem_nil), by decide, by decide, aw_5_12, List.mem_of_getElem? (i := 3) rfl, by decide, Or.inl ⟨3, rfl, dL_isGhost_19, rfl⟩, dL_isGhost_20, by decide +kernel, dL_isGhost_21⟩
  refine zMw_of (by decide +kernel) (Nat.le_of_ble_eq_true rfl) (fun D cT ad sz => ?_)
  show Wm (zTh [(0, 16, 19, 21)]) l (rmx 9 mc ms) RL cL_isGhost 4 (some .int) D cT ad Lc (zA ad 28 sz) (zZw oL (wpost [eIO] fZ post (pT σ LX)) mc ms D cT ad sz) [(ad 27, oL cT o)] 0 (lv_args 0 [.ref 0, .int p0, .ref 27]) [] σ 0 0
  refine wm_aload_n 1 rfl dL_isGhost_0 rfl rfl ?_
  refine wm_iconst (v := 0) 2 rfl dL_isGhost_1 (by decide) ?_
  refine wm_aload_n 3 rfl dL_isGhost_2 rfl rfl ?_
  refine wm_iload_n 4 rfl dL_isGhost_3 rfl rfl ?_
  refine wmw_callVi 7 rfl dL_isGhost_4 hM ca_X4_isGhost cv_X4_isGhost rfl aw_31_10 rfl rfl ⟨Nat.le_of_ble_eq_true rfl, Nat.le_of_ble_eq_true rfl⟩ (Nat.le_of_ble_eq_true rfl) ⟨Nat.le_of_eq (Nat.zero_add _), Nat.le_of_eq (Nat.zero_add _)⟩ ⟨Nat.le_of_eq (Nat.zero_add _), Nat.le_of_eq (Nat.zero_add _)⟩ hx (fun r σ1 hp => ?_)
  refine wm_if_eq 14 10 rfl (by decide) dL_isGhost_7 (fun c9 => ?_) (fun c9 => ?_)
  · refine wm_lconst (v := 0) 15 rfl dL_isGhost_14 (by decide) ?_
    refine wmw_last 16 rfl dL_isGhost_15 vin01 ?_
    refine wm_goto 22 (by decide) dL_isGhost_16 ?_
    refine wm_iconst (v := 0) 23 rfl dL_isGhost_22 (by decide) ?_
    exact wmw_iret dL_isGhost_23 (wpost_ok hp ⟨Or.inl c9, by rw [show r = 0 from c9]; rfl⟩) (Nat.le_of_eq (Nat.zero_add _)) (Nat.le_of_eq (Nat.zero_add _))
  · refine wm_lconst (v := 1) 11 rfl dL_isGhost_10 (by decide) ?_
    refine wm_goto 15 (by decide) dL_isGhost_11 ?_
    refine wmw_last 16 rfl dL_isGhost_15 vin01 ?_
    refine wm_goto 22 (by decide) dL_isGhost_16 ?_
    refine wm_iconst (v := 0) 23 rfl dL_isGhost_22 (by decide) ?_
    exact wmw_iret dL_isGhost_23 (wpost_ok hp ⟨hz _ _ hp, by rw [(hz _ _ hp).resolve_left c9]; rfl⟩) (Nat.le_of_eq (Nat.zero_add _)) (Nat.le_of_eq (Nat.zero_add _))
theorem w_pass (l : Launch) {σ : Sg} {post : Int32 → Sg → Prop} {LX : List (String × Prop)} {mc ms : Nat} (p0 : Int32) (hM : xMi l yX4_pass cX4_pass 2 .int 7 mc ms Lc [.ref 0, .int p0] σ post (pT σ LX)) (hL : ∀ E ∈ LX.map Prod.fst, E ∈ [eIA]) (o : Nat → Int64) : zMw l yL_pass cL_pass 4 [(0, 9, 12, 13)] 8 mc ms oL [.ref 0, .int p0, .ref 27] σ o (wpost [eIA] fI post (pT σ LX)) := by
  have hx : ∀ E σ1, pT σ LX E σ1 → ∃ v, zHd cL_pass [(0, 9, 12, 13)] 4 4 E v ∧ wpost [eIA] fI post (pT σ LX) v (σ1, o) := by
    intro E σ1 hE
    refine ⟨cdL [eIA] E, ?_, wpost_thr 0 (by decide) hE⟩
    have hm := hL E (thr_mem hE.2)
    simp only [List.mem_cons, List.not_mem_nil, or_false] at hm
    subst hm
    exact ⟨[], ⟨0, 9, 12, 13⟩, [], 3, 13, 1, rfl, (fun _ h => absurd h List.not_mem_nil), by decide, by decide, aw_4_1, List.mem_of_getElem? (i := 1) rfl, by decide, Or.inl ⟨3, rfl, dL_pass_12, rfl⟩, dL_pass_13, by decide +kernel, dL_pass_14⟩
  refine zMw_of (by decide +kernel) (Nat.le_of_ble_eq_true rfl) (fun D cT ad sz => ?_)
  show Wm (zTh [(0, 9, 12, 13)]) l (rmx 8 mc ms) RL cL_pass 4 (some .int) D cT ad Lc (zA ad 28 sz) (zZw oL (wpost [eIA] fI post (pT σ LX)) mc ms D cT ad sz) [(ad 27, oL cT o)] 0 (lv_args 0 [.ref 0, .int p0, .ref 27]) [] σ 0 0
  refine wm_aload_n 1 rfl dL_pass_0 rfl rfl ?_
  refine wm_iconst (v := 0) 2 rfl dL_pass_1 (by decide) ?_
  refine wm_aload_n 3 rfl dL_pass_2 rfl rfl ?_
  refine wm_iload_n 4 rfl dL_pass_3 rfl rfl ?_
  refine wmw_callVi 7 rfl dL_pass_4 hM ca_X4_pass cv_X4_pass rfl aw_33_17 rfl rfl ⟨Nat.le_of_ble_eq_true rfl, Nat.le_of_ble_eq_true rfl⟩ (Nat.le_of_ble_eq_true rfl) ⟨Nat.le_of_eq (Nat.zero_add _), Nat.le_of_eq (Nat.zero_add _)⟩ ⟨Nat.le_of_eq (Nat.zero_add _), Nat.le_of_eq (Nat.zero_add _)⟩ hx (fun r σ1 hp => ?_)
  refine wm_i2l 8 rfl dL_pass_7 ?_
  refine wmw_last 9 rfl dL_pass_8 vin01 ?_
  refine wm_goto 15 (by decide) dL_pass_9 ?_
  refine wm_iconst (v := 0) 16 rfl dL_pass_15 (by decide) ?_
  exact wmw_iret dL_pass_16 (wpost_ok hp rfl) (Nat.le_of_eq (Nat.zero_add _)) (Nat.le_of_eq (Nat.zero_add _))
