/-! CALLS over the int memory -/
section CALLS
variable {TB : Method → Code → Prop} {l : Launch} {R : Room} {own : String} {cc : ByteArray} {nL : Nat} {ret : Option FieldType} {D : va_G} {cT ad : Nat → Nat} {L : List Dsc} {A : Nat → Prop} {Z : List Frame → Array Value → State → State → Prop} {X : va_W} {pc : Nat} {ls : List (Nat × Value)} {σ : Sg} {k n : Nat}
variable {y : MethodName} {bytes : ByteArray} {maxL h index b ci : Nat} {as rest : List Value}
theorem wm_callVi {ty : FieldType} {post : Int32 → Sg → Prop} {C : String} {T : u_T} {N : Nat} {fs : List (Option Nat)} (q : Nat) (hq : pc + 3 = q) (d : decode cc pc = .ok (.invokevirtual index, 3)) (hM : cMi l y bytes maxL ty h L (.ref b :: as) σ post) (hc : zCal y bytes maxL (some ty) as.length) (hv : zCaV C y) (hC : y.cls = C) (hl9 : Cond.methodLink own index y ∈ zAll) (hL : L[b]? = some (.inr (.inr (ci, fs)))) (hci : vwCl[ci]? = some (C, T, N)) (hR : h + 1 ≤ R.frames ∧ 8 + (maxL + 11) + 36 * h ≤ R.locals) (hcat : (rest.map fun v => v.category).sum ≤ 8) (hk : k ≤ R.cells ∧ n ≤ R.slots) (kk : ∀ (r : Int32) (σ1 : Sg), post r σ1 → Wm TB l R own cc nL ret D cT ad L A Z X q ls (.int r :: rest) σ1 k n) : Wm TB l R own cc nL ret D cT ad L A Z X pc ls (as.reverse ++ .ref b :: rest) σ k n := by
  subst hq
  intro p e s m args below meth c H locs la CC w hl
  obtain ⟨hx, hb, hml, hown, hts, hr, hlk, hTB⟩ := id CC
  have hG : GoodIn zAll (wsV own index C y (Cond.code y bytes maxL (some ty) :: zAll)) := zGoodIn (fun w9 h9 => by
    rcases List.mem_append.mp h9 with h9 | h9
    · simp only [List.mem_cons, List.not_mem_nil, or_false] at h9
      rcases h9 with rfl | rfl | rfl | rfl
      · exact hl9
      · exact hv.1
      · exact hv.2
      · rw [← hC]; exact hc.2.1
    · exact zwords hc w9 h9)
  refine va_calli (va_runV (As := as.map (zv ad)) (rest := rest.map (zv ad)) ⟨hx, hb, hml, hown, hts⟩ (hM D cT ad H.size) (cwV as.length hts hG rfl rfl rfl ⟨hC, hc.2.2.1, hc.2.2.2.1, hc.2.2.2.2⟩ hR) ⟨zpre_blind, va_recv w.2.1 w.2.2.1 hci (zw_get X hL), fun U hU hW => zpre_of (.ref b :: as) w hU hW⟩ rfl (by simp) hl.1 (by simp [zv]) (lv_room (by rw [zcats]; exact hcat)) d hk) w.2.2.2.2 (fun q _ h => zfree w q h) (zfree w) (fun r σ1 t H1 locs1 ht hvm hw hB hz1 hk1 hS => ?_)
  exact kk r σ1 hw p e s m args below meth c H1 locs1 la CC (zjoin w ht hB hk1 hS) hl

theorem wm_callSi {ty : FieldType} {post : Int32 → Sg → Prop} (q : Nat) (hq : pc + 3 = q) (d : decode cc pc = .ok (.invokestatic index, 3)) (hM : cMi l y bytes maxL ty h L as σ post) (hc : zCal y bytes maxL (some ty) as.length) (hs : Cond.static y ∈ zAll) (hl9 : Cond.methodLink own index y ∈ zAll) (hR : h + 1 ≤ R.frames ∧ 8 + (maxL + 11) + 36 * h ≤ R.locals) (hcat : (rest.map fun v => v.category).sum ≤ 8) (hk : k ≤ R.cells ∧ n ≤ R.slots) (kk : ∀ (r : Int32) (σ1 : Sg), post r σ1 → Wm TB l R own cc nL ret D cT ad L A Z X q ls (.int r :: rest) σ1 k n) : Wm TB l R own cc nL ret D cT ad L A Z X pc ls (as.reverse ++ rest) σ k n := by
  subst hq
  intro p e s m args below meth c H locs la CC w hl
  obtain ⟨hx, hb, hml, hown, hts, hr, hlk, hTB⟩ := id CC
  have hG : GoodIn zAll (va_wsS own index y (Cond.code y bytes maxL (some ty) :: zAll)) := zGoodIn (fun w9 h9 => by
    rcases List.mem_append.mp h9 with h9 | h9
    · simp only [List.mem_cons, List.not_mem_nil, or_false] at h9
      rcases h9 with rfl | rfl | rfl
      · exact hl9
      · exact hs
      · exact hc.2.1
    · exact zwords hc w9 h9)
  refine va_calli (va_runS (As := as.map (zv ad)) (rest := rest.map (zv ad)) ⟨hx, hb, hml, hown, hts⟩ (hM D cT ad H.size) (va_cwS as.length hts hG rfl rfl rfl ⟨hc.2.2.1, hc.2.2.2.1, hc.2.2.2.2⟩ hR) ⟨zpre_blind, fun U hU hW => zpre_of as w hU hW⟩ rfl (by simp) hl.1 (by simp) (lv_room (by rw [zcats]; exact hcat)) d hk) w.2.2.2.2 (fun q _ h => zfree w q h) (zfree w) (fun r σ1 t H1 locs1 ht hvm hw hB hz1 hk1 hS => ?_)
  exact kk r σ1 hw p e s m args below meth c H1 locs1 la CC (zjoin w ht hB hk1 hS) hl

theorem wm_callUi {ty : FieldType} {post : Int32 → Sg → Prop} {x : MethodName} {C : String} {T : u_T} {N : Nat} {fs : List (Option Nat)} (q : Nat) (hq : pc + 3 = q) (d : decode cc pc = .ok (.invokevirtual index, 3)) (hM : cMi l y bytes maxL ty h L (.ref b :: as) σ post) (hc : zCal y bytes maxL (some ty) as.length) (hyx : y = ⟨y.cls, x.name, x.desc⟩) (hi : Cond.instanceMethod y ∈ zAll) (hse : Cond.selects C x y ∈ zAll) (hsm : Cond.sameMethod x.cls y.cls x.name x.desc ∈ zAll) (hl9 : Cond.methodLink own index x ∈ zAll) (hL : L[b]? = some (.inr (.inr (ci, fs)))) (hci : vwCl[ci]? = some (C, T, N)) (hR : h + 1 ≤ R.frames ∧ 8 + (maxL + 11) + 36 * h ≤ R.locals) (hcat : (rest.map fun v => v.category).sum ≤ 8) (hk : k ≤ R.cells ∧ n ≤ R.slots) (kk : ∀ (r : Int32) (σ1 : Sg), post r σ1 → Wm TB l R own cc nL ret D cT ad L A Z X q ls (.int r :: rest) σ1 k n) : Wm TB l R own cc nL ret D cT ad L A Z X pc ls (as.reverse ++ .ref b :: rest) σ k n := by
  subst hq
  intro p e s m args below meth c H locs la CC w hl
  obtain ⟨hx, hb, hml, hown, hts, hr, hlk, hTB⟩ := id CC
  have hG : GoodIn zAll (va_wsU own index C y.cls x y (Cond.code y bytes maxL (some ty) :: zAll)) := zGoodIn (fun w9 h9 => by
    rcases List.mem_append.mp h9 with h9 | h9
    · simp only [List.mem_cons, List.not_mem_nil, or_false] at h9
      rcases h9 with rfl | rfl | rfl | rfl | rfl
      · exact hl9
      · exact hsm
      · exact hse
      · exact hi
      · exact hc.2.1
    · exact zwords hc w9 h9)
  have hds : (parseMethodDescriptor x.desc).map (fun d => d.parameters.length) = some as.length := by
    have h0 := hc.2.2.2.2
    rw [hyx] at h0
    exact h0
  refine va_calli (va_runU (owner := y.cls) (x := x) (As := as.map (zv ad)) (rest := rest.map (zv ad)) ⟨hx, hb, hml, hown, hts⟩ (hM D cT ad H.size) (va_cwU as.length hts hG rfl rfl rfl hyx ⟨hc.2.2.1, hc.2.2.2.1, hds⟩ hR) ⟨zpre_blind, va_recv w.2.1 w.2.2.1 hci (zw_get X hL), fun U hU hW => zpre_of (.ref b :: as) w hU hW⟩ rfl (by simp) hl.1 (by simp [zv]) (lv_room (by rw [zcats]; exact hcat)) d hk) w.2.2.2.2 (fun q _ h => zfree w q h) (zfree w) (fun r σ1 t H1 locs1 ht hvm hw hB hz1 hk1 hS => ?_)
  exact kk r σ1 hw p e s m args below meth c H1 locs1 la CC (zjoin w ht hB hk1 hS) hl

theorem wm_callAi {ty : FieldType} {post : Int32 → Sg → Prop} {x : MethodName} {C owner : String} {T : u_T} {N : Nat} {fs : List (Option Nat)} (q : Nat) (hq : pc + 3 = q) (d : decode cc pc = .ok (.invokevirtual index, 3)) (hM : cMi l y bytes maxL ty h L (.ref b :: as) σ post) (hc : zCal y bytes maxL (some ty) as.length) (hz : Cond.declares ⟨owner, x.name, x.desc⟩ ∈ zBad) (hd : owner ≠ "java/lang/invoke/MethodHandle" ∧ owner ≠ "java/lang/invoke/VarHandle" ∧ (parseMethodDescriptor x.desc).map (fun d => d.parameters.length) = some as.length) (hi : Cond.instanceMethod y ∈ zAll) (hse : Cond.selects C x y ∈ zAll) (hsm : Cond.sameMethod x.cls owner x.name x.desc ∈ zAll) (hl9 : Cond.methodLink own index x ∈ zAll) (hL : L[b]? = some (.inr (.inr (ci, fs)))) (hci : vwCl[ci]? = some (C, T, N)) (hR : h + 1 ≤ R.frames ∧ 8 + (maxL + 11) + 36 * h ≤ R.locals) (hcat : (rest.map fun v => v.category).sum ≤ 8) (hk : k ≤ R.cells ∧ n ≤ R.slots) (kk : ∀ (r : Int32) (σ1 : Sg), post r σ1 → Wm TB l R own cc nL ret D cT ad L A Z X q ls (.int r :: rest) σ1 k n) : Wm TB l R own cc nL ret D cT ad L A Z X pc ls (as.reverse ++ .ref b :: rest) σ k n := by
  subst hq
  intro p e s m args below meth c H locs la CC w hl
  obtain ⟨hx, hb, hml, hown, hts, hr, hlk, hTB⟩ := id CC
  have hG : GoodIn zAll (va_wsU own index C owner x y (Cond.code y bytes maxL (some ty) :: zAll)) := zGoodIn (fun w9 h9 => by
    rcases List.mem_append.mp h9 with h9 | h9
    · simp only [List.mem_cons, List.not_mem_nil, or_false] at h9
      rcases h9 with rfl | rfl | rfl | rfl | rfl
      · exact hl9
      · exact hsm
      · exact hse
      · exact hi
      · exact hc.2.1
    · exact zwords hc w9 h9)
  refine va_calli (va_runU (owner := owner) (x := x) (As := as.map (zv ad)) (rest := rest.map (zv ad)) ⟨hx, hb, hml, hown, hts⟩ (hM D cT ad H.size) (va_cwA as.length hts hG rfl rfl rfl (w.1.2.1 _ hz) hd hR) ⟨zpre_blind, va_recv w.2.1 w.2.2.1 hci (zw_get X hL), fun U hU hW => zpre_of (.ref b :: as) w hU hW⟩ rfl (by simp) hl.1 (by simp [zv]) (lv_room (by rw [zcats]; exact hcat)) d hk) w.2.2.2.2 (fun q _ h => zfree w q h) (zfree w) (fun r σ1 t H1 locs1 ht hvm hw hB hz1 hk1 hS => ?_)
  exact kk r σ1 hw p e s m args below meth c H1 locs1 la CC (zjoin w ht hB hk1 hS) hl

theorem wm_callVl  {post : Int64 → Sg → Prop} {C : String} {T : u_T} {N : Nat} {fs : List (Option Nat)} (q : Nat) (hq : pc + 3 = q) (d : decode cc pc = .ok (.invokevirtual index, 3)) (hM : cMl l y bytes maxL h L (.ref b :: as) σ post) (hc : zCal y bytes maxL (some .long) as.length) (hv : zCaV C y) (hC : y.cls = C) (hl9 : Cond.methodLink own index y ∈ zAll) (hL : L[b]? = some (.inr (.inr (ci, fs)))) (hci : vwCl[ci]? = some (C, T, N)) (hR : h + 1 ≤ R.frames ∧ 8 + (maxL + 11) + 36 * h ≤ R.locals) (hcat : (rest.map fun v => v.category).sum ≤ 8) (hk : k ≤ R.cells ∧ n ≤ R.slots) (kk : ∀ (r : Int64) (σ1 : Sg), post r σ1 → Wm TB l R own cc nL ret D cT ad L A Z X q ls (.long r :: rest) σ1 k n) : Wm TB l R own cc nL ret D cT ad L A Z X pc ls (as.reverse ++ .ref b :: rest) σ k n := by
  subst hq
  intro p e s m args below meth c H locs la CC w hl
  obtain ⟨hx, hb, hml, hown, hts, hr, hlk, hTB⟩ := id CC
  have hG : GoodIn zAll (wsV own index C y (Cond.code y bytes maxL (some .long) :: zAll)) := zGoodIn (fun w9 h9 => by
    rcases List.mem_append.mp h9 with h9 | h9
    · simp only [List.mem_cons, List.not_mem_nil, or_false] at h9
      rcases h9 with rfl | rfl | rfl | rfl
      · exact hl9
      · exact hv.1
      · exact hv.2
      · rw [← hC]; exact hc.2.1
    · exact zwords hc w9 h9)
  refine va_calll (va_runV (As := as.map (zv ad)) (rest := rest.map (zv ad)) ⟨hx, hb, hml, hown, hts⟩ (hM D cT ad H.size) (cwV as.length hts hG rfl rfl rfl ⟨hC, hc.2.2.1, hc.2.2.2.1, hc.2.2.2.2⟩ hR) ⟨zpre_blind, va_recv w.2.1 w.2.2.1 hci (zw_get X hL), fun U hU hW => zpre_of (.ref b :: as) w hU hW⟩ rfl (by simp) hl.1 (by simp [zv]) (lv_room (by rw [zcats]; exact hcat)) d hk) w.2.2.2.2 (fun q _ h => zfree w q h) (zfree w) (fun r σ1 t H1 locs1 ht hvm hw hB hz1 hk1 hS => ?_)
  exact kk r σ1 hw p e s m args below meth c H1 locs1 la CC (zjoin w ht hB hk1 hS) hl

theorem wm_callSl  {post : Int64 → Sg → Prop} (q : Nat) (hq : pc + 3 = q) (d : decode cc pc = .ok (.invokestatic index, 3)) (hM : cMl l y bytes maxL h L as σ post) (hc : zCal y bytes maxL (some .long) as.length) (hs : Cond.static y ∈ zAll) (hl9 : Cond.methodLink own index y ∈ zAll) (hR : h + 1 ≤ R.frames ∧ 8 + (maxL + 11) + 36 * h ≤ R.locals) (hcat : (rest.map fun v => v.category).sum ≤ 8) (hk : k ≤ R.cells ∧ n ≤ R.slots) (kk : ∀ (r : Int64) (σ1 : Sg), post r σ1 → Wm TB l R own cc nL ret D cT ad L A Z X q ls (.long r :: rest) σ1 k n) : Wm TB l R own cc nL ret D cT ad L A Z X pc ls (as.reverse ++ rest) σ k n := by
  subst hq
  intro p e s m args below meth c H locs la CC w hl
  obtain ⟨hx, hb, hml, hown, hts, hr, hlk, hTB⟩ := id CC
  have hG : GoodIn zAll (va_wsS own index y (Cond.code y bytes maxL (some .long) :: zAll)) := zGoodIn (fun w9 h9 => by
    rcases List.mem_append.mp h9 with h9 | h9
    · simp only [List.mem_cons, List.not_mem_nil, or_false] at h9
      rcases h9 with rfl | rfl | rfl
      · exact hl9
      · exact hs
      · exact hc.2.1
    · exact zwords hc w9 h9)
  refine va_calll (va_runS (As := as.map (zv ad)) (rest := rest.map (zv ad)) ⟨hx, hb, hml, hown, hts⟩ (hM D cT ad H.size) (va_cwS as.length hts hG rfl rfl rfl ⟨hc.2.2.1, hc.2.2.2.1, hc.2.2.2.2⟩ hR) ⟨zpre_blind, fun U hU hW => zpre_of as w hU hW⟩ rfl (by simp) hl.1 (by simp) (lv_room (by rw [zcats]; exact hcat)) d hk) w.2.2.2.2 (fun q _ h => zfree w q h) (zfree w) (fun r σ1 t H1 locs1 ht hvm hw hB hz1 hk1 hS => ?_)
  exact kk r σ1 hw p e s m args below meth c H1 locs1 la CC (zjoin w ht hB hk1 hS) hl

theorem wm_callUl  {post : Int64 → Sg → Prop} {x : MethodName} {C : String} {T : u_T} {N : Nat} {fs : List (Option Nat)} (q : Nat) (hq : pc + 3 = q) (d : decode cc pc = .ok (.invokevirtual index, 3)) (hM : cMl l y bytes maxL h L (.ref b :: as) σ post) (hc : zCal y bytes maxL (some .long) as.length) (hyx : y = ⟨y.cls, x.name, x.desc⟩) (hi : Cond.instanceMethod y ∈ zAll) (hse : Cond.selects C x y ∈ zAll) (hsm : Cond.sameMethod x.cls y.cls x.name x.desc ∈ zAll) (hl9 : Cond.methodLink own index x ∈ zAll) (hL : L[b]? = some (.inr (.inr (ci, fs)))) (hci : vwCl[ci]? = some (C, T, N)) (hR : h + 1 ≤ R.frames ∧ 8 + (maxL + 11) + 36 * h ≤ R.locals) (hcat : (rest.map fun v => v.category).sum ≤ 8) (hk : k ≤ R.cells ∧ n ≤ R.slots) (kk : ∀ (r : Int64) (σ1 : Sg), post r σ1 → Wm TB l R own cc nL ret D cT ad L A Z X q ls (.long r :: rest) σ1 k n) : Wm TB l R own cc nL ret D cT ad L A Z X pc ls (as.reverse ++ .ref b :: rest) σ k n := by
  subst hq
  intro p e s m args below meth c H locs la CC w hl
  obtain ⟨hx, hb, hml, hown, hts, hr, hlk, hTB⟩ := id CC
  have hG : GoodIn zAll (va_wsU own index C y.cls x y (Cond.code y bytes maxL (some .long) :: zAll)) := zGoodIn (fun w9 h9 => by
    rcases List.mem_append.mp h9 with h9 | h9
    · simp only [List.mem_cons, List.not_mem_nil, or_false] at h9
      rcases h9 with rfl | rfl | rfl | rfl | rfl
      · exact hl9
      · exact hsm
      · exact hse
      · exact hi
      · exact hc.2.1
    · exact zwords hc w9 h9)
  have hds : (parseMethodDescriptor x.desc).map (fun d => d.parameters.length) = some as.length := by
    have h0 := hc.2.2.2.2
    rw [hyx] at h0
    exact h0
  refine va_calll (va_runU (owner := y.cls) (x := x) (As := as.map (zv ad)) (rest := rest.map (zv ad)) ⟨hx, hb, hml, hown, hts⟩ (hM D cT ad H.size) (va_cwU as.length hts hG rfl rfl rfl hyx ⟨hc.2.2.1, hc.2.2.2.1, hds⟩ hR) ⟨zpre_blind, va_recv w.2.1 w.2.2.1 hci (zw_get X hL), fun U hU hW => zpre_of (.ref b :: as) w hU hW⟩ rfl (by simp) hl.1 (by simp [zv]) (lv_room (by rw [zcats]; exact hcat)) d hk) w.2.2.2.2 (fun q _ h => zfree w q h) (zfree w) (fun r σ1 t H1 locs1 ht hvm hw hB hz1 hk1 hS => ?_)
  exact kk r σ1 hw p e s m args below meth c H1 locs1 la CC (zjoin w ht hB hk1 hS) hl

theorem wm_callAl  {post : Int64 → Sg → Prop} {x : MethodName} {C owner : String} {T : u_T} {N : Nat} {fs : List (Option Nat)} (q : Nat) (hq : pc + 3 = q) (d : decode cc pc = .ok (.invokevirtual index, 3)) (hM : cMl l y bytes maxL h L (.ref b :: as) σ post) (hc : zCal y bytes maxL (some .long) as.length) (hz : Cond.declares ⟨owner, x.name, x.desc⟩ ∈ zBad) (hd : owner ≠ "java/lang/invoke/MethodHandle" ∧ owner ≠ "java/lang/invoke/VarHandle" ∧ (parseMethodDescriptor x.desc).map (fun d => d.parameters.length) = some as.length) (hi : Cond.instanceMethod y ∈ zAll) (hse : Cond.selects C x y ∈ zAll) (hsm : Cond.sameMethod x.cls owner x.name x.desc ∈ zAll) (hl9 : Cond.methodLink own index x ∈ zAll) (hL : L[b]? = some (.inr (.inr (ci, fs)))) (hci : vwCl[ci]? = some (C, T, N)) (hR : h + 1 ≤ R.frames ∧ 8 + (maxL + 11) + 36 * h ≤ R.locals) (hcat : (rest.map fun v => v.category).sum ≤ 8) (hk : k ≤ R.cells ∧ n ≤ R.slots) (kk : ∀ (r : Int64) (σ1 : Sg), post r σ1 → Wm TB l R own cc nL ret D cT ad L A Z X q ls (.long r :: rest) σ1 k n) : Wm TB l R own cc nL ret D cT ad L A Z X pc ls (as.reverse ++ .ref b :: rest) σ k n := by
  subst hq
  intro p e s m args below meth c H locs la CC w hl
  obtain ⟨hx, hb, hml, hown, hts, hr, hlk, hTB⟩ := id CC
  have hG : GoodIn zAll (va_wsU own index C owner x y (Cond.code y bytes maxL (some .long) :: zAll)) := zGoodIn (fun w9 h9 => by
    rcases List.mem_append.mp h9 with h9 | h9
    · simp only [List.mem_cons, List.not_mem_nil, or_false] at h9
      rcases h9 with rfl | rfl | rfl | rfl | rfl
      · exact hl9
      · exact hsm
      · exact hse
      · exact hi
      · exact hc.2.1
    · exact zwords hc w9 h9)
  refine va_calll (va_runU (owner := owner) (x := x) (As := as.map (zv ad)) (rest := rest.map (zv ad)) ⟨hx, hb, hml, hown, hts⟩ (hM D cT ad H.size) (va_cwA as.length hts hG rfl rfl rfl (w.1.2.1 _ hz) hd hR) ⟨zpre_blind, va_recv w.2.1 w.2.2.1 hci (zw_get X hL), fun U hU hW => zpre_of (.ref b :: as) w hU hW⟩ rfl (by simp) hl.1 (by simp [zv]) (lv_room (by rw [zcats]; exact hcat)) d hk) w.2.2.2.2 (fun q _ h => zfree w q h) (zfree w) (fun r σ1 t H1 locs1 ht hvm hw hB hz1 hk1 hS => ?_)
  exact kk r σ1 hw p e s m args below meth c H1 locs1 la CC (zjoin w ht hB hk1 hS) hl

theorem wm_callVf  {post : UInt32 → Sg → Prop} {C : String} {T : u_T} {N : Nat} {fs : List (Option Nat)} (q : Nat) (hq : pc + 3 = q) (d : decode cc pc = .ok (.invokevirtual index, 3)) (hM : cMf l y bytes maxL h L (.ref b :: as) σ post) (hc : zCal y bytes maxL (some .float) as.length) (hv : zCaV C y) (hC : y.cls = C) (hl9 : Cond.methodLink own index y ∈ zAll) (hL : L[b]? = some (.inr (.inr (ci, fs)))) (hci : vwCl[ci]? = some (C, T, N)) (hR : h + 1 ≤ R.frames ∧ 8 + (maxL + 11) + 36 * h ≤ R.locals) (hcat : (rest.map fun v => v.category).sum ≤ 8) (hk : k ≤ R.cells ∧ n ≤ R.slots) (kk : ∀ (r : UInt32) (σ1 : Sg), post r σ1 → Wm TB l R own cc nL ret D cT ad L A Z X q ls (.float r :: rest) σ1 k n) : Wm TB l R own cc nL ret D cT ad L A Z X pc ls (as.reverse ++ .ref b :: rest) σ k n := by
  subst hq
  intro p e s m args below meth c H locs la CC w hl
  obtain ⟨hx, hb, hml, hown, hts, hr, hlk, hTB⟩ := id CC
  have hG : GoodIn zAll (wsV own index C y (Cond.code y bytes maxL (some .float) :: zAll)) := zGoodIn (fun w9 h9 => by
    rcases List.mem_append.mp h9 with h9 | h9
    · simp only [List.mem_cons, List.not_mem_nil, or_false] at h9
      rcases h9 with rfl | rfl | rfl | rfl
      · exact hl9
      · exact hv.1
      · exact hv.2
      · rw [← hC]; exact hc.2.1
    · exact zwords hc w9 h9)
  refine va_callf (va_runV (As := as.map (zv ad)) (rest := rest.map (zv ad)) ⟨hx, hb, hml, hown, hts⟩ (hM D cT ad H.size) (cwV as.length hts hG rfl rfl rfl ⟨hC, hc.2.2.1, hc.2.2.2.1, hc.2.2.2.2⟩ hR) ⟨zpre_blind, va_recv w.2.1 w.2.2.1 hci (zw_get X hL), fun U hU hW => zpre_of (.ref b :: as) w hU hW⟩ rfl (by simp) hl.1 (by simp [zv]) (lv_room (by rw [zcats]; exact hcat)) d hk) w.2.2.2.2 (fun q _ h => zfree w q h) (zfree w) (fun r σ1 t H1 locs1 ht hvm hw hB hz1 hk1 hS => ?_)
  exact kk r σ1 hw p e s m args below meth c H1 locs1 la CC (zjoin w ht hB hk1 hS) hl

theorem wm_callSf  {post : UInt32 → Sg → Prop} (q : Nat) (hq : pc + 3 = q) (d : decode cc pc = .ok (.invokestatic index, 3)) (hM : cMf l y bytes maxL h L as σ post) (hc : zCal y bytes maxL (some .float) as.length) (hs : Cond.static y ∈ zAll) (hl9 : Cond.methodLink own index y ∈ zAll) (hR : h + 1 ≤ R.frames ∧ 8 + (maxL + 11) + 36 * h ≤ R.locals) (hcat : (rest.map fun v => v.category).sum ≤ 8) (hk : k ≤ R.cells ∧ n ≤ R.slots) (kk : ∀ (r : UInt32) (σ1 : Sg), post r σ1 → Wm TB l R own cc nL ret D cT ad L A Z X q ls (.float r :: rest) σ1 k n) : Wm TB l R own cc nL ret D cT ad L A Z X pc ls (as.reverse ++ rest) σ k n := by
  subst hq
  intro p e s m args below meth c H locs la CC w hl
  obtain ⟨hx, hb, hml, hown, hts, hr, hlk, hTB⟩ := id CC
  have hG : GoodIn zAll (va_wsS own index y (Cond.code y bytes maxL (some .float) :: zAll)) := zGoodIn (fun w9 h9 => by
    rcases List.mem_append.mp h9 with h9 | h9
    · simp only [List.mem_cons, List.not_mem_nil, or_false] at h9
      rcases h9 with rfl | rfl | rfl
      · exact hl9
      · exact hs
      · exact hc.2.1
    · exact zwords hc w9 h9)
  refine va_callf (va_runS (As := as.map (zv ad)) (rest := rest.map (zv ad)) ⟨hx, hb, hml, hown, hts⟩ (hM D cT ad H.size) (va_cwS as.length hts hG rfl rfl rfl ⟨hc.2.2.1, hc.2.2.2.1, hc.2.2.2.2⟩ hR) ⟨zpre_blind, fun U hU hW => zpre_of as w hU hW⟩ rfl (by simp) hl.1 (by simp) (lv_room (by rw [zcats]; exact hcat)) d hk) w.2.2.2.2 (fun q _ h => zfree w q h) (zfree w) (fun r σ1 t H1 locs1 ht hvm hw hB hz1 hk1 hS => ?_)
  exact kk r σ1 hw p e s m args below meth c H1 locs1 la CC (zjoin w ht hB hk1 hS) hl

theorem wm_callUf  {post : UInt32 → Sg → Prop} {x : MethodName} {C : String} {T : u_T} {N : Nat} {fs : List (Option Nat)} (q : Nat) (hq : pc + 3 = q) (d : decode cc pc = .ok (.invokevirtual index, 3)) (hM : cMf l y bytes maxL h L (.ref b :: as) σ post) (hc : zCal y bytes maxL (some .float) as.length) (hyx : y = ⟨y.cls, x.name, x.desc⟩) (hi : Cond.instanceMethod y ∈ zAll) (hse : Cond.selects C x y ∈ zAll) (hsm : Cond.sameMethod x.cls y.cls x.name x.desc ∈ zAll) (hl9 : Cond.methodLink own index x ∈ zAll) (hL : L[b]? = some (.inr (.inr (ci, fs)))) (hci : vwCl[ci]? = some (C, T, N)) (hR : h + 1 ≤ R.frames ∧ 8 + (maxL + 11) + 36 * h ≤ R.locals) (hcat : (rest.map fun v => v.category).sum ≤ 8) (hk : k ≤ R.cells ∧ n ≤ R.slots) (kk : ∀ (r : UInt32) (σ1 : Sg), post r σ1 → Wm TB l R own cc nL ret D cT ad L A Z X q ls (.float r :: rest) σ1 k n) : Wm TB l R own cc nL ret D cT ad L A Z X pc ls (as.reverse ++ .ref b :: rest) σ k n := by
  subst hq
  intro p e s m args below meth c H locs la CC w hl
  obtain ⟨hx, hb, hml, hown, hts, hr, hlk, hTB⟩ := id CC
  have hG : GoodIn zAll (va_wsU own index C y.cls x y (Cond.code y bytes maxL (some .float) :: zAll)) := zGoodIn (fun w9 h9 => by
    rcases List.mem_append.mp h9 with h9 | h9
    · simp only [List.mem_cons, List.not_mem_nil, or_false] at h9
      rcases h9 with rfl | rfl | rfl | rfl | rfl
      · exact hl9
      · exact hsm
      · exact hse
      · exact hi
      · exact hc.2.1
    · exact zwords hc w9 h9)
  have hds : (parseMethodDescriptor x.desc).map (fun d => d.parameters.length) = some as.length := by
    have h0 := hc.2.2.2.2
    rw [hyx] at h0
    exact h0
  refine va_callf (va_runU (owner := y.cls) (x := x) (As := as.map (zv ad)) (rest := rest.map (zv ad)) ⟨hx, hb, hml, hown, hts⟩ (hM D cT ad H.size) (va_cwU as.length hts hG rfl rfl rfl hyx ⟨hc.2.2.1, hc.2.2.2.1, hds⟩ hR) ⟨zpre_blind, va_recv w.2.1 w.2.2.1 hci (zw_get X hL), fun U hU hW => zpre_of (.ref b :: as) w hU hW⟩ rfl (by simp) hl.1 (by simp [zv]) (lv_room (by rw [zcats]; exact hcat)) d hk) w.2.2.2.2 (fun q _ h => zfree w q h) (zfree w) (fun r σ1 t H1 locs1 ht hvm hw hB hz1 hk1 hS => ?_)
  exact kk r σ1 hw p e s m args below meth c H1 locs1 la CC (zjoin w ht hB hk1 hS) hl

theorem wm_callAf  {post : UInt32 → Sg → Prop} {x : MethodName} {C owner : String} {T : u_T} {N : Nat} {fs : List (Option Nat)} (q : Nat) (hq : pc + 3 = q) (d : decode cc pc = .ok (.invokevirtual index, 3)) (hM : cMf l y bytes maxL h L (.ref b :: as) σ post) (hc : zCal y bytes maxL (some .float) as.length) (hz : Cond.declares ⟨owner, x.name, x.desc⟩ ∈ zBad) (hd : owner ≠ "java/lang/invoke/MethodHandle" ∧ owner ≠ "java/lang/invoke/VarHandle" ∧ (parseMethodDescriptor x.desc).map (fun d => d.parameters.length) = some as.length) (hi : Cond.instanceMethod y ∈ zAll) (hse : Cond.selects C x y ∈ zAll) (hsm : Cond.sameMethod x.cls owner x.name x.desc ∈ zAll) (hl9 : Cond.methodLink own index x ∈ zAll) (hL : L[b]? = some (.inr (.inr (ci, fs)))) (hci : vwCl[ci]? = some (C, T, N)) (hR : h + 1 ≤ R.frames ∧ 8 + (maxL + 11) + 36 * h ≤ R.locals) (hcat : (rest.map fun v => v.category).sum ≤ 8) (hk : k ≤ R.cells ∧ n ≤ R.slots) (kk : ∀ (r : UInt32) (σ1 : Sg), post r σ1 → Wm TB l R own cc nL ret D cT ad L A Z X q ls (.float r :: rest) σ1 k n) : Wm TB l R own cc nL ret D cT ad L A Z X pc ls (as.reverse ++ .ref b :: rest) σ k n := by
  subst hq
  intro p e s m args below meth c H locs la CC w hl
  obtain ⟨hx, hb, hml, hown, hts, hr, hlk, hTB⟩ := id CC
  have hG : GoodIn zAll (va_wsU own index C owner x y (Cond.code y bytes maxL (some .float) :: zAll)) := zGoodIn (fun w9 h9 => by
    rcases List.mem_append.mp h9 with h9 | h9
    · simp only [List.mem_cons, List.not_mem_nil, or_false] at h9
      rcases h9 with rfl | rfl | rfl | rfl | rfl
      · exact hl9
      · exact hsm
      · exact hse
      · exact hi
      · exact hc.2.1
    · exact zwords hc w9 h9)
  refine va_callf (va_runU (owner := owner) (x := x) (As := as.map (zv ad)) (rest := rest.map (zv ad)) ⟨hx, hb, hml, hown, hts⟩ (hM D cT ad H.size) (va_cwA as.length hts hG rfl rfl rfl (w.1.2.1 _ hz) hd hR) ⟨zpre_blind, va_recv w.2.1 w.2.2.1 hci (zw_get X hL), fun U hU hW => zpre_of (.ref b :: as) w hU hW⟩ rfl (by simp) hl.1 (by simp [zv]) (lv_room (by rw [zcats]; exact hcat)) d hk) w.2.2.2.2 (fun q _ h => zfree w q h) (zfree w) (fun r σ1 t H1 locs1 ht hvm hw hB hz1 hk1 hS => ?_)
  exact kk r σ1 hw p e s m args below meth c H1 locs1 la CC (zjoin w ht hB hk1 hS) hl

theorem wm_callVv  {post : Sg → Prop} {C : String} {T : u_T} {N : Nat} {fs : List (Option Nat)} (q : Nat) (hq : pc + 3 = q) (d : decode cc pc = .ok (.invokevirtual index, 3)) (hM : cMv l y bytes maxL h L (.ref b :: as) σ post) (hc : zCal y bytes maxL none as.length) (hv : zCaV C y) (hC : y.cls = C) (hl9 : Cond.methodLink own index y ∈ zAll) (hL : L[b]? = some (.inr (.inr (ci, fs)))) (hci : vwCl[ci]? = some (C, T, N)) (hR : h + 1 ≤ R.frames ∧ 8 + (maxL + 11) + 36 * h ≤ R.locals) (hcat : (rest.map fun v => v.category).sum ≤ 8) (hk : k ≤ R.cells ∧ n ≤ R.slots) (kk : ∀ (σ1 : Sg), post σ1 → Wm TB l R own cc nL ret D cT ad L A Z X q ls (rest) σ1 k n) : Wm TB l R own cc nL ret D cT ad L A Z X pc ls (as.reverse ++ .ref b :: rest) σ k n := by
  subst hq
  intro p e s m args below meth c H locs la CC w hl
  obtain ⟨hx, hb, hml, hown, hts, hr, hlk, hTB⟩ := id CC
  have hG : GoodIn zAll (wsV own index C y (Cond.code y bytes maxL none :: zAll)) := zGoodIn (fun w9 h9 => by
    rcases List.mem_append.mp h9 with h9 | h9
    · simp only [List.mem_cons, List.not_mem_nil, or_false] at h9
      rcases h9 with rfl | rfl | rfl | rfl
      · exact hl9
      · exact hv.1
      · exact hv.2
      · rw [← hC]; exact hc.2.1
    · exact zwords hc w9 h9)
  refine va_callv (va_runV (As := as.map (zv ad)) (rest := rest.map (zv ad)) ⟨hx, hb, hml, hown, hts⟩ (hM D cT ad H.size) (cwV as.length hts hG rfl rfl rfl ⟨hC, hc.2.2.1, hc.2.2.2.1, hc.2.2.2.2⟩ hR) ⟨zpre_blind, va_recv w.2.1 w.2.2.1 hci (zw_get X hL), fun U hU hW => zpre_of (.ref b :: as) w hU hW⟩ rfl (by simp) hl.1 (by simp [zv]) (lv_room (by rw [zcats]; exact hcat)) d hk) w.2.2.2.2 (fun q _ h => zfree w q h) (zfree w) (fun σ1 t H1 locs1 ht hvm hw hB hz1 hk1 hS => ?_)
  exact kk σ1 hw p e s m args below meth c H1 locs1 la CC (zjoin w ht hB hk1 hS) hl

theorem wm_callSv  {post : Sg → Prop} (q : Nat) (hq : pc + 3 = q) (d : decode cc pc = .ok (.invokestatic index, 3)) (hM : cMv l y bytes maxL h L as σ post) (hc : zCal y bytes maxL none as.length) (hs : Cond.static y ∈ zAll) (hl9 : Cond.methodLink own index y ∈ zAll) (hR : h + 1 ≤ R.frames ∧ 8 + (maxL + 11) + 36 * h ≤ R.locals) (hcat : (rest.map fun v => v.category).sum ≤ 8) (hk : k ≤ R.cells ∧ n ≤ R.slots) (kk : ∀ (σ1 : Sg), post σ1 → Wm TB l R own cc nL ret D cT ad L A Z X q ls (rest) σ1 k n) : Wm TB l R own cc nL ret D cT ad L A Z X pc ls (as.reverse ++ rest) σ k n := by
  subst hq
  intro p e s m args below meth c H locs la CC w hl
  obtain ⟨hx, hb, hml, hown, hts, hr, hlk, hTB⟩ := id CC
  have hG : GoodIn zAll (va_wsS own index y (Cond.code y bytes maxL none :: zAll)) := zGoodIn (fun w9 h9 => by
    rcases List.mem_append.mp h9 with h9 | h9
    · simp only [List.mem_cons, List.not_mem_nil, or_false] at h9
      rcases h9 with rfl | rfl | rfl
      · exact hl9
      · exact hs
      · exact hc.2.1
    · exact zwords hc w9 h9)
  refine va_callv (va_runS (As := as.map (zv ad)) (rest := rest.map (zv ad)) ⟨hx, hb, hml, hown, hts⟩ (hM D cT ad H.size) (va_cwS as.length hts hG rfl rfl rfl ⟨hc.2.2.1, hc.2.2.2.1, hc.2.2.2.2⟩ hR) ⟨zpre_blind, fun U hU hW => zpre_of as w hU hW⟩ rfl (by simp) hl.1 (by simp) (lv_room (by rw [zcats]; exact hcat)) d hk) w.2.2.2.2 (fun q _ h => zfree w q h) (zfree w) (fun σ1 t H1 locs1 ht hvm hw hB hz1 hk1 hS => ?_)
  exact kk σ1 hw p e s m args below meth c H1 locs1 la CC (zjoin w ht hB hk1 hS) hl

theorem wm_callUv  {post : Sg → Prop} {x : MethodName} {C : String} {T : u_T} {N : Nat} {fs : List (Option Nat)} (q : Nat) (hq : pc + 3 = q) (d : decode cc pc = .ok (.invokevirtual index, 3)) (hM : cMv l y bytes maxL h L (.ref b :: as) σ post) (hc : zCal y bytes maxL none as.length) (hyx : y = ⟨y.cls, x.name, x.desc⟩) (hi : Cond.instanceMethod y ∈ zAll) (hse : Cond.selects C x y ∈ zAll) (hsm : Cond.sameMethod x.cls y.cls x.name x.desc ∈ zAll) (hl9 : Cond.methodLink own index x ∈ zAll) (hL : L[b]? = some (.inr (.inr (ci, fs)))) (hci : vwCl[ci]? = some (C, T, N)) (hR : h + 1 ≤ R.frames ∧ 8 + (maxL + 11) + 36 * h ≤ R.locals) (hcat : (rest.map fun v => v.category).sum ≤ 8) (hk : k ≤ R.cells ∧ n ≤ R.slots) (kk : ∀ (σ1 : Sg), post σ1 → Wm TB l R own cc nL ret D cT ad L A Z X q ls (rest) σ1 k n) : Wm TB l R own cc nL ret D cT ad L A Z X pc ls (as.reverse ++ .ref b :: rest) σ k n := by
  subst hq
  intro p e s m args below meth c H locs la CC w hl
  obtain ⟨hx, hb, hml, hown, hts, hr, hlk, hTB⟩ := id CC
  have hG : GoodIn zAll (va_wsU own index C y.cls x y (Cond.code y bytes maxL none :: zAll)) := zGoodIn (fun w9 h9 => by
    rcases List.mem_append.mp h9 with h9 | h9
    · simp only [List.mem_cons, List.not_mem_nil, or_false] at h9
      rcases h9 with rfl | rfl | rfl | rfl | rfl
      · exact hl9
      · exact hsm
      · exact hse
      · exact hi
      · exact hc.2.1
    · exact zwords hc w9 h9)
  have hds : (parseMethodDescriptor x.desc).map (fun d => d.parameters.length) = some as.length := by
    have h0 := hc.2.2.2.2
    rw [hyx] at h0
    exact h0
  refine va_callv (va_runU (owner := y.cls) (x := x) (As := as.map (zv ad)) (rest := rest.map (zv ad)) ⟨hx, hb, hml, hown, hts⟩ (hM D cT ad H.size) (va_cwU as.length hts hG rfl rfl rfl hyx ⟨hc.2.2.1, hc.2.2.2.1, hds⟩ hR) ⟨zpre_blind, va_recv w.2.1 w.2.2.1 hci (zw_get X hL), fun U hU hW => zpre_of (.ref b :: as) w hU hW⟩ rfl (by simp) hl.1 (by simp [zv]) (lv_room (by rw [zcats]; exact hcat)) d hk) w.2.2.2.2 (fun q _ h => zfree w q h) (zfree w) (fun σ1 t H1 locs1 ht hvm hw hB hz1 hk1 hS => ?_)
  exact kk σ1 hw p e s m args below meth c H1 locs1 la CC (zjoin w ht hB hk1 hS) hl

theorem wm_callAv  {post : Sg → Prop} {x : MethodName} {C owner : String} {T : u_T} {N : Nat} {fs : List (Option Nat)} (q : Nat) (hq : pc + 3 = q) (d : decode cc pc = .ok (.invokevirtual index, 3)) (hM : cMv l y bytes maxL h L (.ref b :: as) σ post) (hc : zCal y bytes maxL none as.length) (hz : Cond.declares ⟨owner, x.name, x.desc⟩ ∈ zBad) (hd : owner ≠ "java/lang/invoke/MethodHandle" ∧ owner ≠ "java/lang/invoke/VarHandle" ∧ (parseMethodDescriptor x.desc).map (fun d => d.parameters.length) = some as.length) (hi : Cond.instanceMethod y ∈ zAll) (hse : Cond.selects C x y ∈ zAll) (hsm : Cond.sameMethod x.cls owner x.name x.desc ∈ zAll) (hl9 : Cond.methodLink own index x ∈ zAll) (hL : L[b]? = some (.inr (.inr (ci, fs)))) (hci : vwCl[ci]? = some (C, T, N)) (hR : h + 1 ≤ R.frames ∧ 8 + (maxL + 11) + 36 * h ≤ R.locals) (hcat : (rest.map fun v => v.category).sum ≤ 8) (hk : k ≤ R.cells ∧ n ≤ R.slots) (kk : ∀ (σ1 : Sg), post σ1 → Wm TB l R own cc nL ret D cT ad L A Z X q ls (rest) σ1 k n) : Wm TB l R own cc nL ret D cT ad L A Z X pc ls (as.reverse ++ .ref b :: rest) σ k n := by
  subst hq
  intro p e s m args below meth c H locs la CC w hl
  obtain ⟨hx, hb, hml, hown, hts, hr, hlk, hTB⟩ := id CC
  have hG : GoodIn zAll (va_wsU own index C owner x y (Cond.code y bytes maxL none :: zAll)) := zGoodIn (fun w9 h9 => by
    rcases List.mem_append.mp h9 with h9 | h9
    · simp only [List.mem_cons, List.not_mem_nil, or_false] at h9
      rcases h9 with rfl | rfl | rfl | rfl | rfl
      · exact hl9
      · exact hsm
      · exact hse
      · exact hi
      · exact hc.2.1
    · exact zwords hc w9 h9)
  refine va_callv (va_runU (owner := owner) (x := x) (As := as.map (zv ad)) (rest := rest.map (zv ad)) ⟨hx, hb, hml, hown, hts⟩ (hM D cT ad H.size) (va_cwA as.length hts hG rfl rfl rfl (w.1.2.1 _ hz) hd hR) ⟨zpre_blind, va_recv w.2.1 w.2.2.1 hci (zw_get X hL), fun U hU hW => zpre_of (.ref b :: as) w hU hW⟩ rfl (by simp) hl.1 (by simp [zv]) (lv_room (by rw [zcats]; exact hcat)) d hk) w.2.2.2.2 (fun q _ h => zfree w q h) (zfree w) (fun σ1 t H1 locs1 ht hvm hw hB hz1 hk1 hS => ?_)
  exact kk σ1 hw p e s m args below meth c H1 locs1 la CC (zjoin w ht hB hk1 hS) hl

end CALLS
