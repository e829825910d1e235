/-! THE LAW'S BODY: rules over the world of both sides -/
theorem zl_sub {A : Nat → Prop} {W0 Y X : va_W} (h : va_D A X) (hp : X.Perm (W0 ++ Y)) : va_D A (W0 ++ Y) := zD_perm h hp
theorem zl_in {D : va_G} {X W0 Y : va_W} {H : Heap} (h : va_P D vwCl X H) (hp : X.Perm (W0 ++ Y)) : va_P D vwCl (W0 ++ Y) H := zP_mem h (fun q hq => hp.mem_iff.mpr hq)
/-- from one list of cells to another one that says the same -/
def zImp (D : va_G) (A : Nat → Prop) (X X' : va_W) : Prop := (∀ H, va_P D vwCl X H → va_P D vwCl X' H) ∧ (va_D A X → va_D A X')
theorem zImp.perm {D : va_G} {A : Nat → Prop} {X X' : va_W} (h : X.Perm X') : zImp D A X X' := ⟨fun _ hP => zP_mem hP (fun q hq => h.mem_iff.mpr hq), fun hD => zD_perm hD h⟩
theorem zImp.tr {D : va_G} {A : Nat → Prop} {X Y Z : va_W} (h1 : zImp D A X Y) (h2 : zImp D A Y Z) : zImp D A X Z := ⟨fun H hP => h2.1 H (h1.1 H hP), fun hD => h2.2 (h1.2 hD)⟩
/-- the references of a description lie below 27 -/
def dB (d : Dsc) : Bool := match d with
  | .inl _ => true
  | .inr (.inl (_, n, f)) => (List.range n).all (fun i => match f i with | none => true | some r => decide (r < 27))
  | .inr (.inr (_, fs)) => fs.all (fun f => match f with | none => true | some r => decide (r < 27))
theorem Lc_dB : Lc.all dB = true := by decide
theorem zent_27 {D : va_G} {cT ad ad' : Nat → Nat} {d : Dsc} {r : Nat → Int32} {a : Nat} {H : Heap} (hd : dB d = true) (he : ∀ k, k < 27 → ad k = ad' k) (h : va_at D vwCl (a, zent cT ad d r) H) : va_at D vwCl (a, zent cT ad' d r) H := by
  match d, hd, h with
  | .inl (t, n), _, h => exact h
  | .inr (.inl (t, n, f)), hd, h =>
    have h1 : H[a]? = some (vp_cell (cT t) (n, .inr (.inr (.inr (.inr (fun i => (f i).map ad)))))) := h
    show H[a]? = some (vp_cell (cT t) (n, .inr (.inr (.inr (.inr (fun i => (f i).map ad'))))))
    rw [h1, zq_cell (fun i hi => ?_)]
    have h2 := List.all_eq_true.mp hd i (List.mem_range.mpr hi)
    cases hf : f i with
    | none => rfl
    | some x =>
      simp only [hf, decide_eq_true_eq] at h2
      show some (ad x) = some (ad' x)
      rw [he x h2]
  | .inr (.inr (ci, fs)), hd, h =>
    have e : fs.mapIdx (zfv ad r) = fs.mapIdx (zfv ad' r) := by
      apply List.ext_getElem?
      intro i
      simp only [List.getElem?_mapIdx]
      cases hf : fs[i]? with
      | none => rfl
      | some x =>
        cases x with
        | none => rfl
        | some x =>
          have h2 := List.all_eq_true.mp hd _ (List.mem_of_getElem? hf)
          have h3 : x < 27 := by simpa using h2
          show some (Value.ref (ad x)) = some (Value.ref (ad' x))
          rw [he x h3]
    have h1 : va_at D vwCl (a, .inr (ci, fs.mapIdx (zfv ad r))) H := h
    rw [e] at h1
    exact h1
theorem zImp_27 {D : va_G} {A : Nat → Prop} {cT ad ad' : Nat → Nat} {σ : Sg} {Y : va_W} (he : ∀ k, k < 27 → ad k = ad' k) : zImp D A (zw cT ad Lc σ ++ Y) (zw cT ad' Lc σ ++ Y) := by
  have hf : (zw cT ad' Lc σ).map (·.1) = (zw cT ad Lc σ).map (·.1) := by
    apply List.ext_getElem?
    intro i
    simp only [zw, List.getElem?_map, List.getElem?_mapIdx]
    cases hl : Lc[i]? with
    | none => rfl
    | some d =>
      have := (List.getElem?_eq_some_iff.mp hl).1
      show some (ad' i) = some (ad i)
      rw [he i this]
  refine ⟨fun H hP => va_P.app (fun k q hk => ?_) (fun k q hk => hP (27 + k) q (by rw [List.getElem?_append_right (by rw [zw_len]; exact Nat.le_add_right _ _), zw_len]; rw [show 27 + k - Lc.length = k from Nat.add_sub_cancel_left 27 k]; exact hk)), fun hD => zD_same (by rw [List.map_append, List.map_append, hf]) hD⟩
  obtain ⟨e1, e2⟩ := zw_ad hk
  have h1 := zw_get (cT := cT) (ad := ad) (σ := σ) Y (List.getElem?_eq_getElem e2)
  have h2 := zw_get (cT := cT) (ad := ad') (σ := σ) [] (List.getElem?_eq_getElem e2)
  rw [List.append_nil, hk] at h2
  cases h2
  have h3 := hP k _ h1
  rw [he k e2] at h3
  exact zent_27 (List.all_eq_true.mp Lc_dB _ (List.getElem_mem e2)) he h3
/-- a world seen again behind a call that had its first part -/
theorem zl_join {D : va_G} {X X1 W0 W1 Y : va_W} {A A1 : Nat → Prop} {H H1 : Heap} (hP : va_P D vwCl X H) (hD : va_D A X) (hp : zImp D A X (W0 ++ Y)) (h1 : W1.map (·.1) = W0.map (·.1)) (hA1 : ∀ q, q < H.size → A1 q → q ∈ W0.map (·.1)) (hk : ∀ q : Nat, q < H.size → ¬ A1 q → H1[q]? = H[q]?) (hP1 : va_P D vwCl W1 H1) (hp1 : zImp D A (W1 ++ Y) X1) : va_P D vwCl X1 H1 ∧ va_D A X1 := by
  have hP0 := hp.1 _ hP
  have hD0 := hp.2 hD
  refine ⟨hp1.1 _ (va_P.app hP1 (fun k q hq => ?_)), hp1.2 (zD_same (by rw [List.map_append, List.map_append, h1]) hD0)⟩
  have hq2 : (W0 ++ Y)[W0.length + k]? = some q := by rw [List.getElem?_append_right (by omega)]; simpa using hq
  have hlt := (hP0 _ q hq2).lt
  refine (hP0 _ q hq2).kept (hk q.1 hlt (fun hA => ?_))
  obtain ⟨x, hx, e⟩ := List.mem_map.mp (hA1 _ hlt hA)
  obtain ⟨i, hi⟩ := List.getElem?_of_mem hx
  have hl := (List.getElem?_eq_some_iff.mp hi).1
  have h3 : (W0 ++ Y)[i]? = some x := by rw [List.getElem?_append_left hl]; exact hi
  have h4 := hD0.1 _ _ _ _ h3 hq2 e
  omega
theorem zw_mem {cT ad : Nat → Nat} {L : List Dsc} {σ : Sg} {k : Nat} (h : k < L.length) : ad k ∈ (zw cT ad L σ).map (·.1) := by
  refine List.mem_map.mpr ⟨(ad k, zent cT ad L[k] (σ k)), ?_, rfl⟩
  have h1 := zw_get (cT := cT) (ad := ad) (σ := σ) [] (List.getElem?_eq_getElem h)
  rw [List.append_nil] at h1
  exact List.mem_of_getElem? h1
theorem zw_I0 (cT : Nat → Nat) (σ : Sg) (X : va_W) : zw cT zI [] σ ++ X = X := rfl
/-- the words and the heap's part for a call over the first part of the world -/
theorem zl_pre {D : va_G} {cT ad : Nat → Nat} {L : List Dsc} {X Y : va_W} {A : Nat → Prop} {s U : State} {σ σ0 : Sg} {H : Heap} {locs : List Loc} (as : List Value) (w : zW D cT zI [] X A s σ0 H locs) (hp : X.Perm (zw cT ad L σ ++ Y)) (hU : U.heap = H) (hW : s.WarmedH U.vm) : zPc D cT ad L H.size as σ (as.map (zv ad)).toArray U := by
  have hP0 := zl_in w.2.2.1 hp
  have hD0 := zl_sub w.2.2.2.1 hp
  have w' : zW D cT ad L Y A s σ H locs := ⟨w.1, w.2.1, hP0, hD0, w.2.2.2.2⟩
  exact zpre_of as w' hU hW
theorem zl_w {D : va_G} {cT ad : Nat → Nat} {L : List Dsc} {X Y : va_W} {A : Nat → Prop} {s : State} {σ σ0 : Sg} {H : Heap} {locs : List Loc} (w : zW D cT zI [] X A s σ0 H locs) (hp : X.Perm (zw cT ad L σ ++ Y)) : zW D cT ad L Y A s σ H locs := ⟨w.1, w.2.1, zl_in w.2.2.1 hp, zl_sub w.2.2.2.1 hp, w.2.2.2.2⟩
theorem zl_back {D : va_G} {cT ad : Nat → Nat} {L : List Dsc} {X1 Y : va_W} {A : Nat → Prop} {s : State} {σ σ0 : Sg} {H : Heap} {locs : List Loc} (w : zW D cT ad L Y A s σ H locs) (hp : (zw cT ad L σ ++ Y).Perm X1) : zW D cT zI [] X1 A s σ0 H locs := ⟨w.1, w.2.1, zP_mem w.2.2.1 (fun q hq => hp.mem_iff.mpr hq), zD_perm w.2.2.2.1 hp, w.2.2.2.2⟩
section LAWR
variable {TB : Method → Code → Prop} {l : Launch} {R : Room} {own : String} {cc : ByteArray} {nL : Nat} {ret : Option FieldType} {D : va_G} {cT ad : Nat → Nat} {L : List Dsc} {A : Nat → Prop} {Z : List Frame → Array Value → State → State → Prop} {X Y : va_W} {pc : Nat} {ls : List (Nat × Value)} {σ0 μ : Sg} {k n : Nat}
variable {y : MethodName} {bytes : ByteArray} {maxL h index b ci mc ms : Nat} {as rest st0 : List Value}
theorem zvI (st : List Value) : st.map (zv zI) = st := by
  induction st with
  | nil => rfl
  | cons a t ih =>
    rw [List.map_cons, ih]
    congr 1
    cases a <;> rfl
theorem wl_widen {k1 n1 : Nat} (h1 : k ≤ k1) (h2 : n ≤ n1) {st : List Value} {σ : Sg} {ad : Nat → Nat} {L : List Dsc} (kk : Wm TB l R own cc nL ret D cT ad L A Z X pc ls st σ k1 n1) : Wm TB l R own cc nL ret D cT ad L A Z X pc ls st σ k n := by
  intro p e s m args below meth c H locs la CC w hl T hT Xs
  exact kk p e s m args below meth c H locs la CC w hl T hT (stand_widen Xs h1 h2)
theorem wl_callVi {ty : FieldType} {post : Int32 → Sg → Prop} {C : String} {T : u_T} {N : Nat} {fs : List (Option Nat)} (q : Nat) (hq : pc + 3 = q) (d : decode cc pc = .ok (.invokevirtual index, 3)) (hM : cMi l y bytes maxL ty h L (.ref b :: as) μ post) (hc : zCal y bytes maxL (some ty) as.length) (hv : zCaV C y) (hC : y.cls = C) (hl9 : Cond.methodLink own index y ∈ zAll) (hL : L[b]? = some (.inr (.inr (ci, fs)))) (hci : vwCl[ci]? = some (C, T, N)) (hR : h + 1 ≤ R.frames ∧ 8 + (maxL + 11) + 36 * h ≤ R.locals) (hcat : (rest.map fun v => v.category).sum ≤ 8) (hk : k ≤ R.cells ∧ n ≤ R.slots) (hp : X.Perm (zw cT ad L μ ++ Y)) (X1 : Sg → va_W) (hp1 : ∀ μ1, (zw cT ad L μ1 ++ Y).Perm (X1 μ1)) (hst : (as.map (zv ad)).reverse ++ .ref (ad b) :: rest = st0)
    (kk : ∀ (r : Int32) (μ1 : Sg), post r μ1 → Wm TB l R own cc nL ret D cT zI [] A Z (X1 μ1) q ls (.int r :: rest) σ0 k n) : Wm TB l R own cc nL ret D cT zI [] A Z X pc ls st0 σ0 k n := by
  subst hq
  subst hst
  intro p e s m args below meth c H locs la CC w0 hl
  obtain ⟨hx, hb, hml, hown, hts, hr, hlk, hTB⟩ := id CC
  have w := zl_w w0 hp
  have hG : GoodIn zAll (wsV own index C y (Cond.code y bytes maxL (some ty) :: zAll)) := zGoodIn (fun w9 h9 => by
    rcases List.mem_append.mp h9 with h9 | h9
    · simp only [List.mem_cons, List.not_mem_nil, or_false] at h9
      rcases h9 with rfl | rfl | rfl | rfl
      · exact hl9
      · exact hv.1
      · exact hv.2
      · rw [← hC]; exact hc.2.1
    · exact zwords hc w9 h9)
  refine va_calli (va_runV (As := as.map (zv ad)) (rest := rest) ⟨hx, hb, hml, hown, hts⟩ (hM D cT ad H.size) (cwV as.length hts hG rfl rfl rfl ⟨hC, hc.2.2.1, hc.2.2.2.1, hc.2.2.2.2⟩ hR) ⟨zpre_blind, va_recv w.2.1 w.2.2.1 hci (zw_get _ hL), fun U hU hW => zpre_of (.ref b :: as) w hU hW⟩ rfl (by simp) hl.1 (by rw [zvI]) (lv_room hcat) d hk) w.2.2.2.2 (fun q _ h => zfree w q h) (zfree w) (fun r σ1 t H1 locs1 ht hvm hw hB hz1 hk1 hS => ?_)
  have kk9 := kk r σ1 hw p e s m args below meth c H1 locs1 la CC (zl_back (zjoin w ht hB hk1 hS) (hp1 σ1)) hl
  rw [List.map_cons, zvI] at kk9
  exact kk9
theorem wl_callVl {post : Int64 → Sg → Prop} {C : String} {T : u_T} {N : Nat} {fs : List (Option Nat)} (q : Nat) (hq : pc + 3 = q) (d : decode cc pc = .ok (.invokevirtual index, 3)) (hM : cMl l y bytes maxL h L (.ref b :: as) μ post) (hc : zCal y bytes maxL (some .long) as.length) (hv : zCaV C y) (hC : y.cls = C) (hl9 : Cond.methodLink own index y ∈ zAll) (hL : L[b]? = some (.inr (.inr (ci, fs)))) (hci : vwCl[ci]? = some (C, T, N)) (hR : h + 1 ≤ R.frames ∧ 8 + (maxL + 11) + 36 * h ≤ R.locals) (hcat : (rest.map fun v => v.category).sum ≤ 8) (hk : k ≤ R.cells ∧ n ≤ R.slots) (hp : X.Perm (zw cT ad L μ ++ Y)) (X1 : Sg → va_W) (hp1 : ∀ μ1, (zw cT ad L μ1 ++ Y).Perm (X1 μ1)) (hst : (as.map (zv ad)).reverse ++ .ref (ad b) :: rest = st0)
    (kk : ∀ (r : Int64) (μ1 : Sg), post r μ1 → Wm TB l R own cc nL ret D cT zI [] A Z (X1 μ1) q ls (.long r :: rest) σ0 k n) : Wm TB l R own cc nL ret D cT zI [] A Z X pc ls st0 σ0 k n := by
  subst hq
  subst hst
  intro p e s m args below meth c H locs la CC w0 hl
  obtain ⟨hx, hb, hml, hown, hts, hr, hlk, hTB⟩ := id CC
  have w := zl_w w0 hp
  have hG : GoodIn zAll (wsV own index C y (Cond.code y bytes maxL (some .long) :: zAll)) := zGoodIn (fun w9 h9 => by
    rcases List.mem_append.mp h9 with h9 | h9
    · simp only [List.mem_cons, List.not_mem_nil, or_false] at h9
      rcases h9 with rfl | rfl | rfl | rfl
      · exact hl9
      · exact hv.1
      · exact hv.2
      · rw [← hC]; exact hc.2.1
    · exact zwords hc w9 h9)
  refine va_calll (va_runV (As := as.map (zv ad)) (rest := rest) ⟨hx, hb, hml, hown, hts⟩ (hM D cT ad H.size) (cwV as.length hts hG rfl rfl rfl ⟨hC, hc.2.2.1, hc.2.2.2.1, hc.2.2.2.2⟩ hR) ⟨zpre_blind, va_recv w.2.1 w.2.2.1 hci (zw_get _ hL), fun U hU hW => zpre_of (.ref b :: as) w hU hW⟩ rfl (by simp) hl.1 (by rw [zvI]) (lv_room hcat) d hk) w.2.2.2.2 (fun q _ h => zfree w q h) (zfree w) (fun r σ1 t H1 locs1 ht hvm hw hB hz1 hk1 hS => ?_)
  have kk9 := kk r σ1 hw p e s m args below meth c H1 locs1 la CC (zl_back (zjoin w ht hB hk1 hS) (hp1 σ1)) hl
  rw [List.map_cons, zvI] at kk9
  exact kk9
theorem wl_callVf {post : UInt32 → Sg → Prop} {C : String} {T : u_T} {N : Nat} {fs : List (Option Nat)} (q : Nat) (hq : pc + 3 = q) (d : decode cc pc = .ok (.invokevirtual index, 3)) (hM : cMf l y bytes maxL h L (.ref b :: as) μ post) (hc : zCal y bytes maxL (some .float) as.length) (hv : zCaV C y) (hC : y.cls = C) (hl9 : Cond.methodLink own index y ∈ zAll) (hL : L[b]? = some (.inr (.inr (ci, fs)))) (hci : vwCl[ci]? = some (C, T, N)) (hR : h + 1 ≤ R.frames ∧ 8 + (maxL + 11) + 36 * h ≤ R.locals) (hcat : (rest.map fun v => v.category).sum ≤ 8) (hk : k ≤ R.cells ∧ n ≤ R.slots) (hp : X.Perm (zw cT ad L μ ++ Y)) (X1 : Sg → va_W) (hp1 : ∀ μ1, (zw cT ad L μ1 ++ Y).Perm (X1 μ1)) (hst : (as.map (zv ad)).reverse ++ .ref (ad b) :: rest = st0)
    (kk : ∀ (r : UInt32) (μ1 : Sg), post r μ1 → Wm TB l R own cc nL ret D cT zI [] A Z (X1 μ1) q ls (.float r :: rest) σ0 k n) : Wm TB l R own cc nL ret D cT zI [] A Z X pc ls st0 σ0 k n := by
  subst hq
  subst hst
  intro p e s m args below meth c H locs la CC w0 hl
  obtain ⟨hx, hb, hml, hown, hts, hr, hlk, hTB⟩ := id CC
  have w := zl_w w0 hp
  have hG : GoodIn zAll (wsV own index C y (Cond.code y bytes maxL (some .float) :: zAll)) := zGoodIn (fun w9 h9 => by
    rcases List.mem_append.mp h9 with h9 | h9
    · simp only [List.mem_cons, List.not_mem_nil, or_false] at h9
      rcases h9 with rfl | rfl | rfl | rfl
      · exact hl9
      · exact hv.1
      · exact hv.2
      · rw [← hC]; exact hc.2.1
    · exact zwords hc w9 h9)
  refine va_callf (va_runV (As := as.map (zv ad)) (rest := rest) ⟨hx, hb, hml, hown, hts⟩ (hM D cT ad H.size) (cwV as.length hts hG rfl rfl rfl ⟨hC, hc.2.2.1, hc.2.2.2.1, hc.2.2.2.2⟩ hR) ⟨zpre_blind, va_recv w.2.1 w.2.2.1 hci (zw_get _ hL), fun U hU hW => zpre_of (.ref b :: as) w hU hW⟩ rfl (by simp) hl.1 (by rw [zvI]) (lv_room hcat) d hk) w.2.2.2.2 (fun q _ h => zfree w q h) (zfree w) (fun r σ1 t H1 locs1 ht hvm hw hB hz1 hk1 hS => ?_)
  have kk9 := kk r σ1 hw p e s m args below meth c H1 locs1 la CC (zl_back (zjoin w ht hB hk1 hS) (hp1 σ1)) hl
  rw [List.map_cons, zvI] at kk9
  exact kk9
/-- the call of a method of the law's own that has a table -/
theorem wl_callW {V : Type} {en : (Nat → Nat) → V → va_E} {σ : Sg} {o : V} {post : Int32 → Sg × V → Prop} {hh : List (Nat × Nat × Nat × Nat)} (q : Nat) (hq : pc + 3 = q) (d : decode cc pc = .ok (.invokestatic index, 3)) (hM : zMw l y bytes maxL hh h mc ms en as σ o post) (hcw : Cond.codeWith y bytes maxL (some .int) hh ∈ zAll) (hini : Cond.initialized y.cls ∈ zAll) (hd : y.cls ≠ "java/lang/invoke/MethodHandle" ∧ y.cls ≠ "java/lang/invoke/VarHandle" ∧ (parseMethodDescriptor y.desc).map (fun d => d.parameters.length) = some as.length) (hs9 : Cond.static y ∈ zAll) (hl9 : Cond.methodLink own index y ∈ zAll) (hR : h + 1 ≤ R.frames ∧ 8 + (maxL + 11) + 36 * h ≤ R.locals) (hcat : (rest.map fun v => v.category).sum ≤ 8) (hk : k + mc ≤ R.cells ∧ n + ms ≤ R.slots) (hp : zImp D A X ((zw cT ad Lc σ ++ [(ad 27, en cT o)]) ++ Y)) (X1 : Sg → V → va_W) (hp1 : ∀ σ1 o1, zImp D A ((zw cT ad Lc σ1 ++ [(ad 27, en cT o1)]) ++ Y) (X1 σ1 o1)) (hst : (as.map (zv ad)).reverse ++ rest = st0)
    (kk : ∀ (r : Int32) (σ1 : Sg) (o1 : V), post r (σ1, o1) → Wm TB l R own cc nL ret D cT zI [] A Z (X1 σ1 o1) q ls (.int r :: rest) σ0 (k + mc) (n + ms)) : Wm TB l R own cc nL ret D cT zI [] A Z X pc ls st0 σ0 k n := by
  subst hq
  subst hst
  intro p e s m args below meth c H locs la CC w hl
  obtain ⟨hx, hb, hml, hown, hts, hr, hlk, hTB⟩ := id CC
  have hP0 := hp.1 _ w.2.2.1
  have hD0 := hp.2 w.2.2.2.1
  have hG : GoodIn zAll (va_wsS own index y (Cond.codeWith y bytes maxL (some .int) hh :: zAll)) := zGoodIn (fun w9 h9 => by
    rcases List.mem_append.mp h9 with h9 | h9
    · simp only [List.mem_cons, List.not_mem_nil, or_false] at h9
      rcases h9 with rfl | rfl | rfl
      · exact hl9
      · exact hs9
      · exact hini
    · rcases List.mem_cons.mp h9 with rfl | h9
      · exact hcw
      · exact h9)
  have hA9 : ∀ q, zA ad 28 H.size q → A q := by
    intro q hq
    rcases hq with ⟨j, hj, rfl⟩ | hq
    · by_cases h27 : j < 27
      · have h1 := zw_get (cT := cT) (ad := ad) (σ := σ) ([(ad 27, en cT o)] ++ Y) (List.getElem?_eq_getElem (show j < Lc.length from h27))
        rw [← List.append_assoc] at h1
        exact hD0.2 _ _ h1
      · have : j = 27 := by omega
        subst this
        exact hD0.2 27 (ad 27, en cT o) (by rw [List.getElem?_append_left (by rw [List.length_append, zw_len]; exact Nat.lt_succ_self 27)]; exact zw_27 _ _ _ _)
    · exact w.1.1 q (Nat.le_trans w.2.2.2.2.1 hq)
  refine va_calli (vx_runSW (hh := hh) (As := as.map (zv ad)) (rest := rest) ⟨hx, hb, hml, hown, hts⟩ (hM D cT ad H.size) (vx_cwSW as.length hts hG rfl rfl rfl hd hR) ⟨zPw_blind, fun U hU hW => ⟨rfl, by rw [hU], by rw [hU]; exact zP_left hP0, va_K.moved hW.alike w.2.1, (zD_left hD0).weaken (fun _ _ _ _ => trivial), zE_warm w.1.2 w.2.2.2.2 hU hW hA9⟩⟩ rfl (by simp) hl.1 (by rw [zvI]) (lv_room hcat) d hk) w.2.2.2.2 (fun q _ h => hA9 q h) hA9 (fun r u t H1 locs1 ht hvm hw hB hz1 hk1 hS => ?_)
  obtain ⟨σ1, o1⟩ := u
  have hj := zl_join (W1 := zw cT ad Lc σ1 ++ [(ad 27, en cT o1)]) (A1 := zA ad 28 H.size) w.2.2.1 w.2.2.2.1 hp (by rw [List.map_append, List.map_append, zw_fst cT ad Lc σ σ1]; rfl) (fun q hq h => by
    rcases h with ⟨j, hj, rfl⟩ | h
    · rw [List.map_append, List.mem_append]
      by_cases h27 : j < 27
      · exact Or.inl (zw_mem h27)
      · have : j = 27 := by omega
        subst this
        exact Or.inr List.mem_cons_self
    · omega) hk1 (by rw [← ht]; exact hB.1) (hp1 σ1 o1)
  have kk9 := kk r σ1 o1 hw p e s m args below meth c H1 locs1 la CC ⟨w.1, w.2.1, hj.1, hj.2, hS⟩ hl
  rw [List.map_cons, zvI] at kk9
  exact kk9
end LAWR
/-- the world of both sides: the class, the answer's cell, the model, the fraction's cell -/
def lX (cT ac am : Nat → Nat) (aD : Nat) (σ μ : Sg) (o : Nat → Int64) (u : Nat → UInt64) : va_W := (zw cT ac Lc σ ++ [(ac 27, oL cT o)]) ++ (zw cT am Lm μ ++ [(aD, oD cT u)])
def acD (ac : Nat → Nat) (aD : Nat) : Nat → Nat := fun k => if k = 27 then aD else ac k
theorem lX_C {cT ac am : Nat → Nat} {aD : Nat} {σ μ : Sg} {o : Nat → Int64} {u : Nat → UInt64} : (lX cT ac am aD σ μ o u).Perm (zw cT ac Lc σ ++ ([(ac 27, oL cT o)] ++ (zw cT am Lm μ ++ [(aD, oD cT u)]))) := by
  unfold lX
  rw [List.append_assoc]
theorem lX_M {cT ac am : Nat → Nat} {aD : Nat} {σ μ : Sg} {o : Nat → Int64} {u : Nat → UInt64} : (lX cT ac am aD σ μ o u).Perm (zw cT am Lm μ ++ ((zw cT ac Lc σ ++ [(ac 27, oL cT o)]) ++ [(aD, oD cT u)])) := by
  unfold lX
  rw [← List.append_assoc, ← List.append_assoc]
  exact List.Perm.append_right _ List.perm_append_comm
theorem acD_eq (ac : Nat → Nat) (aD : Nat) : ∀ k, k < 27 → acD ac aD k = ac k := fun k hk => if_neg (by omega)
theorem lX_D {D : va_G} {A : Nat → Prop} {cT ac am : Nat → Nat} {aD : Nat} {σ μ : Sg} {o : Nat → Int64} {u : Nat → UInt64} : zImp D A (lX cT ac am aD σ μ o u) ((zw cT (acD ac aD) Lc σ ++ [(acD ac aD 27, oD cT u)]) ++ ([(ac 27, oL cT o)] ++ zw cT am Lm μ)) := by
  rw [List.append_assoc]
  refine zImp.tr (zImp.perm ?_) (zImp_27 (fun k hk => (acD_eq ac aD k hk).symm))
  show ((zw cT ac Lc σ ++ [(ac 27, oL cT o)]) ++ (zw cT am Lm μ ++ [(aD, oD cT u)])).Perm (zw cT ac Lc σ ++ ([(aD, oD cT u)] ++ ([(ac 27, oL cT o)] ++ zw cT am Lm μ)))
  rw [List.append_assoc]
  refine List.Perm.append_left _ ?_
  rw [← List.append_assoc]
  exact List.perm_append_comm
theorem lX_Dr {D : va_G} {A : Nat → Prop} {cT ac am : Nat → Nat} {aD : Nat} {σ μ : Sg} {o : Nat → Int64} {u : Nat → UInt64} : zImp D A ((zw cT (acD ac aD) Lc σ ++ [(acD ac aD 27, oD cT u)]) ++ ([(ac 27, oL cT o)] ++ zw cT am Lm μ)) (lX cT ac am aD σ μ o u) := by
  rw [List.append_assoc]
  refine zImp.tr (zImp_27 (acD_eq ac aD)) (zImp.perm ?_)
  show (zw cT ac Lc σ ++ ([(aD, oD cT u)] ++ ([(ac 27, oL cT o)] ++ zw cT am Lm μ))).Perm ((zw cT ac Lc σ ++ [(ac 27, oL cT o)]) ++ (zw cT am Lm μ ++ [(aD, oD cT u)]))
  rw [List.append_assoc]
  refine List.Perm.append_left _ ((List.perm_append_comm (l₁ := [(aD, oD cT u)]) (l₂ := [(ac 27, oL cT o)] ++ zw cT am Lm μ)).trans ?_)
  rw [List.append_assoc]
/-- what the start says that the body reads: the script -/
def lSz (b N sz : Nat) (xs : Nat → Int32) (args : Array Value) (s : State) : Prop := args = #[Value.ref b] ∧ s.heap.size = sz ∧ b < sz ∧ va_X b N xs s s.heap
abbrev lA (sz : Nat) : Nat → Prop := fun q => sz ≤ q
def lZ (b N sz : Nat) (xs : Nat → Int32) (below : List Frame) (args : Array Value) (s : State) : State → Prop := fun t => lSz b N sz xs args s → lw_Z below args s t
section LAWB
variable {TB : Method → Code → Prop} {l : Launch} {R : Room} {own : String} {cc : ByteArray} {nL : Nat} {ret : Option FieldType} {D : va_G} {cT : Nat → Nat} {X : va_W} {pc b N sz : Nat} {xs : Nat → Int32} {ls : List (Nat × Value)} {st : List Value} {σ : Sg} {k n : Nat}
theorem lZ_by {p : Program} {e : Env} {s : State} {m : MethodId} {args : Array Value} {below : List Frame} {meth : Method} {c : Code} {H : Heap} {locs : List Loc} {g : JFrame} (h : lSz b N sz xs args s → W p l e R s m args below meth c H locs k n (lZ b N sz xs below args s) g) : W p l e R s m args below meth c H locs k n (lZ b N sz xs below args s) g := by
  by_cases hΦ : lSz b N sz xs args s
  · exact h hΦ
  · intro T hT Xs
    exact ⟨_, Steps.refl _, fun q => absurd q hΦ⟩
theorem wl_slen (q : Nat) (hq : pc + 1 = q) (d : decode cc pc = .ok (.arraylength, 1)) (kk : Wm TB l R own cc nL ret D cT zI [] (lA sz) (lZ b N sz xs) X q ls (.int (Int32.ofNat N) :: st) σ k n) : Wm TB l R own cc nL ret D cT zI [] (lA sz) (lZ b N sz xs) X pc ls (.ref b :: st) σ k n := by
  subst hq
  intro p e s m args below meth c H locs la C w hl
  obtain ⟨hx, hb, hml, hown, hts, hr, hlk, hTB⟩ := id C
  refine lZ_by (fun hΦ => ?_)
  exact va_slen hx hb hΦ.2.2.2 (by rw [hΦ.2.1]; exact hΦ.2.2.1) (Nat.not_le.mpr hΦ.2.2.1) w.2.2.2.2 d (kk p e s m args below meth c H locs la C w hl)
theorem wl_sld {i : Int32} (q : Nat) (hq : pc + 1 = q) (d : decode cc pc = .ok (.iaload, 1)) (hin : vp_in i N) (kk : Wm TB l R own cc nL ret D cT zI [] (lA sz) (lZ b N sz xs) X q ls (.int (xs i.toNatClampNeg) :: st) σ k n) : Wm TB l R own cc nL ret D cT zI [] (lA sz) (lZ b N sz xs) X pc ls (.int i :: .ref b :: st) σ k n := by
  subst hq
  intro p e s m args below meth c H locs la C w hl
  obtain ⟨hx, hb, hml, hown, hts, hr, hlk, hTB⟩ := id C
  refine lZ_by (fun hΦ => ?_)
  exact va_sld hx hb hΦ.2.2.2 (by rw [hΦ.2.1]; exact hΦ.2.2.1) (Nat.not_le.mpr hΦ.2.2.1) w.2.2.2.2 hin d (kk p e s m args below meth c H locs la C w hl)
variable {A : Nat → Prop} {Z : List Frame → Array Value → State → State → Prop} {ac am : Nat → Nat} {aD : Nat} {μ σ1 : Sg} {o : Nat → Int64} {u : Nat → UInt64}
theorem lX_27 : (lX cT ac am aD σ μ o u)[27]? = some (ac 27, oL cT o) := by
  unfold lX
  rw [List.getElem?_append_left (by rw [List.length_append, zw_len]; exact Nat.lt_succ_self 27)]
  exact zw_27 _ _ _ _
theorem lX_87 : (lX cT ac am aD σ μ o u)[87]? = some (aD, oD cT u) := by
  unfold lX
  rw [List.getElem?_append_right (by rw [List.length_append, zw_len]; exact Nat.le_of_ble_eq_true rfl), List.length_append, zw_len]
  rw [List.getElem?_append_right (by rw [zw_len]; exact Nat.le_of_ble_eq_true rfl), zw_len]
  rfl
theorem wl_lald {i : Int32} (q : Nat) (hq : pc + 1 = q) (d : decode cc pc = .ok (.laload, 1)) (hin : vp_in i 1) (kk : Wm TB l R own cc nL ret D cT zI [] A Z (lX cT ac am aD σ μ o u) q ls (.long (o i.toNatClampNeg) :: st) σ1 k n) : Wm TB l R own cc nL ret D cT zI [] A Z (lX cT ac am aD σ μ o u) pc ls (.int i :: .ref (ac 27) :: st) σ1 k n := by
  subst hq
  intro p e s m args below meth c H locs la C w hl
  obtain ⟨hx, hb, hml, hown, hts, hr, hlk, hTB⟩ := id C
  have hP := w.2.2.1
  rw [zw_I0] at hP
  exact va_lald (ws := lX cT ac am aD σ μ o u) (a := ac 27) (cA := cT 3) (n := 1) (f := o) hx hb w.2.1 hP 27 3 lX_27 rfl hin d (kk p e s m args below meth c H locs la C w hl)
theorem wl_dald {i : Int32} (q : Nat) (hq : pc + 1 = q) (d : decode cc pc = .ok (.daload, 1)) (hin : vp_in i 1) (kk : Wm TB l R own cc nL ret D cT zI [] A Z (lX cT ac am aD σ μ o u) q ls (.double (u i.toNatClampNeg) :: st) σ1 k n) : Wm TB l R own cc nL ret D cT zI [] A Z (lX cT ac am aD σ μ o u) pc ls (.int i :: .ref aD :: st) σ1 k n := by
  subst hq
  intro p e s m args below meth c H locs la C w hl
  obtain ⟨hx, hb, hml, hown, hts, hr, hlk, hTB⟩ := id C
  have hP := w.2.2.1
  rw [zw_I0] at hP
  exact va_dald (ws := lX cT ac am aD σ μ o u) (a := aD) (cA := cT 4) (n := 1) (f := u) hx hb w.2.1 hP 87 4 lX_87 rfl hin d (kk p e s m args below meth c H locs la C w hl)
theorem wm_dcmp {L : List Dsc} {ad : Nat → Nat} {x y : UInt64} {op : CmpOp} (q : Nat) (hq : pc + 1 = q) (d : decode cc pc = .ok (.dcmp op, 1)) (kk : Wm TB l R own cc nL ret D cT ad L A Z X q ls (.int (Op.cmpValue (FP.dcmp x y) op) :: st) σ k n) : Wm TB l R own cc nL ret D cT ad L A Z X pc ls (.double y :: .double x :: st) σ k n := by
  subst hq
  intro p e s m args below meth c H locs la C w hl
  obtain ⟨hx, hb, hml, hown, hts, hr, hlk, hTB⟩ := id C
  exact lv_dcmp hx hb d (kk p e s m args below meth c H locs la C w hl)
theorem wm_tabIn {L : List Dsc} {ad : Nat → Nat} {dflt lo hi : Int} {offs : Array Int} {len : Nat} {x : Int32} {off : Int} (tgt : Nat) (d : decode cc pc = .ok (.tableswitch dflt lo hi offs, len)) (h1 : ¬ x.toInt < lo) (h2 : ¬ hi < x.toInt) (ho : offs[(x.toInt - lo).toNat]? = some off) (ht : (pc : Int) + off = (tgt : Int)) (kk : Wm TB l R own cc nL ret D cT ad L A Z X tgt ls st σ k n) : Wm TB l R own cc nL ret D cT ad L A Z X pc ls (.int x :: st) σ k n := by
  intro p e s m args below meth c H locs la C w hl
  obtain ⟨hx, hb, hml, hown, hts, hr, hlk, hTB⟩ := id C
  exact lv_tableIn hx hb d h1 h2 ho ht (kk p e s m args below meth c H locs la C w hl)
theorem wm_tabOut {L : List Dsc} {ad : Nat → Nat} {dflt lo hi : Int} {offs : Array Int} {len : Nat} {x : Int32} (tgt : Nat) (d : decode cc pc = .ok (.tableswitch dflt lo hi offs, len)) (h : x.toInt < lo ∨ hi < x.toInt) (ht : (pc : Int) + dflt = (tgt : Int)) (kk : Wm TB l R own cc nL ret D cT ad L A Z X tgt ls st σ k n) : Wm TB l R own cc nL ret D cT ad L A Z X pc ls (.int x :: st) σ k n := by
  intro p e s m args below meth c H locs la C w hl
  obtain ⟨hx, hb, hml, hown, hts, hr, hlk, hTB⟩ := id C
  exact lv_tableOut hx hb d h ht (kk p e s m args below meth c H locs la C w hl)
/-- the law's end with 1 -/
theorem wl_end (hcc : cc = code) (hret : ret = lw_rt) (d : decode code pc = .ok (.ireturn, 1)) (hk : k ≤ 646177) (hn : n ≤ 7157572) : Wm TB l room_1 own cc nL ret D cT zI [] (lA sz) (lZ b N sz xs) X pc ls [.int 1] σ k n := by
  intro p e s m args below meth c H locs la C w hl
  obtain ⟨hx, hb, hml, hown, hts, hr, hlk, hTB⟩ := id C
  refine lZ_by (fun hΦ => ?_)
  obtain ⟨rfl, hsz, -, -⟩ := hΦ
  refine va_forget (fun q hq => by rw [hsz]; exact w.2.2.2.2.2.2 q hq) ?_
  have h1 := lw_ret (p := p) (l := l) (e := e) (s := s) (m := m) (below := below) (meth := meth) (c := c) (b := b) (d0 := s.drawn) (Drawn.sameBut.refl s.drawn lw_cs) hx (hb.trans hcc) (hr.trans hret) hlk (pc := pc) (H := H) (ls := la) d
  have h2 : W p l e room_1 s m #[Value.ref b] below meth c H [] 646177 7157572 (lw_Z below #[Value.ref b] s) (F0 m pc la [.int 1]) := W.base h1
  intro T hT Xs
  obtain ⟨t, a1, b1⟩ := h2 T hT (stand_widen Xs hk hn)
  exact ⟨t, a1, fun _ => b1⟩
end LAWB
