/-! THE LAW'S METHODS that call the class and catch: the class's world and the cell of the answer (number 27) -/
abbrev oL (cT : Nat → Nat) (o : Nat → Int64) : va_E := .inl (cT 3, 1, .inr (.inl o))
abbrev oD (cT : Nat → Nat) (o : Nat → UInt64) : va_E := .inl (cT 4, 1, .inr (.inr (.inr (.inl o))))
def zPw (D : va_G) (cT ad : Nat → Nat) (sz : Nat) (as : List Value) (σ : Sg) (e0 : va_E) : Array Value → State → Prop := va_Pc (as.map (zv ad)) (fun U => U.heap.size = sz ∧ va_P D vwCl (zw cT ad Lc σ ++ [(ad 27, e0)]) U.heap ∧ va_K D vwCl (ztys cT) U ∧ va_D (fun _ => True) (zw cT ad Lc σ ++ [(ad 27, e0)]) ∧ zE (zA ad 28 sz) U)
def zBw {V : Type} (en : (Nat → Nat) → V → va_E) (D : va_G) (cT ad : Nat → Nat) (A : Nat → Prop) (u : Sg × V) (t : State) : Prop := va_P D vwCl (zw cT ad Lc u.1 ++ [(ad 27, en cT u.2)]) t.heap ∧ va_D A (zw cT ad Lc u.1 ++ [(ad 27, en cT u.2)])
def zQw {V : Type} (en : (Nat → Nat) → V → va_E) (post : Int32 → Sg × V → Prop) (D : va_G) (cT ad : Nat → Nat) (sz : Nat) : Array Value → State → Outcome → State → Prop := va_Qi post (zBw en D cT ad (zA ad 28 sz)) (zA ad 28 sz)
abbrev zZw {V : Type} (en : (Nat → Nat) → V → va_E) (post : Int32 → Sg × V → Prop) (mc ms : Nat) (D : va_G) (cT ad : Nat → Nat) (sz : Nat) : List Frame → Array Value → State → State → Prop := fun below args s => MQ below (zQw en post D cT ad sz) args s mc ms (zA ad 28 sz)
def zMw (l : Launch) (y : MethodName) (bytes : ByteArray) (maxL : Nat) (hh : List (Nat × Nat × Nat × Nat)) (h mc ms : Nat) {V : Type} (en : (Nat → Nat) → V → va_E) (as : List Value) (σ : Sg) (o : V) (post : Int32 → Sg × V → Prop) : Prop :=
  ∀ (D : va_G) (cT ad : Nat → Nat) (sz : Nat), Met l y (Cond.codeWith y bytes maxL (some .int) hh :: zAll) (rmx h mc ms) (zPw D cT ad sz as σ (en cT o)) (zQw en post D cT ad sz) mc ms (zA ad 28 sz)
abbrev zTh (hh : List (Nat × Nat × Nat × Nat)) (_ : Method) (c : Code) : Prop := c.exceptionTable.toList = tableOf hh
theorem zPw_blind {D : va_G} {cT ad : Nat → Nat} {sz : Nat} {as : List Value} {σ : Sg} {e0 : va_E} : FrameBlind (zPw D cT ad sz as σ e0) := by
  intro a U g mk q
  obtain ⟨q0, q1, qP, qK, qD, qE⟩ := q
  exact ⟨q0, q1, qP, va_K.moved (u := U) (U := U.calling g mk a) (Vm.Alike.refl U.vm) qK, qD, zE_calling qE⟩
theorem zw_ad {cT ad : Nat → Nat} {L : List Dsc} {σ : Sg} {k : Nat} {q : Nat × va_E} (h : (zw cT ad L σ)[k]? = some q) : q.1 = ad k ∧ k < L.length := by
  have hl : k < L.length := by rw [← zw_len cT ad L σ]; exact (List.getElem?_eq_some_iff.mp h).1
  rw [zw, List.getElem?_mapIdx, List.getElem?_eq_getElem hl] at h
  cases h
  exact ⟨rfl, hl⟩
theorem zX_ad {cT ad : Nat → Nat} {σ : Sg} {e0 : va_E} {k : Nat} {q : Nat × va_E} (h : (zw cT ad Lc σ ++ [(ad 27, e0)])[k]? = some q) : q.1 = ad k ∧ k < 28 := by
  by_cases hk : k < 27
  · rw [List.getElem?_append_left (by rw [zw_len]; exact hk)] at h
    exact ⟨(zw_ad h).1, by omega⟩
  · have h1 := (List.getElem?_eq_some_iff.mp h).1
    rw [List.length_append, zw_len] at h1
    have h2 : k < 27 + 1 := h1
    have h3 : k = 27 := by omega
    subst h3
    rw [List.getElem?_append_right (by rw [zw_len]; exact Nat.le_refl _), zw_len] at h
    cases h
    exact ⟨rfl, by omega⟩
theorem zD_in9 {ad cT : Nat → Nat} {σ : Sg} {e0 : va_E} {sz : Nat} {A : Nat → Prop} (h : va_D A (zw cT ad Lc σ ++ [(ad 27, e0)])) : va_D (zA ad 28 sz) (zw cT ad Lc σ ++ [(ad 27, e0)]) :=
  h.weaken (fun k q hk _ => Or.inl ⟨k, (zX_ad hk).2, (zX_ad hk).1⟩)
/-- a contract of a law's method out of a walk -/
theorem zMw_of {l : Launch} {y : MethodName} {bytes : ByteArray} {maxL : Nat} {hh : List (Nat × Nat × Nat × Nat)} {h mc ms : Nat} {V : Type} {en : (Nat → Nat) → V → va_E} {as : List Value} {σ : Sg} {o : V} {post : Int32 → Sg × V → Prop}
    (hy : plainName y.cls = true) (hn : (lg_sl as).length ≤ maxL)
    (hw : ∀ (D : va_G) (cT ad : Nat → Nat) (sz : Nat), Wm (zTh hh) l (rmx h mc ms) y.cls bytes maxL (some .int) D cT ad Lc (zA ad 28 sz) (zZw en post mc ms D cT ad sz) [(ad 27, en cT o)] 0 (lv_args 0 as) [] σ 0 0) : zMw l y bytes maxL hh h mc ms en as σ o post := by
  intro D cT ad sz
  refine va_MetW (cc := bytes) (maxL := maxL) (ret := some .int) (hh := hh) hy rfl ?_
  intro p e s m args below meth c s₁ B hml hv
  have htb : c.exceptionTable.toList = tableOf hh := vx_table (x := y) B (atoms_spec (ws := Cond.codeWith y bytes maxL (some .int) hh :: zAll) B.pre _ List.mem_cons_self)
  obtain ⟨rfl, hsz, hP, hK, hD0, hE⟩ := hv
  have hown : s.vm.findClass y.cls = some m.cls := findClass_of_methodNamed B.named
  have hts : ∀ w ∈ zAll, w.before (as.map (zv ad)).toArray s = true := fun w hw9 => atoms_spec (ws := Cond.codeWith y bytes maxL (some .int) hh :: zAll) B.pre w (List.mem_cons_of_mem _ hw9)
  subst hsz
  have hl := lv_entry (as.map (zv ad)) (n := maxL) (by rw [zlg_len]; exact hn)
  rw [lg_entry_eq]
  generalize (lg_sl (as.map (zv ad)) ++ List.replicate (maxL - (lg_sl (as.map (zv ad))).length) Slot.unset).toArray = la at hl ⊢
  rw [zlv_args] at hl
  exact hw D cT ad s.heap.size p e s m _ below meth c s.heap [] la ⟨B.exec, B.bytes, hml, hown, hts, B.returns, B.notSynchronized, htb⟩ ⟨⟨fun q hq => Or.inr hq, hE⟩, hK, hP, zD_in9 hD0, va_S.rf⟩ hl
/-- where the table of a law's method takes E: a store, a constant, the end -/
def zHd (cc : ByteArray) (hh : List (Nat × Nat × Nat × Nat)) (pc nL : Nat) (E : String) (v : Int32) : Prop := ∃ (pre : List ExceptionTableEntry) (x : ExceptionTableEntry) (suf : List ExceptionTableEntry) (i ps : Nat) (z : Int), tableOf hh = pre ++ x :: suf ∧ (∀ y ∈ pre, y.catchType ≠ 0 ∧ ∃ nm, Cond.classLink RL y.catchType nm ∈ zAll ∧ (E, nm) ∈ zNCl) ∧ covers x pc = true ∧ x.catchType ≠ 0 ∧ Cond.classLink RL x.catchType E ∈ zAll ∧ Cond.castable E E ∈ zBad ∧ i < nL ∧ ((∃ f : Fin 4, (f : Nat) = i ∧ decode cc x.handlerPc = .ok (.astore_n f, 1) ∧ ps = x.handlerPc + 1) ∨ (decode cc x.handlerPc = .ok (.astore i, 2) ∧ ps = x.handlerPc + 2)) ∧ decode cc ps = .ok (.iconst z, 1) ∧ Int32.ofInt z = v ∧ decode cc (ps + 1) = .ok (.ireturn, 1)
section LWR
variable {l : Launch} {R : Room} {cc : ByteArray} {nL : Nat} {hh : List (Nat × Nat × Nat × Nat)} {D : va_G} {cT ad : Nat → Nat} {pc sz mc ms : Nat} {ls : List (Nat × Value)} {σ : Sg} {k n : Nat} {V : Type} {en : (Nat → Nat) → V → va_E} {o : V} {postw : Int32 → Sg × V → Prop}
theorem zw_ret {p : Program} {e : Env} {s : State} {m : MethodId} {args : Array Value} {below : List Frame} {meth : Method} {c : Code} {H : Heap} {locs : List Loc} {la : Array Slot} {v : Int32} (C : zC (zTh hh) RL cc nL (some .int) p s m args meth c) (w : zW D cT ad Lc [(ad 27, en cT o)] (zA ad 28 sz) s σ H locs) (d : decode cc pc = .ok (.ireturn, 1)) (hp : postw v (σ, o)) (hk : k ≤ mc) (hs : n ≤ ms) :
    W p l e R s m args below meth c H locs k n (zZw en postw mc ms D cT ad sz below args s) (F0 m pc la [.int v]) := by
  obtain ⟨hx, hb, hml, hown, hts, hr, hlk, hTB⟩ := id C
  obtain ⟨hA, hK, hP, hD, hS⟩ := w
  intro T hT Xs
  exact (W.zret hx hb hr rfl (fun t ht hW => ⟨⟨v, (σ, o), rfl, hp, by rw [ht]; exact hP, hD⟩, hS.F ht⟩) hS.2.2 d hlk : W p l e R s m args below meth c H locs mc ms _ _) T hT (stand_widen Xs hk hs)
theorem wmw_iret {v : Int32} (d : decode cc pc = .ok (.ireturn, 1)) (hp : postw v (σ, o)) (hk : k ≤ mc) (hs : n ≤ ms) : Wm (zTh hh) l R RL cc nL (some .int) D cT ad Lc (zA ad 28 sz) (zZw en postw mc ms D cT ad sz) [(ad 27, en cT o)] pc ls [.int v] σ k n := by
  intro p e s m args below meth c H locs la C w hl
  exact zw_ret C w d hp hk hs
theorem zw_hand {p : Program} {e : Env} {s : State} {m : MethodId} {args : Array Value} {below : List Frame} {meth : Method} {c : Code} {H : Heap} {locs : List Loc} {la : Array Slot} {v : Int32} {rest : List Value} {E : String} {ce : Cell} {q9 : Addr} (C : zC (zTh hh) RL cc nL (some .int) p s m args meth c) (w : zW D cT ad Lc [(ad 27, en cT o)] (zA ad 28 sz) s σ H locs) (hl : lv_has la nL (zlm ad ls)) (hd : zHd cc hh pc nL E v) (hp : postw v (σ, o)) (hce : H[q9]? = some ce) (hcv : ce.vm = .none) (hcl : s.vm.findClass E = some ce.cls) (hk : k ≤ mc) (hs : n ≤ ms) :
    vx_W p l e R s m args below meth c H locs k n (zZw en postw mc ms D cT ad sz below args s) (F0 m pc la rest) q9 := by
  obtain ⟨hx, hb, hml, hown, hts, hr, hlk, hTB⟩ := id C
  obtain ⟨pre, x, suf, i, ps, z, h1, h2, h3, h4, h5, h6, h7, h8, h9, h10, h11⟩ := hd
  obtain ⟨e1, -, -, -, -, -, e7⟩ := w.1.2
  refine vx_catch hown pre x suf (hTB.trans h1) (fun y hy => ?_) h3 h4 (hts _ h5) (va_tabs (zBad_ok _ h6).1 (rfl : s.vm = s.vm) (e1 _ h6)) hce hcv hcl ?_
  · obtain ⟨g1, nm, g2, g3⟩ := h2 y hy
    exact Or.inr ⟨g1, nm, hts _ g2, e7 _ g3⟩
  · rcases h8 with ⟨f, hf, g1, rfl⟩ | ⟨g1, rfl⟩
    · exact lv_astore_n hx hb g1 hf hl h7 rfl (fun ls' _ => lv_iconst hx hb h9 h10 (zw_ret C w h11 hp hk hs))
    · exact lv_astore hx hb g1 hl h7 rfl (fun ls' _ => lv_iconst hx hb h9 h10 (zw_ret C w h11 hp hk hs))
variable {y : MethodName} {bytes : ByteArray} {maxL h index b ci mc1 ms1 : Nat} {as rest : List Value} {pX : String → Sg → Prop}
theorem wmw_callVi {ty : FieldType} {post : Int32 → Sg → Prop} {C : String} {T : u_T} {N : Nat} {fs : List (Option Nat)} (q : Nat) (hq : pc + 3 = q) (d : decode cc pc = .ok (.invokevirtual index, 3)) (hM : xMi l y bytes maxL ty h mc1 ms1 Lc (.ref b :: as) σ post pX) (hc : zCal y bytes maxL (some ty) as.length) (hv : zCaV C y) (hC : y.cls = C) (hl9 : Cond.methodLink RL index y ∈ zAll) (hL : Lc[b]? = some (.inr (.inr (ci, fs)))) (hci : vwCl[ci]? = some (C, T, N)) (hR : h + 1 ≤ R.frames ∧ 8 + (maxL + 11) + 36 * h ≤ R.locals) (hcat : (rest.map fun v => v.category).sum ≤ 8) (hk : k + mc1 ≤ R.cells ∧ n + ms1 ≤ R.slots) (hkx : k + mc1 ≤ mc ∧ n + ms1 ≤ ms)
    (hx9 : ∀ E σ1, pX E σ1 → ∃ v, zHd cc hh pc nL E v ∧ postw v (σ1, o))
    (kk : ∀ (r : Int32) (σ1 : Sg), post r σ1 → Wm (zTh hh) l R RL cc nL (some .int) D cT ad Lc (zA ad 28 sz) (zZw en postw mc ms D cT ad sz) [(ad 27, en cT o)] q ls (.int r :: rest) σ1 (k + mc1) (n + ms1)) : Wm (zTh hh) l R RL cc nL (some .int) D cT ad Lc (zA ad 28 sz) (zZw en postw mc ms D cT ad sz) [(ad 27, en cT o)] pc ls (as.reverse ++ .ref b :: rest) σ k n := by
  subst hq
  intro p e s m args below meth c H locs la CC w hl
  obtain ⟨hx, hb, hml, hown, hts, hr, hlk, hTB⟩ := id CC
  have hG : GoodIn zAll (wsV RL index C y (Cond.code y bytes maxL (some ty) :: zAll)) := zGoodIn (fun w9 h9 => by
    rcases List.mem_append.mp h9 with h9 | h9
    · simp only [List.mem_cons, List.not_mem_nil, or_false] at h9
      rcases h9 with rfl | rfl | rfl | rfl
      · exact hl9
      · exact hv.1
      · exact hv.2
      · rw [← hC]; exact hc.2.1
    · exact zwords hc w9 h9)
  refine vx_calli (vx_runV (As := as.map (zv ad)) (rest := rest.map (zv ad)) ⟨hx, hb, hml, hown, hts⟩ (hM D cT ad H.size) (cwV as.length hts hG rfl rfl rfl ⟨hC, hc.2.2.1, hc.2.2.2.1, hc.2.2.2.2⟩ hR) ⟨zpre_blind, va_recv w.2.1 w.2.2.1 hci (zw_get _ hL), fun U hU hW => zpre_of (.ref b :: as) w hU hW⟩ rfl (by simp) hl.1 (by simp [zv]) (lv_room (by rw [zcats]; exact hcat)) d hk) w.2.2.2.2 (fun q _ h => zfree w q h) (zfree w) (fun q _ h => zfree w q h)
    (fun E ce q9 u t H1 locs1 ht hvm _ hB hz1 hk1 hS hce hcv hcl => ?_) (fun r σ1 t H1 locs1 ht hvm hw hB hz1 hk1 hS => ?_)
  · obtain ⟨v, hd, hp⟩ := hx9 E u hB.1
    exact zw_hand CC (zjoin w ht hB.2 hk1 hS) hl hd hp hce hcv hcl hkx.1 hkx.2
  · exact kk r σ1 hw p e s m args below meth c H1 locs1 la CC (zjoin w ht hB hk1 hS) hl
theorem wmw_callVf {post : UInt32 → Sg → Prop} {C : String} {T : u_T} {N : Nat} {fs : List (Option Nat)} (q : Nat) (hq : pc + 3 = q) (d : decode cc pc = .ok (.invokevirtual index, 3)) (hM : xMf l y bytes maxL h mc1 ms1 Lc (.ref b :: as) σ post pX) (hc : zCal y bytes maxL (some .float) as.length) (hv : zCaV C y) (hC : y.cls = C) (hl9 : Cond.methodLink RL index y ∈ zAll) (hL : Lc[b]? = some (.inr (.inr (ci, fs)))) (hci : vwCl[ci]? = some (C, T, N)) (hR : h + 1 ≤ R.frames ∧ 8 + (maxL + 11) + 36 * h ≤ R.locals) (hcat : (rest.map fun v => v.category).sum ≤ 8) (hk : k + mc1 ≤ R.cells ∧ n + ms1 ≤ R.slots) (hkx : k + mc1 ≤ mc ∧ n + ms1 ≤ ms)
    (hx9 : ∀ E σ1, pX E σ1 → ∃ v, zHd cc hh pc nL E v ∧ postw v (σ1, o))
    (kk : ∀ (r : UInt32) (σ1 : Sg), post r σ1 → Wm (zTh hh) l R RL cc nL (some .int) D cT ad Lc (zA ad 28 sz) (zZw en postw mc ms D cT ad sz) [(ad 27, en cT o)] q ls (.float r :: rest) σ1 (k + mc1) (n + ms1)) : Wm (zTh hh) l R RL cc nL (some .int) D cT ad Lc (zA ad 28 sz) (zZw en postw mc ms D cT ad sz) [(ad 27, en cT o)] pc ls (as.reverse ++ .ref b :: rest) σ k n := by
  subst hq
  intro p e s m args below meth c H locs la CC w hl
  obtain ⟨hx, hb, hml, hown, hts, hr, hlk, hTB⟩ := id CC
  have hG : GoodIn zAll (wsV RL index C y (Cond.code y bytes maxL (some .float) :: zAll)) := zGoodIn (fun w9 h9 => by
    rcases List.mem_append.mp h9 with h9 | h9
    · simp only [List.mem_cons, List.not_mem_nil, or_false] at h9
      rcases h9 with rfl | rfl | rfl | rfl
      · exact hl9
      · exact hv.1
      · exact hv.2
      · rw [← hC]; exact hc.2.1
    · exact zwords hc w9 h9)
  refine vx_callf (vx_runV (As := as.map (zv ad)) (rest := rest.map (zv ad)) ⟨hx, hb, hml, hown, hts⟩ (hM D cT ad H.size) (cwV as.length hts hG rfl rfl rfl ⟨hC, hc.2.2.1, hc.2.2.2.1, hc.2.2.2.2⟩ hR) ⟨zpre_blind, va_recv w.2.1 w.2.2.1 hci (zw_get _ hL), fun U hU hW => zpre_of (.ref b :: as) w hU hW⟩ rfl (by simp) hl.1 (by simp [zv]) (lv_room (by rw [zcats]; exact hcat)) d hk) w.2.2.2.2 (fun q _ h => zfree w q h) (zfree w) (fun q _ h => zfree w q h)
    (fun E ce q9 u t H1 locs1 ht hvm _ hB hz1 hk1 hS hce hcv hcl => ?_) (fun r σ1 t H1 locs1 ht hvm hw hB hz1 hk1 hS => ?_)
  · obtain ⟨v, hd, hp⟩ := hx9 E u hB.1
    exact zw_hand CC (zjoin w ht hB.2 hk1 hS) hl hd hp hce hcv hcl hkx.1 hkx.2
  · exact kk r σ1 hw p e s m args below meth c H1 locs1 la CC (zjoin w ht hB hk1 hS) hl
variable {TB : Method → Code → Prop} {A : Nat → Prop} {Z : List Frame → Array Value → State → State → Prop} {ret : Option FieldType} {own : String} {st : List Value}
theorem zw_27 (cT ad : Nat → Nat) (σ : Sg) (e0 : va_E) : (zw cT ad Lc σ ++ [(ad 27, e0)])[27]? = some (ad 27, e0) := by
  rw [List.getElem?_append_right (by rw [zw_len]; exact Nat.le_refl _), zw_len]
  rfl
theorem zw_s27 (cT ad : Nat → Nat) (σ : Sg) (e0 e1 : va_E) : (zw cT ad Lc σ ++ [(ad 27, e0)]).set 27 (ad 27, e1) = zw cT ad Lc σ ++ [(ad 27, e1)] := by
  rw [List.set_append_right _ _ (by rw [zw_len]; exact Nat.le_refl _), zw_len]
  rfl
theorem wmw_last {o : Nat → Int64} {x : Int64} {i : Int32} (q : Nat) (hq : pc + 1 = q) (d : decode cc pc = .ok (.lastore, 1)) (hin : vp_in i 1) (kk : Wm TB l R own cc nL ret D cT ad Lc A Z [(ad 27, oL cT (vp_updL o i.toNatClampNeg x))] q ls st σ k n) : Wm TB l R own cc nL ret D cT ad Lc A Z [(ad 27, oL cT o)] pc ls (.long x :: .int i :: .ref 27 :: st) σ k n := by
  subst hq
  intro p e s m args below meth c H locs la C w hl
  obtain ⟨hx, hb, hml, hown, hts, hr, hlk, hTB⟩ := id C
  refine va_last (a := ad 27) hx hb w.2.1 w.2.2.1 w.2.2.2.1 w.2.2.2.2 27 3 (zw_27 _ _ _ _) rfl hin d (fun H1 locs1 hP hD hS => ?_)
  rw [zw_s27] at hP hD
  exact kk p e s m args below meth c H1 locs1 la C ⟨w.1, w.2.1, hP, hD, hS⟩ hl
theorem wmw_dast {o : Nat → UInt64} {x : UInt64} {i : Int32} (q : Nat) (hq : pc + 1 = q) (d : decode cc pc = .ok (.dastore, 1)) (hin : vp_in i 1) (kk : Wm TB l R own cc nL ret D cT ad Lc A Z [(ad 27, oD cT (vf_upd o i.toNatClampNeg x))] q ls st σ k n) : Wm TB l R own cc nL ret D cT ad Lc A Z [(ad 27, oD cT o)] pc ls (.double x :: .int i :: .ref 27 :: st) σ k n := by
  subst hq
  intro p e s m args below meth c H locs la C w hl
  obtain ⟨hx, hb, hml, hown, hts, hr, hlk, hTB⟩ := id C
  refine va_dast (a := ad 27) hx hb w.2.1 w.2.2.1 w.2.2.2.1 w.2.2.2.2 27 4 (zw_27 _ _ _ _) rfl hin d (fun H1 locs1 hP hD hS => ?_)
  rw [zw_s27] at hP hD
  exact kk p e s m args below meth c H1 locs1 la C ⟨w.1, w.2.1, hP, hD, hS⟩ hl
theorem wm_f2d {L : List Dsc} {X : va_W} {x : UInt32} (q : Nat) (hq : pc + 1 = q) (d : decode cc pc = .ok (.f2d, 1)) (hne : vf_n64 (FP.f2d x)) (kk : Wm TB l R own cc nL ret D cT ad L A Z X q ls (.double (FP.f2d x) :: st) σ k n) : Wm TB l R own cc nL ret D cT ad L A Z X pc ls (.float x :: st) σ k n := by
  subst hq
  intro p e s m args below meth c H locs la C w hl
  obtain ⟨hx, hb, hml, hown, hts, hr, hlk, hTB⟩ := id C
  exact lv_f2d hx hb d hne (kk p e s m args below meth c H locs la C w hl)
end LWR
/-- what a law's method tells: the number of what was thrown, the answer in its cell -/
def wpost (l : List String) {α V : Type} (f : α → V → Prop) (post : α → Sg → Prop) (pX : String → Sg → Prop) : Int32 → Sg × V → Prop := fun k u => ∃ v : α, cres l post pX k v u.1 ∧ (k = 0 → f v u.2)
theorem thr_mem : ∀ {L : List (String × Prop)} {E : String}, thr L E → E ∈ L.map Prod.fst
  | [], _, h => h.elim
  | (E0, P) :: r, E, h => by
    rcases h with ⟨rfl, -⟩ | ⟨-, h⟩
    · exact List.mem_cons_self
    · exact List.mem_cons_of_mem _ (thr_mem h)
theorem wpost_thr {l : List String} {α V : Type} {f : α → V → Prop} {post : α → Sg → Prop} {pX : String → Sg → Prop} {E : String} {σ1 : Sg} {o : V} (v : α) (hl : l.length < 4) (h : pX E σ1) : wpost l f post pX (cdL l E) (σ1, o) :=
  ⟨v, Or.inr ⟨E, h, rfl⟩, fun q => absurd q (cdL_ne l hl E)⟩
theorem wpost_ok {l : List String} {α V : Type} {f : α → V → Prop} {post : α → Sg → Prop} {pX : String → Sg → Prop} {v : α} {σ1 : Sg} {o : V} (h : post v σ1) (hf : f v o) : wpost l f post pX 0 (σ1, o) := ⟨v, Or.inl ⟨rfl, h⟩, fun _ => hf⟩
abbrev fI (v : Int32) (o : Nat → Int64) : Prop := o 0 = v.toInt64
abbrev fZ (v : Int32) (o : Nat → Int64) : Prop := (v = 0 ∨ v = 1) ∧ o 0 = v.toInt64
abbrev nnF (v : UInt32) : Prop := vf_n64 (FP.f2d v) ∧ FP.dcmp (FP.f2d v) (FP.f2d v) = some .eq
abbrev fF (v : UInt32) (o : Nat → UInt64) : Prop := nnF v ∧ o 0 = FP.f2d v
