/-! THE LAW'S METHODS: contracts over the class's world alone, their calls, what they catch -/
abbrev zZl (Q : va_G → (Nat → Nat) → (Nat → Nat) → List Dsc → Nat → Array Value → State → Outcome → State → Prop) (mc ms : Nat) (D : va_G) (cT ad : Nat → Nat) (L : List Dsc) (sz : Nat) : List Frame → Array Value → State → State → Prop := fun below args s => MQ below (Q D cT ad L sz) args s mc ms (zA ad L.length sz)
def lMet (l : Launch) (y : MethodName) (w0 : Cond) (h mc ms : Nat) (as : List Value) (σ : Sg) (Q : va_G → (Nat → Nat) → (Nat → Nat) → List Dsc → Nat → Array Value → State → Outcome → State → Prop) : Prop :=
  ∀ (D : va_G) (cT ad : Nat → Nat) (sz : Nat), Met l y (w0 :: zAll) (rmx h mc ms) (zPc D cT ad Lc sz as σ) (Q D cT ad Lc sz) mc ms (zA ad Lc.length sz)
abbrev lMi (l : Launch) (y : MethodName) (bytes : ByteArray) (maxL : Nat) (hh : List (Nat × Nat × Nat × Nat)) (h mc ms : Nat) (as : List Value) (σ : Sg) (post : Int32 → Sg → Prop) : Prop := lMet l y (Cond.codeWith y bytes maxL (some .int) hh) h mc ms as σ (fun D cT ad L sz => zQi D cT ad L sz post)
abbrev lMf (l : Launch) (y : MethodName) (bytes : ByteArray) (maxL : Nat) (hh : List (Nat × Nat × Nat × Nat)) (h mc ms : Nat) (as : List Value) (σ : Sg) (post : UInt32 → Sg → Prop) : Prop := lMet l y (Cond.codeWith y bytes maxL (some .float) hh) h mc ms as σ (fun D cT ad L sz => zQf D cT ad L sz post)
abbrev sMi (l : Launch) (y : MethodName) (bytes : ByteArray) (maxL : Nat) (ty : FieldType) (h mc ms : Nat) (as : List Value) (σ : Sg) (post : Int32 → Sg → Prop) : Prop := lMet l y (Cond.code y bytes maxL (some ty)) h mc ms as σ (fun D cT ad L sz => zQi D cT ad L sz post)
abbrev sMl (l : Launch) (y : MethodName) (bytes : ByteArray) (maxL : Nat) (h mc ms : Nat) (as : List Value) (σ : Sg) (post : Int64 → Sg → Prop) : Prop := lMet l y (Cond.code y bytes maxL (some .long)) h mc ms as σ (fun D cT ad L sz => zQl D cT ad L sz post)
abbrev zTh (hh : List (Nat × Nat × Nat × Nat)) (_ : Method) (c : Code) : Prop := c.exceptionTable.toList = tableOf hh
theorem lMet_ofH {l : Launch} {y : MethodName} {bytes : ByteArray} {maxL : Nat} {ret : Option FieldType} {hh : List (Nat × Nat × Nat × Nat)} {h mc ms : Nat} {as : List Value} {σ : Sg} {Q : va_G → (Nat → Nat) → (Nat → Nat) → List Dsc → Nat → Array Value → State → Outcome → State → Prop}
    (hy : plainName y.cls = true) (hn : (lg_sl as).length ≤ maxL)
    (hw : ∀ (D : va_G) (cT ad : Nat → Nat) (sz : Nat), Wm (zTh hh) l (rmx h mc ms) y.cls bytes maxL ret D cT ad Lc (zA ad Lc.length sz) (zZl Q mc ms D cT ad Lc sz) [] 0 (lv_args 0 as) [] σ 0 0) : lMet l y (Cond.codeWith y bytes maxL ret hh) h mc ms as σ Q := by
  intro D cT ad sz
  refine va_MetW (cc := bytes) (maxL := maxL) (ret := ret) (hh := hh) hy rfl ?_
  intro p e s m args below meth c s₁ B hml hv
  have htb : c.exceptionTable.toList = tableOf hh := vx_table (x := y) B (atoms_spec (ws := Cond.codeWith y bytes maxL ret hh :: zAll) B.pre _ List.mem_cons_self)
  obtain ⟨rfl, hsz, hP, hK, hD0, hE⟩ := hv
  have hown : s.vm.findClass y.cls = some m.cls := findClass_of_methodNamed B.named
  have hts : ∀ w ∈ zAll, w.before (as.map (zv ad)).toArray s = true := fun w hw9 => atoms_spec (ws := Cond.codeWith y bytes maxL ret hh :: zAll) B.pre w (List.mem_cons_of_mem _ hw9)
  subst hsz
  have hl := lv_entry (as.map (zv ad)) (n := maxL) (by rw [zlg_len]; exact hn)
  rw [lg_entry_eq]
  generalize (lg_sl (as.map (zv ad)) ++ List.replicate (maxL - (lg_sl (as.map (zv ad))).length) Slot.unset).toArray = la at hl ⊢
  rw [zlv_args] at hl
  refine hw D cT ad s.heap.size p e s m _ below meth c s.heap [] la ⟨B.exec, B.bytes, hml, hown, hts, B.returns, B.notSynchronized, htb⟩ ⟨⟨fun q hq => Or.inr hq, hE⟩, hK, ?_, ?_, va_S.rf⟩ hl
  · rw [List.append_nil]; exact hP
  · rw [List.append_nil]; exact zD_in hD0
theorem lMet_of {l : Launch} {y : MethodName} {bytes : ByteArray} {maxL : Nat} {ret : Option FieldType} {h mc ms : Nat} {as : List Value} {σ : Sg} {Q : va_G → (Nat → Nat) → (Nat → Nat) → List Dsc → Nat → Array Value → State → Outcome → State → Prop}
    (hy : plainName y.cls = true) (hn : (lg_sl as).length ≤ maxL)
    (hw : ∀ (D : va_G) (cT ad : Nat → Nat) (sz : Nat), Wm (fun _ _ => True) l (rmx h mc ms) y.cls bytes maxL ret D cT ad Lc (zA ad Lc.length sz) (zZl Q mc ms D cT ad Lc sz) [] 0 (lv_args 0 as) [] σ 0 0) : lMet l y (Cond.code y bytes maxL ret) h mc ms as σ Q := by
  intro D cT ad sz
  refine Met.ofW (cc := bytes) (maxL := maxL) (ret := ret) hy rfl ?_
  intro p e s m args below meth c s₁ B hml hv
  obtain ⟨rfl, hsz, hP, hK, hD0, hE⟩ := hv
  have hown : s.vm.findClass y.cls = some m.cls := findClass_of_methodNamed B.named
  have hts : ∀ w ∈ zAll, w.before (as.map (zv ad)).toArray s = true := fun w hw9 => atoms_spec (ws := Cond.code y bytes maxL ret :: zAll) B.pre w (List.mem_cons_of_mem _ hw9)
  subst hsz
  have hl := lv_entry (as.map (zv ad)) (n := maxL) (by rw [zlg_len]; exact hn)
  rw [lg_entry_eq]
  generalize (lg_sl (as.map (zv ad)) ++ List.replicate (maxL - (lg_sl (as.map (zv ad))).length) Slot.unset).toArray = la at hl ⊢
  rw [zlv_args] at hl
  refine hw D cT ad s.heap.size p e s m _ below meth c s.heap [] la ⟨B.exec, B.bytes, hml, hown, hts, B.returns, B.notSynchronized, trivial⟩ ⟨⟨fun q hq => Or.inr hq, hE⟩, hK, ?_, ?_, va_S.rf⟩ hl
  · rw [List.append_nil]; exact hP
  · rw [List.append_nil]; exact zD_in hD0
section LRET
variable {TB : Method → Code → Prop} {l : Launch} {R : Room} {own : String} {cc : ByteArray} {nL : Nat} {D : va_G} {cT ad : Nat → Nat} {L : List Dsc} {pc sz : Nat} {ls : List (Nat × Value)} {σ : Sg} {k n mc ms : Nat}
theorem wll_iret {ty : FieldType} {v : Int32} {post : Int32 → Sg → Prop} (d : decode cc pc = .ok (.ireturn, 1)) (hn : narrow ty (.int v) = .int v) (hp : post v σ) (hk : k ≤ mc) (hs : n ≤ ms) : Wm TB l R own cc nL (some ty) D cT ad L (zA ad L.length sz) (zZl (fun D cT ad L sz => zQi D cT ad L sz post) mc ms D cT ad L sz) [] pc ls [.int v] σ k n := by
  intro p e s m args below meth c H locs la C w hl
  obtain ⟨hx, hb, hml, hown, hts, hr, hlk, hTB⟩ := id C
  obtain ⟨hA, hK, hP, hD, hS⟩ := w
  rw [List.append_nil] at hP hD
  intro T hT X
  exact (W.zret hx hb hr hn (fun t ht hW => ⟨⟨v, σ, rfl, hp, by rw [ht]; exact hP, va_K.moved hW.alike hK, hD⟩, hS.F ht⟩) hS.2.2 d hlk : W p l e R s m args below meth c H locs mc ms _ _) T hT (stand_widen X hk hs)
theorem wll_lret {v : Int64} {post : Int64 → Sg → Prop} (d : decode cc pc = .ok (.lreturn, 1)) (hp : post v σ) (hk : k ≤ mc) (hs : n ≤ ms) : Wm TB l R own cc nL (some .long) D cT ad L (zA ad L.length sz) (zZl (fun D cT ad L sz => zQl D cT ad L sz post) mc ms D cT ad L sz) [] pc ls [.long v] σ k n := by
  intro p e s m args below meth c H locs la C w hl
  obtain ⟨hx, hb, hml, hown, hts, hr, hlk, hTB⟩ := id C
  obtain ⟨hA, hK, hP, hD, hS⟩ := w
  rw [List.append_nil] at hP hD
  intro T hT X
  exact (W.lret hx hb hr (fun t ht hW => ⟨⟨v, σ, rfl, hp, by rw [ht]; exact hP, va_K.moved hW.alike hK, hD⟩, hS.F ht⟩) hS.2.2 d hlk : W p l e R s m args below meth c H locs mc ms _ _) T hT (stand_widen X hk hs)
theorem wll_fret {v : UInt32} {post : UInt32 → Sg → Prop} (d : decode cc pc = .ok (.freturn, 1)) (hp : post v σ) (hk : k ≤ mc) (hs : n ≤ ms) : Wm TB l R own cc nL (some .float) D cT ad L (zA ad L.length sz) (zZl (fun D cT ad L sz => zQf D cT ad L sz post) mc ms D cT ad L sz) [] pc ls [.float v] σ k n := by
  intro p e s m args below meth c H locs la C w hl
  obtain ⟨hx, hb, hml, hown, hts, hr, hlk, hTB⟩ := id C
  obtain ⟨hA, hK, hP, hD, hS⟩ := w
  rw [List.append_nil] at hP hD
  intro T hT X
  exact (W.fret hx hb hr (fun t ht hW => ⟨⟨v, σ, rfl, hp, by rw [ht]; exact hP, va_K.moved hW.alike hK, hD⟩, hS.F ht⟩) hS.2.2 d hlk : W p l e R s m args below meth c H locs mc ms _ _) T hT (stand_widen X hk hs)
end LRET
/-- where the table of a law's method takes E at pc: to the place behind the store -/
def zHd (cc : ByteArray) (hh : List (Nat × Nat × Nat × Nat)) (pc nL : Nat) (E : String) (ps : Nat) : Prop := ∃ (pre : List ExceptionTableEntry) (x : ExceptionTableEntry) (suf : List ExceptionTableEntry) (i : Nat), tableOf hh = pre ++ x :: suf ∧ (∀ y ∈ pre, covers y pc = false ∨ (y.catchType ≠ 0 ∧ ∃ nm, Cond.classLink RL y.catchType nm ∈ zAll ∧ (E, nm) ∈ zNCl)) ∧ covers x pc = true ∧ x.catchType ≠ 0 ∧ Cond.classLink RL x.catchType E ∈ zAll ∧ Cond.castable E E ∈ zBad ∧ i < nL ∧ ((∃ f : Fin 4, (f : Nat) = i ∧ decode cc x.handlerPc = .ok (.astore_n f, 1) ∧ ps = x.handlerPc + 1) ∨ (decode cc x.handlerPc = .ok (.astore i, 2) ∧ ps = x.handlerPc + 2))
section LWR
variable {l : Launch} {R : Room} {cc : ByteArray} {nL : Nat} {ret : Option FieldType} {hh : List (Nat × Nat × Nat × Nat)} {D : va_G} {cT ad : Nat → Nat} {A : Nat → Prop} {Z : List Frame → Array Value → State → State → Prop} {pc sz mc ms : Nat} {ls : List (Nat × Value)} {σ : Sg} {k n : Nat}
theorem zh_hand {p : Program} {e : Env} {s : State} {m : MethodId} {args : Array Value} {below : List Frame} {meth : Method} {c : Code} {H : Heap} {locs : List Loc} {la : Array Slot} {ps : Nat} {rest : List Value} {E : String} {ce : Cell} {q9 : Addr} (C : zC (zTh hh) RL cc nL ret p s m args meth c) (w : zW D cT ad Lc [] A s σ H locs) (hl : lv_has la nL (zlm ad ls)) (hd : zHd cc hh pc nL E ps) (hce : H[q9]? = some ce) (hcv : ce.vm = .none) (hcl : s.vm.findClass E = some ce.cls)
    (kk : Wm (zTh hh) l R RL cc nL ret D cT ad Lc A Z [] ps [] [] σ k n) :
    vx_W p l e R s m args below meth c H locs k n (Z below args s) (F0 m pc la rest) q9 := by
  obtain ⟨hx, hb, hml, hown, hts, hr, hlk, hTB⟩ := id C
  obtain ⟨pre, x, suf, i, h1, h2, h3, h4, h5, h6, h7, h8⟩ := hd
  obtain ⟨e1, -, -, -, -, -, e7⟩ := w.1.2
  refine vx_catch hown pre x suf (hTB.trans h1) (fun y hy => ?_) h3 h4 (hts _ h5) (va_tabs (zBad_ok _ h6).1 (rfl : s.vm = s.vm) (e1 _ h6)) hce hcv hcl ?_
  · rcases h2 y hy with g0 | ⟨g1, nm, g2, g3⟩
    · exact Or.inl g0
    · exact Or.inr ⟨g1, nm, hts _ g2, e7 _ g3⟩
  · rcases h8 with ⟨f, hf, g1, rfl⟩ | ⟨g1, rfl⟩
    · exact lv_astore_n hx hb g1 hf hl h7 rfl (fun ls' hl' => kk p e s m args below meth c H locs ls' C w (lv_sub hl' [] rfl))
    · exact lv_astore hx hb g1 hl h7 rfl (fun ls' hl' => kk p e s m args below meth c H locs ls' C w (lv_sub hl' [] rfl))
variable {y : MethodName} {bytes : ByteArray} {maxL h index b ci mc1 ms1 : Nat} {as rest : List Value} {pX : String → Sg → Prop}
theorem wlh_callVi {ty : FieldType} {post : Int32 → Sg → Prop} {C : String} {T : u_T} {N : Nat} {fs : List (Option Nat)} (q : Nat) (hq : pc + 3 = q) (d : decode cc pc = .ok (.invokevirtual index, 3)) (hM : xMi l y bytes maxL ty h mc1 ms1 Lc (.ref b :: as) σ post pX) (hc : zCal y bytes maxL (some ty) as.length) (hv : zCaV C y) (hC : y.cls = C) (hl9 : Cond.methodLink RL index y ∈ zAll) (hL : Lc[b]? = some (.inr (.inr (ci, fs)))) (hci : vwCl[ci]? = some (C, T, N)) (hR : h + 1 ≤ R.frames ∧ 8 + (maxL + 11) + 36 * h ≤ R.locals) (hcat : (rest.map fun v => v.category).sum ≤ 8) (hk : k + mc1 ≤ R.cells ∧ n + ms1 ≤ R.slots)
    (hx9 : ∀ E σ1, pX E σ1 → ∃ ps, zHd cc hh pc nL E ps ∧ Wm (zTh hh) l R RL cc nL ret D cT ad Lc A Z [] ps [] [] σ1 (k + mc1) (n + ms1))
    (kk : ∀ (r : Int32) (σ1 : Sg), post r σ1 → Wm (zTh hh) l R RL cc nL ret D cT ad Lc A Z [] q ls (.int r :: rest) σ1 (k + mc1) (n + ms1)) : Wm (zTh hh) l R RL cc nL ret D cT ad Lc A Z [] pc ls (as.reverse ++ .ref b :: rest) σ k n := by
  subst hq
  intro p e s m args below meth c H locs la CC w hl
  obtain ⟨hx, hb, hml, hown, hts, hr, hlk, hTB⟩ := id CC
  have hG : GoodIn zAll (wsV RL index C y (Cond.code y bytes maxL (some ty) :: zAll)) := zGoodIn (fun w9 h9 => by
    rcases List.mem_append.mp h9 with h9 | h9
    · simp only [List.mem_cons, List.not_mem_nil, or_false] at h9
      rcases h9 with rfl | rfl | rfl | rfl
      · exact hl9
      · exact hv.1
      · exact hv.2
      · rw [← hC]; exact hc.2.1
    · exact zwords hc w9 h9)
  refine vx_calli (vx_runV (As := as.map (zv ad)) (rest := rest.map (zv ad)) ⟨hx, hb, hml, hown, hts⟩ (hM D cT ad H.size) (cwV as.length hts hG rfl rfl rfl ⟨hC, hc.2.2.1, hc.2.2.2.1, hc.2.2.2.2⟩ hR) ⟨zpre_blind, va_recv w.2.1 w.2.2.1 hci (zw_get _ hL), fun U hU hW => zpre_of (.ref b :: as) w hU hW⟩ rfl (by simp) hl.1 (by simp [zv]) (lv_room (by rw [zcats]; exact hcat)) d hk) w.2.2.2.2 (fun q _ h => zfree w q h) (zfree w) (fun q _ h => zfree w q h)
    (fun E ce q9 u t H1 locs1 ht hvm _ hB hz1 hk1 hS hce hcv hcl => ?_) (fun r σ1 t H1 locs1 ht hvm hw hB hz1 hk1 hS => ?_)
  · obtain ⟨ps, hd, hp⟩ := hx9 E u hB.1
    exact zh_hand CC (zjoin w ht hB.2 hk1 hS) hl hd hce hcv hcl hp
  · exact kk r σ1 hw p e s m args below meth c H1 locs1 la CC (zjoin w ht hB hk1 hS) hl
theorem wlh_callVf {post : UInt32 → Sg → Prop} {C : String} {T : u_T} {N : Nat} {fs : List (Option Nat)} (q : Nat) (hq : pc + 3 = q) (d : decode cc pc = .ok (.invokevirtual index, 3)) (hM : xMf l y bytes maxL h mc1 ms1 Lc (.ref b :: as) σ post pX) (hc : zCal y bytes maxL (some .float) as.length) (hv : zCaV C y) (hC : y.cls = C) (hl9 : Cond.methodLink RL index y ∈ zAll) (hL : Lc[b]? = some (.inr (.inr (ci, fs)))) (hci : vwCl[ci]? = some (C, T, N)) (hR : h + 1 ≤ R.frames ∧ 8 + (maxL + 11) + 36 * h ≤ R.locals) (hcat : (rest.map fun v => v.category).sum ≤ 8) (hk : k + mc1 ≤ R.cells ∧ n + ms1 ≤ R.slots)
    (hx9 : ∀ E σ1, pX E σ1 → ∃ ps, zHd cc hh pc nL E ps ∧ Wm (zTh hh) l R RL cc nL ret D cT ad Lc A Z [] ps [] [] σ1 (k + mc1) (n + ms1))
    (kk : ∀ (r : UInt32) (σ1 : Sg), post r σ1 → Wm (zTh hh) l R RL cc nL ret D cT ad Lc A Z [] q ls (.float r :: rest) σ1 (k + mc1) (n + ms1)) : Wm (zTh hh) l R RL cc nL ret D cT ad Lc A Z [] pc ls (as.reverse ++ .ref b :: rest) σ k n := by
  subst hq
  intro p e s m args below meth c H locs la CC w hl
  obtain ⟨hx, hb, hml, hown, hts, hr, hlk, hTB⟩ := id CC
  have hG : GoodIn zAll (wsV RL index C y (Cond.code y bytes maxL (some .float) :: zAll)) := zGoodIn (fun w9 h9 => by
    rcases List.mem_append.mp h9 with h9 | h9
    · simp only [List.mem_cons, List.not_mem_nil, or_false] at h9
      rcases h9 with rfl | rfl | rfl | rfl
      · exact hl9
      · exact hv.1
      · exact hv.2
      · rw [← hC]; exact hc.2.1
    · exact zwords hc w9 h9)
  refine vx_callf (vx_runV (As := as.map (zv ad)) (rest := rest.map (zv ad)) ⟨hx, hb, hml, hown, hts⟩ (hM D cT ad H.size) (cwV as.length hts hG rfl rfl rfl ⟨hC, hc.2.2.1, hc.2.2.2.1, hc.2.2.2.2⟩ hR) ⟨zpre_blind, va_recv w.2.1 w.2.2.1 hci (zw_get _ hL), fun U hU hW => zpre_of (.ref b :: as) w hU hW⟩ rfl (by simp) hl.1 (by simp [zv]) (lv_room (by rw [zcats]; exact hcat)) d hk) w.2.2.2.2 (fun q _ h => zfree w q h) (zfree w) (fun q _ h => zfree w q h)
    (fun E ce q9 u t H1 locs1 ht hvm _ hB hz1 hk1 hS hce hcv hcl => ?_) (fun r σ1 t H1 locs1 ht hvm hw hB hz1 hk1 hS => ?_)
  · obtain ⟨ps, hd, hp⟩ := hx9 E u hB.1
    exact zh_hand CC (zjoin w ht hB.2 hk1 hS) hl hd hce hcv hcl hp
  · exact kk r σ1 hw p e s m args below meth c H1 locs1 la CC (zjoin w ht hB hk1 hS) hl
end LWR
/-- what a call of a law's method wants of the words -/
def zCalW (y : MethodName) (w0 : Cond) (n : Nat) : Prop := w0 ∈ zAll ∧ Cond.initialized y.cls ∈ zAll ∧ y.cls ≠ "java/lang/invoke/MethodHandle" ∧ y.cls ≠ "java/lang/invoke/VarHandle" ∧ (parseMethodDescriptor y.desc).map (fun d => d.parameters.length) = some n
section LCA
variable {TB : Method → Code → Prop} {l : Launch} {R : Room} {own : String} {cc : ByteArray} {nL : Nat} {ret : Option FieldType} {D : va_G} {cT ad : Nat → Nat} {A : Nat → Prop} {Z : List Frame → Array Value → State → State → Prop} {X : va_W} {pc : Nat} {ls : List (Nat × Value)} {st : List Value} {σ : Sg} {k n : Nat}
variable {y : MethodName} {bytes : ByteArray} {maxL h index mc ms : Nat} {hh : List (Nat × Nat × Nat × Nat)} {as rest : List Value}
theorem zGW {w0 : Cond} (hc : zCalW y w0 as.length) (hs9 : Cond.static y ∈ zAll) (hl9 : Cond.methodLink own index y ∈ zAll) : GoodIn zAll (va_wsS own index y (w0 :: zAll)) := zGoodIn (fun w9 h9 => by
    rcases List.mem_append.mp h9 with h9 | h9
    · simp only [List.mem_cons, List.not_mem_nil, or_false] at h9
      rcases h9 with rfl | rfl | rfl
      · exact hl9
      · exact hs9
      · exact hc.2.1
    · rcases List.mem_cons.mp h9 with rfl | h9
      · exact hc.1
      · exact h9)
theorem wl_callWi {post : Int32 → Sg → Prop} (q : Nat) (hq : pc + 3 = q) (d : decode cc pc = .ok (.invokestatic index, 3)) (hM : lMi l y bytes maxL hh h mc ms as σ post) (hc : zCalW y (Cond.codeWith y bytes maxL (some .int) hh) as.length) (hs9 : Cond.static y ∈ zAll) (hl9 : Cond.methodLink own index y ∈ zAll) (hR : h + 1 ≤ R.frames ∧ 8 + (maxL + 11) + 36 * h ≤ R.locals) (hcat : (rest.map fun v => v.category).sum ≤ 8) (hk : k + mc ≤ R.cells ∧ n + ms ≤ R.slots)
    (kk : ∀ (r : Int32) (σ1 : Sg), post r σ1 → Wm TB l R own cc nL ret D cT ad Lc A Z X q ls (.int r :: rest) σ1 (k + mc) (n + ms)) : Wm TB l R own cc nL ret D cT ad Lc A Z X pc ls (as.reverse ++ rest) σ k n := by
  subst hq
  intro p e s m args below meth c H locs la CC w hl
  obtain ⟨hx, hb, hml, hown, hts, hr, hlk, hTB⟩ := id CC
  refine va_calli (vx_runSW (hh := hh) (As := as.map (zv ad)) (rest := rest.map (zv ad)) ⟨hx, hb, hml, hown, hts⟩ (hM D cT ad H.size) (vx_cwSW as.length hts (zGW hc hs9 hl9) rfl rfl rfl ⟨hc.2.2.1, hc.2.2.2.1, hc.2.2.2.2⟩ hR) ⟨zpre_blind, fun U hU hW => zpre_of as w hU hW⟩ rfl (by simp) hl.1 (by simp) (lv_room (by rw [zcats]; exact hcat)) d hk) w.2.2.2.2 (fun q _ h => zfree w q h) (zfree w) (fun r σ1 t H1 locs1 ht hvm hw hB hz1 hk1 hS => ?_)
  exact kk r σ1 hw p e s m args below meth c H1 locs1 la CC (zjoin w ht hB hk1 hS) hl
theorem wl_callWf {post : UInt32 → Sg → Prop} (q : Nat) (hq : pc + 3 = q) (d : decode cc pc = .ok (.invokestatic index, 3)) (hM : lMf l y bytes maxL hh h mc ms as σ post) (hc : zCalW y (Cond.codeWith y bytes maxL (some .float) hh) as.length) (hs9 : Cond.static y ∈ zAll) (hl9 : Cond.methodLink own index y ∈ zAll) (hR : h + 1 ≤ R.frames ∧ 8 + (maxL + 11) + 36 * h ≤ R.locals) (hcat : (rest.map fun v => v.category).sum ≤ 8) (hk : k + mc ≤ R.cells ∧ n + ms ≤ R.slots)
    (kk : ∀ (r : UInt32) (σ1 : Sg), post r σ1 → Wm TB l R own cc nL ret D cT ad Lc A Z X q ls (.float r :: rest) σ1 (k + mc) (n + ms)) : Wm TB l R own cc nL ret D cT ad Lc A Z X pc ls (as.reverse ++ rest) σ k n := by
  subst hq
  intro p e s m args below meth c H locs la CC w hl
  obtain ⟨hx, hb, hml, hown, hts, hr, hlk, hTB⟩ := id CC
  refine va_callf (vx_runSW (hh := hh) (As := as.map (zv ad)) (rest := rest.map (zv ad)) ⟨hx, hb, hml, hown, hts⟩ (hM D cT ad H.size) (vx_cwSW as.length hts (zGW hc hs9 hl9) rfl rfl rfl ⟨hc.2.2.1, hc.2.2.2.1, hc.2.2.2.2⟩ hR) ⟨zpre_blind, fun U hU hW => zpre_of as w hU hW⟩ rfl (by simp) hl.1 (by simp) (lv_room (by rw [zcats]; exact hcat)) d hk) w.2.2.2.2 (fun q _ h => zfree w q h) (zfree w) (fun r σ1 t H1 locs1 ht hvm hw hB hz1 hk1 hS => ?_)
  exact kk r σ1 hw p e s m args below meth c H1 locs1 la CC (zjoin w ht hB hk1 hS) hl
theorem wl_callPi {ty : FieldType} {post : Int32 → Sg → Prop} (q : Nat) (hq : pc + 3 = q) (d : decode cc pc = .ok (.invokestatic index, 3)) (hM : sMi l y bytes maxL ty h mc ms as σ post) (hc : zCalW y (Cond.code y bytes maxL (some ty)) as.length) (hs9 : Cond.static y ∈ zAll) (hl9 : Cond.methodLink own index y ∈ zAll) (hR : h + 1 ≤ R.frames ∧ 8 + (maxL + 11) + 36 * h ≤ R.locals) (hcat : (rest.map fun v => v.category).sum ≤ 8) (hk : k + mc ≤ R.cells ∧ n + ms ≤ R.slots)
    (kk : ∀ (r : Int32) (σ1 : Sg), post r σ1 → Wm TB l R own cc nL ret D cT ad Lc A Z X q ls (.int r :: rest) σ1 (k + mc) (n + ms)) : Wm TB l R own cc nL ret D cT ad Lc A Z X pc ls (as.reverse ++ rest) σ k n := by
  subst hq
  intro p e s m args below meth c H locs la CC w hl
  obtain ⟨hx, hb, hml, hown, hts, hr, hlk, hTB⟩ := id CC
  refine va_calli (va_runS (As := as.map (zv ad)) (rest := rest.map (zv ad)) ⟨hx, hb, hml, hown, hts⟩ (hM D cT ad H.size) (va_cwS as.length hts (zGW hc hs9 hl9) rfl rfl rfl ⟨hc.2.2.1, hc.2.2.2.1, hc.2.2.2.2⟩ hR) ⟨zpre_blind, fun U hU hW => zpre_of as w hU hW⟩ rfl (by simp) hl.1 (by simp) (lv_room (by rw [zcats]; exact hcat)) d hk) w.2.2.2.2 (fun q _ h => zfree w q h) (zfree w) (fun r σ1 t H1 locs1 ht hvm hw hB hz1 hk1 hS => ?_)
  exact kk r σ1 hw p e s m args below meth c H1 locs1 la CC (zjoin w ht hB hk1 hS) hl
theorem wl_callPl {post : Int64 → Sg → Prop} (q : Nat) (hq : pc + 3 = q) (d : decode cc pc = .ok (.invokestatic index, 3)) (hM : sMl l y bytes maxL h mc ms as σ post) (hc : zCalW y (Cond.code y bytes maxL (some .long)) as.length) (hs9 : Cond.static y ∈ zAll) (hl9 : Cond.methodLink own index y ∈ zAll) (hR : h + 1 ≤ R.frames ∧ 8 + (maxL + 11) + 36 * h ≤ R.locals) (hcat : (rest.map fun v => v.category).sum ≤ 8) (hk : k + mc ≤ R.cells ∧ n + ms ≤ R.slots)
    (kk : ∀ (r : Int64) (σ1 : Sg), post r σ1 → Wm TB l R own cc nL ret D cT ad Lc A Z X q ls (.long r :: rest) σ1 (k + mc) (n + ms)) : Wm TB l R own cc nL ret D cT ad Lc A Z X pc ls (as.reverse ++ rest) σ k n := by
  subst hq
  intro p e s m args below meth c H locs la CC w hl
  obtain ⟨hx, hb, hml, hown, hts, hr, hlk, hTB⟩ := id CC
  refine va_calll (va_runS (As := as.map (zv ad)) (rest := rest.map (zv ad)) ⟨hx, hb, hml, hown, hts⟩ (hM D cT ad H.size) (va_cwS as.length hts (zGW hc hs9 hl9) rfl rfl rfl ⟨hc.2.2.1, hc.2.2.2.1, hc.2.2.2.2⟩ hR) ⟨zpre_blind, fun U hU hW => zpre_of as w hU hW⟩ rfl (by simp) hl.1 (by simp) (lv_room (by rw [zcats]; exact hcat)) d hk) w.2.2.2.2 (fun q _ h => zfree w q h) (zfree w) (fun r σ1 t H1 locs1 ht hvm hw hB hz1 hk1 hS => ?_)
  exact kk r σ1 hw p e s m args below meth c H1 locs1 la CC (zjoin w ht hB hk1 hS) hl
variable {L : List Dsc}
theorem wl_widen {k1 n1 : Nat} (h1 : k ≤ k1) (h2 : n ≤ n1) (kk : Wm TB l R own cc nL ret D cT ad L A Z X pc ls st σ k1 n1) : Wm TB l R own cc nL ret D cT ad L A Z X pc ls st σ k n := by
  intro p e s m args below meth c H locs la CC w hl T hT Xs
  exact kk p e s m args below meth c H locs la CC w hl T hT (stand_widen Xs h1 h2)
theorem wm_irem {x y : Int32} (q : Nat) (hq : pc + 1 = q) (d : decode cc pc = .ok (.irem, 1)) (hne : ¬ y = 0) (kk : Wm TB l R own cc nL ret D cT ad L A Z X q ls (.int (x - x / y * y) :: st) σ k n) : Wm TB l R own cc nL ret D cT ad L A Z X pc ls (.int y :: .int x :: st) σ k n := by
  subst hq
  intro p e s m args below meth c H locs la C w hl
  obtain ⟨hx, hb, hml, hown, hts, hr, hlk, hTB⟩ := id C
  exact lv_irem hx hb d hne (kk p e s m args below meth c H locs la C w hl)
theorem wm_ldc2 {index : Nat} {v : Int64} (q : Nat) (hq : pc + 3 = q) (d : decode cc pc = .ok (.ldc2_w index, 3)) (hc : Cond.constantLong own index v ∈ zAll) (kk : Wm TB l R own cc nL ret D cT ad L A Z X q ls (.long v :: st) σ k n) : Wm TB l R own cc nL ret D cT ad L A Z X pc ls st σ k n := by
  subst hq
  intro p e s m args below meth c H locs la C w hl
  obtain ⟨hx, hb, hml, hown, hts, hr, hlk, hTB⟩ := id C
  exact lv_ldc2 hx hb hown (hts _ hc) d (kk p e s m args below meth c H locs la C w hl)
theorem wm_ldcf {index : Nat} {v : UInt32} (q : Nat) (hq : pc + 2 = q) (d : decode cc pc = .ok (.ldc index, 2)) (hc : Cond.constantFloat own index v ∈ zAll) (kk : Wm TB l R own cc nL ret D cT ad L A Z X q ls (.float v :: st) σ k n) : Wm TB l R own cc nL ret D cT ad L A Z X pc ls st σ k n := by
  subst hq
  intro p e s m args below meth c H locs la C w hl
  obtain ⟨hx, hb, hml, hown, hts, hr, hlk, hTB⟩ := id C
  exact lv_ldcf hx hb hown (hts _ hc) d (kk p e s m args below meth c H locs la C w hl)
theorem wm_ldc {index : Nat} {v : Int32} (q : Nat) (hq : pc + 2 = q) (d : decode cc pc = .ok (.ldc index, 2)) (hc : Cond.constant own index v ∈ zAll) (kk : Wm TB l R own cc nL ret D cT ad L A Z X q ls (.int v :: st) σ k n) : Wm TB l R own cc nL ret D cT ad L A Z X pc ls st σ k n := by
  subst hq
  intro p e s m args below meth c H locs la C w hl
  obtain ⟨hx, hb, hml, hown, hts, hr, hlk, hTB⟩ := id C
  exact lv_ldc hx hb hown (hts _ hc) d (kk p e s m args below meth c H locs la C w hl)
theorem wm_fconst1 (q : Nat) (hq : pc + 1 = q) (d : decode cc pc = .ok (.fconst 1, 1)) (kk : Wm TB l R own cc nL ret D cT ad L A Z X q ls (.float FP.fconst1 :: st) σ k n) : Wm TB l R own cc nL ret D cT ad L A Z X pc ls st σ k n := by
  subst hq
  intro p e s m args below meth c H locs la C w hl
  obtain ⟨hx, hb, hml, hown, hts, hr, hlk, hTB⟩ := id C
  exact lv_fconst1 hx hb d (kk p e s m args below meth c H locs la C w hl)
theorem wm_fcmp {x y : UInt32} {op : CmpOp} (q : Nat) (hq : pc + 1 = q) (d : decode cc pc = .ok (.fcmp op, 1)) (kk : Wm TB l R own cc nL ret D cT ad L A Z X q ls (.int (Op.cmpValue (FP.fcmp x y) op) :: st) σ k n) : Wm TB l R own cc nL ret D cT ad L A Z X pc ls (.float y :: .float x :: st) σ k n := by
  subst hq
  intro p e s m args below meth c H locs la C w hl
  obtain ⟨hx, hb, hml, hown, hts, hr, hlk, hTB⟩ := id C
  exact lv_fcmp hx hb d (kk p e s m args below meth c H locs la C w hl)
theorem wm_tabIn {dflt lo hi : Int} {offs : Array Int} {len : Nat} {x : Int32} {off : Int} (tgt : Nat) (d : decode cc pc = .ok (.tableswitch dflt lo hi offs, len)) (h1 : ¬ x.toInt < lo) (h2 : ¬ hi < x.toInt) (ho : offs[(x.toInt - lo).toNat]? = some off) (ht : (pc : Int) + off = (tgt : Int)) (kk : Wm TB l R own cc nL ret D cT ad L A Z X tgt ls st σ k n) : Wm TB l R own cc nL ret D cT ad L A Z X pc ls (.int x :: st) σ k n := by
  intro p e s m args below meth c H locs la C w hl
  obtain ⟨hx, hb, hml, hown, hts, hr, hlk, hTB⟩ := id C
  exact lv_tableIn hx hb d h1 h2 ho ht (kk p e s m args below meth c H locs la C w hl)
end LCA
