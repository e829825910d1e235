/-! METHODS THAT THROW: contracts over the int memory that return or throw E with the memory σ' (pX E σ'); mc cells and ms slots at most -/
def rmx (h mc ms : Nat) : Room := { frames := h, cells := mc, slots := ms, locals := 36 * h }
def zX (D : va_G) (cT ad : Nat → Nat) (L : List Dsc) (sz : Nat) (pX : String → Sg → Prop) : String → State → State → Prop := vx_X (fun _ : Sg => True) (fun E u t => pX E u ∧ zB D cT ad L (zA ad L.length sz) u t) (zA ad L.length sz)
abbrev zZx (Q : va_G → (Nat → Nat) → (Nat → Nat) → List Dsc → Nat → Array Value → State → Outcome → State → Prop) (pX : String → Sg → Prop) (mc ms : Nat) (D : va_G) (cT ad : Nat → Nat) (L : List Dsc) (sz : Nat) : List Frame → Array Value → State → State → Prop := fun below args s => vx_MQ below (Q D cT ad L sz) (zX D cT ad L sz pX) args s mc ms (zA ad L.length sz)
def zMetx (l : Launch) (y : MethodName) (bytes : ByteArray) (maxL : Nat) (ret : Option FieldType) (h mc ms : Nat) (L : List Dsc) (as : List Value) (σ : Sg) (Q : va_G → (Nat → Nat) → (Nat → Nat) → List Dsc → Nat → Array Value → State → Outcome → State → Prop) (pX : String → Sg → Prop) : Prop :=
  ∀ (D : va_G) (cT ad : Nat → Nat) (sz : Nat), vx_Met l y (Cond.code y bytes maxL ret :: zAll) (rmx h mc ms) (zPc D cT ad L sz as σ) (Q D cT ad L sz) (zX D cT ad L sz pX) mc ms (zA ad L.length sz)
abbrev xMi (l : Launch) (y : MethodName) (bytes : ByteArray) (maxL : Nat) (ty : FieldType) (h mc ms : Nat) (L : List Dsc) (as : List Value) (σ : Sg) (post : Int32 → Sg → Prop) (pX : String → Sg → Prop) : Prop := zMetx l y bytes maxL (some ty) h mc ms L as σ (fun D cT ad L sz => zQi D cT ad L sz post) pX
abbrev xMf (l : Launch) (y : MethodName) (bytes : ByteArray) (maxL : Nat) (h mc ms : Nat) (L : List Dsc) (as : List Value) (σ : Sg) (post : UInt32 → Sg → Prop) (pX : String → Sg → Prop) : Prop := zMetx l y bytes maxL (some .float) h mc ms L as σ (fun D cT ad L sz => zQf D cT ad L sz post) pX
abbrev xMv (l : Launch) (y : MethodName) (bytes : ByteArray) (maxL : Nat) (h mc ms : Nat) (L : List Dsc) (as : List Value) (σ : Sg) (post : Sg → Prop) (pX : String → Sg → Prop) : Prop := zMetx l y bytes maxL none h mc ms L as σ (fun D cT ad L sz => zQv D cT ad L sz post) pX
abbrev zNoT (_ : Method) (c : Code) : Prop := ∀ x ∈ c.exceptionTable.toList, False
theorem zMetx_of {l : Launch} {y : MethodName} {bytes : ByteArray} {maxL : Nat} {ret : Option FieldType} {h mc ms : Nat} {L : List Dsc} {as : List Value} {σ : Sg} {Q : va_G → (Nat → Nat) → (Nat → Nat) → List Dsc → Nat → Array Value → State → Outcome → State → Prop} {pX : String → Sg → Prop}
    (hy : plainName y.cls = true) (hn : (lg_sl as).length ≤ maxL)
    (hw : ∀ (D : va_G) (cT ad : Nat → Nat) (sz : Nat), Wm zNoT l (rmx h mc ms) y.cls bytes maxL ret D cT ad L (zA ad L.length sz) (zZx Q pX mc ms D cT ad L sz) [] 0 (lv_args 0 as) [] σ 0 0) : zMetx l y bytes maxL ret h mc ms L as σ Q pX := by
  intro D cT ad sz
  refine vx_ofW (cc := bytes) (maxL := maxL) (ret := ret) hy rfl ?_
  intro p e s m args below meth c s₁ B hml hTB hv
  obtain ⟨rfl, hsz, hP, hK, hD0, hE⟩ := hv
  have hown : s.vm.findClass y.cls = some m.cls := findClass_of_methodNamed B.named
  have hts : ∀ w ∈ zAll, w.before (as.map (zv ad)).toArray s = true := fun w hw9 => atoms_spec (ws := Cond.code y bytes maxL ret :: zAll) B.pre w (List.mem_cons_of_mem _ hw9)
  subst hsz
  have hl := lv_entry (as.map (zv ad)) (n := maxL) (by rw [zlg_len]; exact hn)
  rw [lg_entry_eq]
  generalize (lg_sl (as.map (zv ad)) ++ List.replicate (maxL - (lg_sl (as.map (zv ad))).length) Slot.unset).toArray = la at hl ⊢
  rw [zlv_args] at hl
  refine hw D cT ad s.heap.size p e s m _ below meth c s.heap [] la ⟨B.exec, B.bytes, hml, hown, hts, B.returns, B.notSynchronized, hTB⟩ ⟨⟨fun q hq => Or.inr hq, hE⟩, hK, ?_, ?_, va_S.rf⟩ hl
  · rw [List.append_nil]; exact hP
  · rw [List.append_nil]; exact zD_in hD0
section XRET
variable {TB : Method → Code → Prop} {l : Launch} {R : Room} {own : String} {cc : ByteArray} {nL : Nat} {D : va_G} {cT ad : Nat → Nat} {L : List Dsc} {pc sz : Nat} {ls : List (Nat × Value)} {σ : Sg} {pX : String → Sg → Prop} {k n mc ms : Nat}
theorem wmx_iret {ty : FieldType} {v : Int32} {post : Int32 → Sg → Prop} (d : decode cc pc = .ok (.ireturn, 1)) (hn : narrow ty (.int v) = .int v) (hp : post v σ) (hk : k ≤ mc) (hs : n ≤ ms) : Wm TB l R own cc nL (some ty) D cT ad L (zA ad L.length sz) (zZx (fun D cT ad L sz => zQi D cT ad L sz post) pX mc ms D cT ad L sz) [] pc ls [.int v] σ k n := by
  intro p e s m args below meth c H locs la C w hl
  obtain ⟨hx, hb, hml, hown, hts, hr, hlk, hTB⟩ := id C
  obtain ⟨hA, hK, hP, hD, hS⟩ := w
  rw [List.append_nil] at hP hD
  refine vx_ret (fun T hT X => ?_)
  exact (W.zret hx hb hr hn (fun t ht hW => ⟨⟨v, σ, rfl, hp, by rw [ht]; exact hP, va_K.moved hW.alike hK, hD⟩, hS.F ht⟩) hS.2.2 d hlk : W p l e R s m args below meth c H locs mc ms _ _) T hT (stand_widen X hk hs)
theorem wmx_lret {v : Int64} {post : Int64 → Sg → Prop} (d : decode cc pc = .ok (.lreturn, 1)) (hp : post v σ) (hk : k ≤ mc) (hs : n ≤ ms) : Wm TB l R own cc nL (some .long) D cT ad L (zA ad L.length sz) (zZx (fun D cT ad L sz => zQl D cT ad L sz post) pX mc ms D cT ad L sz) [] pc ls [.long v] σ k n := by
  intro p e s m args below meth c H locs la C w hl
  obtain ⟨hx, hb, hml, hown, hts, hr, hlk, hTB⟩ := id C
  obtain ⟨hA, hK, hP, hD, hS⟩ := w
  rw [List.append_nil] at hP hD
  refine vx_ret (fun T hT X => ?_)
  exact (W.lret hx hb hr (fun t ht hW => ⟨⟨v, σ, rfl, hp, by rw [ht]; exact hP, va_K.moved hW.alike hK, hD⟩, hS.F ht⟩) hS.2.2 d hlk : W p l e R s m args below meth c H locs mc ms _ _) T hT (stand_widen X hk hs)
theorem wmx_fret {v : UInt32} {post : UInt32 → Sg → Prop} (d : decode cc pc = .ok (.freturn, 1)) (hp : post v σ) (hk : k ≤ mc) (hs : n ≤ ms) : Wm TB l R own cc nL (some .float) D cT ad L (zA ad L.length sz) (zZx (fun D cT ad L sz => zQf D cT ad L sz post) pX mc ms D cT ad L sz) [] pc ls [.float v] σ k n := by
  intro p e s m args below meth c H locs la C w hl
  obtain ⟨hx, hb, hml, hown, hts, hr, hlk, hTB⟩ := id C
  obtain ⟨hA, hK, hP, hD, hS⟩ := w
  rw [List.append_nil] at hP hD
  refine vx_ret (fun T hT X => ?_)
  exact (W.fret hx hb hr (fun t ht hW => ⟨⟨v, σ, rfl, hp, by rw [ht]; exact hP, va_K.moved hW.alike hK, hD⟩, hS.F ht⟩) hS.2.2 d hlk : W p l e R s m args below meth c H locs mc ms _ _) T hT (stand_widen X hk hs)
theorem wmx_vret {post : Sg → Prop} (d : decode cc pc = .ok (.return_, 1)) (hp : post σ) (hk : k ≤ mc) (hs : n ≤ ms) : Wm TB l R own cc nL none D cT ad L (zA ad L.length sz) (zZx (fun D cT ad L sz => zQv D cT ad L sz post) pX mc ms D cT ad L sz) [] pc ls [] σ k n := by
  intro p e s m args below meth c H locs la C w hl
  obtain ⟨hx, hb, hml, hown, hts, hr, hlk, hTB⟩ := id C
  obtain ⟨hA, hK, hP, hD, hS⟩ := w
  rw [List.append_nil] at hP hD
  refine vx_ret (fun T hT X => ?_)
  exact (W.vret hx hb hr (fun t ht hW => ⟨⟨σ, rfl, hp, by rw [ht]; exact hP, va_K.moved hW.alike hK, hD⟩, hS.F ht⟩) hS.2.2 d hlk : W p l e R s m args below meth c H locs mc ms _ _) T hT (stand_widen X hk hs)
end XRET
/-- what a throw of E by the class wants of the words -/
def zThr (ik ic ix : Nat) (E : String) (rx : ByteArray) : Prop := Cond.classLink RX4 ik E ∈ zAll ∧ Cond.initialized E ∈ zAll ∧ (∀ w ∈ zT1 E ic ix rx, w ∈ zAll) ∧ (∀ w ∈ (zAt RX4 ic E "java/lang/RuntimeException" ix rx ["java/lang/Exception"]).filter (fun w => !goodWord w), w ∈ zBad) ∧
  (∀ w ∈ Cond.classLink RX4 ik E :: Cond.initialized E :: zAt RX4 ic E "java/lang/RuntimeException" ix rx ["java/lang/Exception"], vx_ot w = true) ∧ Bundle.fit E = true ∧ (decode rx 0 = .ok (.aload_n 0, 1) ∧ decode rx 1 = .ok (.aload_n 1, 1) ∧ decode rx 2 = .ok (.invokespecial ix, 3) ∧ decode rx 5 = .ok (.return_, 1))
theorem th_ISE : zThr 45 49 7 "java/lang/IllegalStateException" zSix := ⟨aw_16_7, aw_16_8, fun w h => zin_TS w (List.mem_append_left _ h), by decide +kernel, by decide +kernel, by decide +kernel, by decide +kernel, by decide +kernel, by decide +kernel, by decide +kernel⟩
theorem th_IAE : zThr 219 223 7 "java/lang/IllegalArgumentException" zSix := ⟨aw_16_13, aw_16_14, fun w h => zin_TS w (List.mem_append_right _ (List.mem_append_left _ h)), by decide +kernel, by decide +kernel, by decide +kernel, by decide +kernel, by decide +kernel, by decide +kernel, by decide +kernel⟩
theorem th_IOB : zThr 205 209 7 "java/lang/IndexOutOfBoundsException" zSix := ⟨aw_10_18, aw_10_19, fun w h => zin_TS w (List.mem_append_right _ (List.mem_append_right _ (List.mem_append_left _ h))), by decide +kernel, by decide +kernel, by decide +kernel, by decide +kernel, by decide +kernel, by decide +kernel, by decide +kernel⟩
theorem th_NSE : zThr 147 151 13 "java/util/NoSuchElementException" zRx := ⟨aw_13_9, aw_13_10, fun w h => zin_TS w (List.mem_append_right _ (List.mem_append_right _ (List.mem_append_right _ h))), by decide +kernel, by decide +kernel, by decide +kernel, by decide +kernel, by decide +kernel, by decide +kernel, by decide +kernel⟩
theorem zXof {D : va_G} {cT ad : Nat → Nat} {L : List Dsc} {sz : Nat} {pX : String → Sg → Prop} {E : String} {u : Sg} {s t : State} (h1 : pX E u) (h2 : zB D cT ad L (zA ad L.length sz) u t) (h3 : va_F (zA ad L.length sz) s t) : zX D cT ad L sz pX E s t := ⟨u, trivial, ⟨h1, h2⟩, h3⟩
section XTHROW
variable {l : Launch} {R : Room} {cc : ByteArray} {nL : Nat} {ret : Option FieldType} {D : va_G} {cT ad : Nat → Nat} {L : List Dsc} {pc sz : Nat} {ls : List (Nat × Value)} {σ : Sg} {pX : String → Sg → Prop} {k n mc ms : Nat}
variable {Q : va_G → (Nat → Nat) → (Nat → Nat) → List Dsc → Nat → Array Value → State → Outcome → State → Prop}
theorem wmx_throw {E text : String} {ik is ic ix : Nat} {rx : ByteArray} (hth : zThr ik ic ix E rx) (hstr : (is, text) ∈ zStr) (hst : l.stackTraces = false)
    (d0 : decode cc pc = .ok (.new ik, 3)) (d3 : decode cc (pc + 3) = .ok (.dup, 1)) (d4 : decode cc (pc + 4) = .ok (.ldc is, 2)) (d6 : decode cc (pc + 6) = .ok (.invokespecial ic, 3)) (d9 : decode cc (pc + 9) = .ok (.athrow, 1))
    (hR : 6 ≤ R.frames ∧ 82 ≤ R.locals ∧ k + 1 ≤ R.cells ∧ n + 6 ≤ R.slots) (hk : k + 1 ≤ mc) (hs : n + 6 ≤ ms) (hp : pX E σ) :
    Wm zNoT l R RX4 cc nL ret D cT ad L (zA ad L.length sz) (zZx Q pX mc ms D cT ad L sz) [] pc ls [] σ k n := by
  intro p e s m args below meth c H locs la C w hl
  obtain ⟨hx, hb, hml, hown, hts, hr, hlk, hTB⟩ := id C
  obtain ⟨hA, hK, hP, hD, hS⟩ := w
  rw [List.append_nil] at hP hD
  obtain ⟨t1, t2, t3, t4, t5, t6, x0, x1, x2, x5⟩ := hth
  obtain ⟨e1, e2, e3, e4⟩ := hA.2
  obtain ⟨sa, hsa⟩ := e2 _ hstr
  refine zx_throw hx hb hst x0 x1 x2 x5 hown t6 (by decide +kernel) (by decide +kernel) (hts _ t1) (hts _ t2) hsa
    (vx_hat (fun w h => hts _ (t3 w h)) t4 (fun w h => va_tabs (zBad_ok w h).1 (rfl : s.vm = s.vm) (e1 w h))) t5 e3 e4.1 hS (hl.1.trans hml.symm) d0 d3 d4 d6 d9 (fun x h => (hTB x h).elim)
    (by show 1 + 4 < R.frames; omega) (by show 0 + (13 * (1 + 2) + 43) ≤ R.locals; omega) hR.2.2.1 hR.2.2.2 hlk (fun t ha h1 h2 => ?_) hS.2.2 hk hs
  exact zXof hp ⟨fun k q hk => (hP k q hk).kept (h2 q.1 (hP k q hk).lt), va_K.moved ha hK, hD⟩ ⟨Nat.le_trans hS.1 h1, fun q hq hn => (h2 q (Nat.lt_of_lt_of_le hq hS.1)).trans (hS.2.1 q hq hn)⟩
end XTHROW
section XCALL
variable {l : Launch} {R : Room} {own : String} {cc : ByteArray} {nL : Nat} {ret : Option FieldType} {D : va_G} {cT ad : Nat → Nat} {L : List Dsc} {pc sz : Nat} {ls : List (Nat × Value)} {σ : Sg} {pX pX1 : String → Sg → Prop} {k n mc ms mc1 ms1 : Nat}
variable {Q : va_G → (Nat → Nat) → (Nat → Nat) → List Dsc → Nat → Array Value → State → Outcome → State → Prop}
variable {y : MethodName} {bytes : ByteArray} {maxL h index b ci : Nat} {as rest : List Value}
theorem zout {p : Program} {e : Env} {s : State} {m : MethodId} {args : Array Value} {below : List Frame} {meth : Method} {c : Code} {H H1 : Heap} {locs locs1 : List Loc} {la : Array Slot} {st : List Value} {kk nn : Nat}
    (C : zC zNoT own cc nL ret p s m args meth c) (w : zW D cT ad L [] (zA ad L.length sz) s σ H locs) {E : String} {ce : Cell} {q9 : Addr} {u : Sg} {t : State} (ht : t.heap = H1) (hvm : s.vm.Alike t.vm) (hB : zB D cT ad L (zA ad L.length H.size) u t)
    (hS1 : va_S (zA ad L.length sz) s.heap H1 locs1) (hce : H1[q9]? = some ce) (hcv : ce.vm = .none) (hcl : s.vm.findClass E = some ce.cls) (hp : pX E u) (hk : kk ≤ mc) (hn : nn ≤ ms) :
    vx_W p l e R s m args below meth c H1 locs1 kk nn (zZx Q pX mc ms D cT ad L sz below args s) (F0 m pc la st) q9 := by
  obtain ⟨hx, hb, hml, hown, hts, hr, hlk, hTB⟩ := id C
  refine vx_out (fun x h => (hTB x h).elim) hlk hce hcv hcl (fun t2 ht2 hvm2 => ?_) hS1.2.2 hk hn
  obtain ⟨b1, b2, b3⟩ := hB
  exact zXof hp ⟨by rw [ht2, ← ht]; exact b1, va_K.moved hvm2 w.2.1, zD_in b3⟩ (hS1.F ht2)
theorem wmx_callVv {post : Sg → Prop} {C : String} {T : u_T} {N : Nat} {fs : List (Option Nat)} (q : Nat) (hq : pc + 3 = q) (d : decode cc pc = .ok (.invokevirtual index, 3)) (hM : xMv l y bytes maxL h mc1 ms1 L (.ref b :: as) σ post pX1) (hc : zCal y bytes maxL none as.length) (hv : zCaV C y) (hC : y.cls = C) (hl9 : Cond.methodLink own index y ∈ zAll) (hL : L[b]? = some (.inr (.inr (ci, fs)))) (hci : vwCl[ci]? = some (C, T, N)) (hR : h + 1 ≤ R.frames ∧ 8 + (maxL + 11) + 36 * h ≤ R.locals) (hcat : (rest.map fun v => v.category).sum ≤ 8) (hk : k + mc1 ≤ R.cells ∧ n + ms1 ≤ R.slots) (hkx : k + mc1 ≤ mc ∧ n + ms1 ≤ ms) (hpx : ∀ E σ1, pX1 E σ1 → pX E σ1)
    (kk : ∀ (σ1 : Sg), post σ1 → Wm zNoT l R own cc nL ret D cT ad L (zA ad L.length sz) (zZx Q pX mc ms D cT ad L sz) [] q ls rest σ1 (k + mc1) (n + ms1)) : Wm zNoT l R own cc nL ret D cT ad L (zA ad L.length sz) (zZx Q pX mc ms D cT ad L sz) [] pc ls (as.reverse ++ .ref b :: rest) σ k n := by
  subst hq
  intro p e s m args below meth c H locs la CC w hl
  obtain ⟨hx, hb, hml, hown, hts, hr, hlk, hTB⟩ := id CC
  have hG : GoodIn zAll (wsV own index C y (Cond.code y bytes maxL none :: zAll)) := zGoodIn (fun w9 h9 => by
    rcases List.mem_append.mp h9 with h9 | h9
    · simp only [List.mem_cons, List.not_mem_nil, or_false] at h9
      rcases h9 with rfl | rfl | rfl | rfl
      · exact hl9
      · exact hv.1
      · exact hv.2
      · rw [← hC]; exact hc.2.1
    · exact zwords hc w9 h9)
  refine vx_callv (vx_runV (As := as.map (zv ad)) (rest := rest.map (zv ad)) ⟨hx, hb, hml, hown, hts⟩ (hM D cT ad H.size) (cwV as.length hts hG rfl rfl rfl ⟨hC, hc.2.2.1, hc.2.2.2.1, hc.2.2.2.2⟩ hR) ⟨zpre_blind, va_recv w.2.1 w.2.2.1 hci (zw_get [] hL), fun U hU hW => zpre_of (.ref b :: as) w hU hW⟩ rfl (by simp) hl.1 (by simp [zv]) (lv_room (by rw [zcats]; exact hcat)) d hk) w.2.2.2.2 (fun q _ h => zfree w q h) (zfree w) (fun q _ h => zfree w q h)
    (fun E ce q9 u t H1 locs1 ht hvm _ hB hz1 hk1 hS hce hcv hcl => zout CC w ht hvm hB.2 hS hce hcv hcl (hpx E u hB.1) hkx.1 hkx.2) (fun σ1 t H1 locs1 ht hvm hw hB hz1 hk1 hS => ?_)
  exact kk σ1 hw p e s m args below meth c H1 locs1 la CC (zjoin w ht hB hk1 hS) hl
theorem wmx_callSv {post : Sg → Prop} (q : Nat) (hq : pc + 3 = q) (d : decode cc pc = .ok (.invokestatic index, 3)) (hM : xMv l y bytes maxL h mc1 ms1 L as σ post pX1) (hc : zCal y bytes maxL none as.length) (hs : Cond.static y ∈ zAll) (hl9 : Cond.methodLink own index y ∈ zAll) (hR : h + 1 ≤ R.frames ∧ 8 + (maxL + 11) + 36 * h ≤ R.locals) (hcat : (rest.map fun v => v.category).sum ≤ 8) (hk : k + mc1 ≤ R.cells ∧ n + ms1 ≤ R.slots) (hkx : k + mc1 ≤ mc ∧ n + ms1 ≤ ms) (hpx : ∀ E σ1, pX1 E σ1 → pX E σ1)
    (kk : ∀ (σ1 : Sg), post σ1 → Wm zNoT l R own cc nL ret D cT ad L (zA ad L.length sz) (zZx Q pX mc ms D cT ad L sz) [] q ls rest σ1 (k + mc1) (n + ms1)) : Wm zNoT l R own cc nL ret D cT ad L (zA ad L.length sz) (zZx Q pX mc ms D cT ad L sz) [] pc ls (as.reverse ++ rest) σ k n := by
  subst hq
  intro p e s m args below meth c H locs la CC w hl
  obtain ⟨hx, hb, hml, hown, hts, hr, hlk, hTB⟩ := id CC
  have hG : GoodIn zAll (va_wsS own index y (Cond.code y bytes maxL none :: zAll)) := zGoodIn (fun w9 h9 => by
    rcases List.mem_append.mp h9 with h9 | h9
    · simp only [List.mem_cons, List.not_mem_nil, or_false] at h9
      rcases h9 with rfl | rfl | rfl
      · exact hl9
      · exact hs
      · exact hc.2.1
    · exact zwords hc w9 h9)
  refine vx_callv (vx_runS (As := as.map (zv ad)) (rest := rest.map (zv ad)) ⟨hx, hb, hml, hown, hts⟩ (hM D cT ad H.size) (va_cwS as.length hts hG rfl rfl rfl ⟨hc.2.2.1, hc.2.2.2.1, hc.2.2.2.2⟩ hR) ⟨zpre_blind, fun U hU hW => zpre_of as w hU hW⟩ rfl (by simp) hl.1 (by simp) (lv_room (by rw [zcats]; exact hcat)) d hk) w.2.2.2.2 (fun q _ h => zfree w q h) (zfree w) (fun q _ h => zfree w q h)
    (fun E ce q9 u t H1 locs1 ht hvm _ hB hz1 hk1 hS hce hcv hcl => zout CC w ht hvm hB.2 hS hce hcv hcl (hpx E u hB.1) hkx.1 hkx.2) (fun σ1 t H1 locs1 ht hvm hw hB hz1 hk1 hS => ?_)
  exact kk σ1 hw p e s m args below meth c H1 locs1 la CC (zjoin w ht hB hk1 hS) hl
end XCALL
