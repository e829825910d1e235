/-! CONTRACTS over the int memory: a method of the world L, called with as over σ, answers r and leaves σ' with 'post r σ'', makes nothing -/
def rmh (h : Nat) : Room := { frames := h, cells := 0, slots := 0, locals := 36 * h }
def zA (ad : Nat → Nat) (N sz : Nat) : Nat → Prop := fun q => (∃ k, k < N ∧ q = ad k) ∨ sz ≤ q
def zB (D : va_G) (cT ad : Nat → Nat) (L : List Dsc) (A : Nat → Prop) (σ : Sg) (t : State) : Prop := va_P D vwCl (zw cT ad L σ) t.heap ∧ va_K D vwCl (ztys cT) t ∧ va_D A (zw cT ad L σ)
def zPc (D : va_G) (cT ad : Nat → Nat) (L : List Dsc) (sz : Nat) (as : List Value) (σ : Sg) : Array Value → State → Prop := va_Pc (as.map (zv ad)) (fun U => U.heap.size = sz ∧ va_P D vwCl (zw cT ad L σ) U.heap ∧ va_K D vwCl (ztys cT) U ∧ va_D (fun _ => True) (zw cT ad L σ) ∧ zE (zA ad L.length sz) U)
/-- the ends: an int or boolean, a long, a float, nothing -/
def zQi (D : va_G) (cT ad : Nat → Nat) (L : List Dsc) (sz : Nat) (post : Int32 → Sg → Prop) : Array Value → State → Outcome → State → Prop := va_Qi post (zB D cT ad L (zA ad L.length sz)) (zA ad L.length sz)
def zQl (D : va_G) (cT ad : Nat → Nat) (L : List Dsc) (sz : Nat) (post : Int64 → Sg → Prop) : Array Value → State → Outcome → State → Prop := va_Ql post (zB D cT ad L (zA ad L.length sz)) (zA ad L.length sz)
def zQf (D : va_G) (cT ad : Nat → Nat) (L : List Dsc) (sz : Nat) (post : UInt32 → Sg → Prop) : Array Value → State → Outcome → State → Prop := va_Qf post (zB D cT ad L (zA ad L.length sz)) (zA ad L.length sz)
def zQv (D : va_G) (cT ad : Nat → Nat) (L : List Dsc) (sz : Nat) (post : Sg → Prop) : Array Value → State → Outcome → State → Prop := va_Qv post (zB D cT ad L (zA ad L.length sz)) (zA ad L.length sz)
/-- the contract: any world of the layout L -/
def zMet (l : Launch) (y : MethodName) (bytes : ByteArray) (maxL : Nat) (ret : Option FieldType) (h : Nat) (L : List Dsc) (as : List Value) (σ : Sg) (Q : va_G → (Nat → Nat) → (Nat → Nat) → List Dsc → Nat → Array Value → State → Outcome → State → Prop) : Prop :=
  ∀ (D : va_G) (cT ad : Nat → Nat) (sz : Nat), Met l y (Cond.code y bytes maxL ret :: zAll) (rmh h) (zPc D cT ad L sz as σ) (Q D cT ad L sz) 0 0 (zA ad L.length sz)
abbrev cMi (l : Launch) (y : MethodName) (bytes : ByteArray) (maxL : Nat) (ty : FieldType) (h : Nat) (L : List Dsc) (as : List Value) (σ : Sg) (post : Int32 → Sg → Prop) : Prop := zMet l y bytes maxL (some ty) h L as σ (fun D cT ad L sz => zQi D cT ad L sz post)
abbrev cMl (l : Launch) (y : MethodName) (bytes : ByteArray) (maxL : Nat) (h : Nat) (L : List Dsc) (as : List Value) (σ : Sg) (post : Int64 → Sg → Prop) : Prop := zMet l y bytes maxL (some .long) h L as σ (fun D cT ad L sz => zQl D cT ad L sz post)
abbrev cMf (l : Launch) (y : MethodName) (bytes : ByteArray) (maxL : Nat) (h : Nat) (L : List Dsc) (as : List Value) (σ : Sg) (post : UInt32 → Sg → Prop) : Prop := zMet l y bytes maxL (some .float) h L as σ (fun D cT ad L sz => zQf D cT ad L sz post)
abbrev cMv (l : Launch) (y : MethodName) (bytes : ByteArray) (maxL : Nat) (h : Nat) (L : List Dsc) (as : List Value) (σ : Sg) (post : Sg → Prop) : Prop := zMet l y bytes maxL none h L as σ (fun D cT ad L sz => zQv D cT ad L sz post)
abbrev zZ (Q : va_G → (Nat → Nat) → (Nat → Nat) → List Dsc → Nat → Array Value → State → Outcome → State → Prop) (D : va_G) (cT ad : Nat → Nat) (L : List Dsc) (sz : Nat) : List Frame → Array Value → State → State → Prop := fun below args s => MQ below (Q D cT ad L sz) args s 0 0 (zA ad L.length sz)
theorem zlv_args (ad : Nat → Nat) : ∀ (as : List Value) (i : Nat), lv_args i (as.map (zv ad)) = zlm ad (lv_args i as)
  | [], i => rfl
  | v :: vs, i => by
    show (i, zv ad v) :: lv_args (if (zv ad v).category = 2 then i + 2 else i + 1) (vs.map (zv ad)) = _
    rw [zv_cat, zlv_args ad vs]
    rfl
theorem zlg_len (ad : Nat → Nat) (as : List Value) : (lg_sl (as.map (zv ad))).length = (lg_sl as).length := by
  induction as with
  | nil => rfl
  | cons v vs ih =>
    simp only [lg_sl, List.map_cons, List.flatMap_cons, List.length_append, zv_cat] at ih ⊢
    first | (rw [ih]; done) | (split <;> simp_all)
theorem zD_in {ad cT : Nat → Nat} {L : List Dsc} {σ : Sg} {sz : Nat} {A : Nat → Prop} (h : va_D A (zw cT ad L σ)) : va_D (zA ad L.length sz) (zw cT ad L σ) := by
  refine h.weaken (fun k q hk _ => ?_)
  simp only [zw, List.getElem?_mapIdx] at hk
  cases hL : L[k]? with
  | none => rw [hL] at hk; cases hk
  | some d =>
    rw [hL] at hk
    cases hk
    exact Or.inl ⟨k, (List.getElem?_eq_some_iff.mp hL).1, rfl⟩
/-- a contract out of a walk -/
theorem zMet_of {l : Launch} {y : MethodName} {bytes : ByteArray} {maxL : Nat} {ret : Option FieldType} {h : Nat} {L : List Dsc} {as : List Value} {σ : Sg} {Q : va_G → (Nat → Nat) → (Nat → Nat) → List Dsc → Nat → Array Value → State → Outcome → State → Prop}
    (hy : plainName y.cls = true) (hn : (lg_sl as).length ≤ maxL)
    (hw : ∀ (D : va_G) (cT ad : Nat → Nat) (sz : Nat), Wm (fun _ _ => True) l (rmh h) y.cls bytes maxL ret D cT ad L (zA ad L.length sz) (zZ Q D cT ad L sz) [] 0 (lv_args 0 as) [] σ 0 0) : zMet l y bytes maxL ret h L as σ Q := by
  intro D cT ad sz
  refine Met.ofW (cc := bytes) (maxL := maxL) (ret := ret) hy rfl ?_
  intro p e s m args below meth c s₁ B hml hv
  obtain ⟨rfl, hsz, hP, hK, hD0, hE⟩ := hv
  have hown : s.vm.findClass y.cls = some m.cls := findClass_of_methodNamed B.named
  have hts : ∀ w ∈ zAll, w.before (as.map (zv ad)).toArray s = true := fun w hw9 => atoms_spec (ws := Cond.code y bytes maxL ret :: zAll) B.pre w (List.mem_cons_of_mem _ hw9)
  subst hsz
  have hl := lv_entry (as.map (zv ad)) (n := maxL) (by rw [zlg_len]; exact hn)
  rw [lg_entry_eq]
  generalize (lg_sl (as.map (zv ad)) ++ List.replicate (maxL - (lg_sl (as.map (zv ad))).length) Slot.unset).toArray = la at hl ⊢
  rw [zlv_args] at hl
  refine hw D cT ad s.heap.size p e s m _ below meth c s.heap [] la ⟨B.exec, B.bytes, hml, hown, hts, B.returns, B.notSynchronized, trivial⟩ ⟨⟨fun q hq => Or.inr hq, hE⟩, hK, ?_, ?_, va_S.rf⟩ hl
  · rw [List.append_nil]; exact hP
  · rw [List.append_nil]; exact zD_in hD0
section RET
variable {TB : Method → Code → Prop} {l : Launch} {R : Room} {own : String} {cc : ByteArray} {nL : Nat} {D : va_G} {cT ad : Nat → Nat} {L : List Dsc} {pc sz : Nat} {ls : List (Nat × Value)} {σ : Sg}
theorem wm_iret {ty : FieldType} {v : Int32} {post : Int32 → Sg → Prop} (d : decode cc pc = .ok (.ireturn, 1)) (hn : narrow ty (.int v) = .int v) (hp : post v σ) : Wm TB l R own cc nL (some ty) D cT ad L (zA ad L.length sz) (zZ (fun D cT ad L sz => zQi D cT ad L sz post) D cT ad L sz) [] pc ls [.int v] σ 0 0 := by
  intro p e s m args below meth c H locs la C w hl
  obtain ⟨hx, hb, hml, hown, hts, hr, hlk, hTB⟩ := id C
  obtain ⟨hA, hK, hP, hD, hS⟩ := w
  rw [List.append_nil] at hP hD
  exact W.zret hx hb hr hn (fun t ht hW => ⟨⟨v, σ, rfl, hp, by rw [ht]; exact hP, va_K.moved hW.alike hK, hD⟩, hS.F ht⟩) hS.2.2 d hlk
theorem wm_lret {v : Int64} {post : Int64 → Sg → Prop} (d : decode cc pc = .ok (.lreturn, 1)) (hp : post v σ) : Wm TB l R own cc nL (some .long) D cT ad L (zA ad L.length sz) (zZ (fun D cT ad L sz => zQl D cT ad L sz post) D cT ad L sz) [] pc ls [.long v] σ 0 0 := by
  intro p e s m args below meth c H locs la C w hl
  obtain ⟨hx, hb, hml, hown, hts, hr, hlk, hTB⟩ := id C
  obtain ⟨hA, hK, hP, hD, hS⟩ := w
  rw [List.append_nil] at hP hD
  exact W.lret hx hb hr (fun t ht hW => ⟨⟨v, σ, rfl, hp, by rw [ht]; exact hP, va_K.moved hW.alike hK, hD⟩, hS.F ht⟩) hS.2.2 d hlk
theorem wm_fret {v : UInt32} {post : UInt32 → Sg → Prop} (d : decode cc pc = .ok (.freturn, 1)) (hp : post v σ) : Wm TB l R own cc nL (some .float) D cT ad L (zA ad L.length sz) (zZ (fun D cT ad L sz => zQf D cT ad L sz post) D cT ad L sz) [] pc ls [.float v] σ 0 0 := by
  intro p e s m args below meth c H locs la C w hl
  obtain ⟨hx, hb, hml, hown, hts, hr, hlk, hTB⟩ := id C
  obtain ⟨hA, hK, hP, hD, hS⟩ := w
  rw [List.append_nil] at hP hD
  exact W.fret hx hb hr (fun t ht hW => ⟨⟨v, σ, rfl, hp, by rw [ht]; exact hP, va_K.moved hW.alike hK, hD⟩, hS.F ht⟩) hS.2.2 d hlk
theorem wm_vret {post : Sg → Prop} (d : decode cc pc = .ok (.return_, 1)) (hp : post σ) : Wm TB l R own cc nL none D cT ad L (zA ad L.length sz) (zZ (fun D cT ad L sz => zQv D cT ad L sz post) D cT ad L sz) [] pc ls [] σ 0 0 := by
  intro p e s m args below meth c H locs la C w hl
  obtain ⟨hx, hb, hml, hown, hts, hr, hlk, hTB⟩ := id C
  obtain ⟨hA, hK, hP, hD, hS⟩ := w
  rw [List.append_nil] at hP hD
  exact W.vret hx hb hr (fun t ht hW => ⟨⟨σ, rfl, hp, by rw [ht]; exact hP, va_K.moved hW.alike hK, hD⟩, hS.F ht⟩) hS.2.2 d hlk
end RET
/-- a world seen again behind a call -/
theorem zD_same {A : Nat → Prop} {w w' : va_W} (h : w'.map (·.1) = w.map (·.1)) (hD : va_D A w) : va_D A w' := by
  have key : ∀ (k : Nat) (q : Nat × va_E), w'[k]? = some q → ∃ q0, w[k]? = some q0 ∧ q0.1 = q.1 := by
    intro k q hk
    have h1 : (w'.map (·.1))[k]? = some q.1 := by rw [List.getElem?_map, hk]; rfl
    rw [h, List.getElem?_map] at h1
    cases hw : w[k]? with
    | none => rw [hw] at h1; cases h1
    | some q0 => rw [hw] at h1; exact ⟨q0, rfl, Option.some.inj h1⟩
  refine ⟨fun i j x y hi hj hxy => ?_, fun k q hk => ?_⟩
  · obtain ⟨x0, h1, h2⟩ := key i x hi
    obtain ⟨y0, h3, h4⟩ := key j y hj
    exact hD.1 i j x0 y0 h1 h3 (h2.trans (hxy.trans h4.symm))
  · obtain ⟨q0, h1, h2⟩ := key k q hk
    rw [← h2]
    exact hD.2 k q0 h1
theorem zw_fst (cT ad : Nat → Nat) (L : List Dsc) (σ σ' : Sg) : (zw cT ad L σ').map (·.1) = (zw cT ad L σ).map (·.1) := by
  apply List.ext_getElem?
  intro i
  simp only [zw, List.getElem?_map, List.getElem?_mapIdx]
  cases L[i]? <;> rfl
theorem zP_left {D : va_G} {cl : List vw_C} {w X : va_W} {H : Heap} (h : va_P D cl (w ++ X) H) : va_P D cl w H := fun k q hk => h k q (by rw [List.getElem?_append_left (List.getElem?_eq_some_iff.mp hk).1]; exact hk)
theorem zD_left {A : Nat → Prop} {w X : va_W} (h : va_D A (w ++ X)) : va_D A w := ⟨fun i j p q hi hj e => h.1 i j p q (by rw [List.getElem?_append_left (List.getElem?_eq_some_iff.mp hi).1]; exact hi) (by rw [List.getElem?_append_left (List.getElem?_eq_some_iff.mp hj).1]; exact hj) e, fun k q hk => h.2 k q (by rw [List.getElem?_append_left (List.getElem?_eq_some_iff.mp hk).1]; exact hk)⟩
/-- what a callee over the layout may change is of the caller's own cells -/
theorem zfree {D : va_G} {cT ad : Nat → Nat} {L : List Dsc} {X : va_W} {A : Nat → Prop} {s : State} {σ : Sg} {H : Heap} {locs : List Loc} (w : zW D cT ad L X A s σ H locs) : ∀ q, zA ad L.length H.size q → A q := by
  intro q hq
  rcases hq with ⟨k, hk, rfl⟩ | hq
  · have h1 := zw_get (cT := cT) (ad := ad) (σ := σ) X (List.getElem?_eq_getElem hk)
    exact w.2.2.2.1.2 k _ h1
  · exact w.1.1 q (Nat.le_trans w.2.2.2.2.1 hq)
/-- the world behind a call: the layout's cells anew, the further ones as they were -/
theorem zjoin {D : va_G} {cT ad : Nat → Nat} {L : List Dsc} {X : va_W} {A A1 : Nat → Prop} {s t : State} {σ σ' : Sg} {H H1 : Heap} {locs locs1 : List Loc} (w : zW D cT ad L X A s σ H locs) (ht : t.heap = H1) (hB : zB D cT ad L A1 σ' t)
    (hk : ∀ q : Nat, q < H.size → ¬ zA ad L.length H.size q → H1[q]? = H[q]?) (hS : va_S A s.heap H1 locs1) : zW D cT ad L X A s σ' H1 locs1 := by
  obtain ⟨hA, hK, hP, hD, -⟩ := w
  have hP1 : va_P D vwCl (zw cT ad L σ') H1 := by rw [← ht]; exact hB.1
  refine ⟨hA, hK, hP1.app (fun k q hq => ?_), zD_same (by rw [List.map_append, List.map_append, zw_fst cT ad L σ σ']) hD, hS⟩
  have hq2 : (zw cT ad L σ ++ X)[(zw cT ad L σ).length + k]? = some q := by rw [List.getElem?_append_right (by omega)]; simpa using hq
  have hlt := (hP _ q hq2).lt
  refine (hP _ q hq2).kept (hk q.1 hlt ?_)
  rintro (⟨j, hj, e⟩ | h)
  · have h1 := zw_get (cT := cT) (ad := ad) (σ := σ) X (List.getElem?_eq_getElem hj)
    have h2 := hD.1 _ _ q _ hq2 h1 e
    rw [zw_len] at h2
    omega
  · omega
theorem zcats (ad : Nat → Nat) (st : List Value) : ((st.map (zv ad)).map fun v => v.category).sum = (st.map fun v => v.category).sum := by
  rw [List.map_map, show ((fun v : Value => v.category) ∘ zv ad) = (fun v => v.category) from funext (zv_cat ad)]
/-- what is said of a callee once: its words, its class, how many parameters -/
def zCal (y : MethodName) (bytes : ByteArray) (maxL : Nat) (ret : Option FieldType) (n : Nat) : Prop := Cond.code y bytes maxL ret ∈ zAll ∧ Cond.initialized y.cls ∈ zAll ∧ y.cls ≠ "java/lang/invoke/MethodHandle" ∧ y.cls ≠ "java/lang/invoke/VarHandle" ∧ (parseMethodDescriptor y.desc).map (fun d => d.parameters.length) = some n
/-- an instance method's -/
def zCaV (C : String) (y : MethodName) : Prop := Cond.instanceMethod y ∈ zAll ∧ Cond.selects C y y ∈ zAll
theorem zpre_blind {D : va_G} {cT ad : Nat → Nat} {L : List Dsc} {sz : Nat} {as : List Value} {σ : Sg} : FrameBlind (zPc D cT ad L sz as σ) := by
  intro a U g mk q
  obtain ⟨q0, q1, qP, qK, qD, qE⟩ := q
  exact ⟨q0, q1, qP, va_K.moved (u := U) (U := U.calling g mk a) (Vm.Alike.refl U.vm) qK, qD, zE_calling qE⟩
theorem zpre_of {D : va_G} {cT ad : Nat → Nat} {L : List Dsc} {X : va_W} {A : Nat → Prop} {s U : State} {σ : Sg} {H : Heap} {locs : List Loc} (as : List Value) (w : zW D cT ad L X A s σ H locs) (hU : U.heap = H) (hW : s.WarmedH U.vm) : zPc D cT ad L H.size as σ (as.map (zv ad)).toArray U :=
  ⟨rfl, by rw [hU], by rw [hU]; exact zP_left w.2.2.1, va_K.moved hW.alike w.2.1, (zD_left w.2.2.2.1).weaken (fun _ _ _ _ => trivial), zE_warm w.1.2 w.2.2.2.2 hU hW (zfree w)⟩
theorem zwords {y : MethodName} {bytes : ByteArray} {maxL n : Nat} {ret : Option FieldType} (hc : zCal y bytes maxL ret n) : ∀ w ∈ Cond.code y bytes maxL ret :: zAll, w ∈ zAll := fun w h => (List.mem_cons.mp h).elim (fun e => by rw [e]; exact hc.1) id
