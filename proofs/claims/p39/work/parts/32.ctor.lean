/-! CONSTRUCTORS: walks whose further cells grow; refs are addresses -/
def zI : Nat → Nat := fun k => k
def zTI : Method → Code → Prop := fun meth _ => meth.name = "<init>"
theorem zw_I (cT : Nat → Nat) (σ : Sg) : zw cT zI [] σ = [] := rfl
def zAk (b sz : Nat) : Nat → Prop := fun q => q = b ∨ sz ≤ q
def zPk (D : va_G) (cT : Nat → Nat) (b sz : Nat) (e0 : va_E) : Array Value → State → Prop := va_Pc [.ref b] (fun U => U.heap.size = sz ∧ va_P D vwCl [(b, e0)] U.heap ∧ va_K D vwCl (ztys cT) U ∧ zE (zAk b sz) U)
def zBk (D : va_G) (b sz : Nat) (F : Nat → (Nat → Nat → Nat) → va_W) (r : Nat → Nat → Nat) (t : State) : Prop := va_P D vwCl (F b r) t.heap ∧ va_D (zAk b sz) (F b r)
def zQk (D : va_G) (b sz : Nat) (F : Nat → (Nat → Nat → Nat) → va_W) : Array Value → State → Outcome → State → Prop := va_Qv (fun _ : Nat → Nat → Nat => True) (zBk D b sz F) (zAk b sz)
def zMetk (l : Launch) (y : MethodName) (bytes : ByteArray) (maxL h mc ms : Nat) (e0 : va_E) (F : (Nat → Nat) → Nat → (Nat → Nat → Nat) → va_W) : Prop :=
  ∀ (D : va_G) (cT : Nat → Nat) (b sz : Nat), Met l y (Cond.code y bytes maxL none :: zAll) (rmx h mc ms) (zPk D cT b sz e0) (zQk D b sz (F cT)) mc ms (zAk b sz)
theorem zPk_blind {D : va_G} {cT : Nat → Nat} {b sz : Nat} {e0 : va_E} : FrameBlind (zPk D cT b sz e0) := by
  intro a U g mk q
  obtain ⟨q0, q1, qP, qK, qE⟩ := q
  exact ⟨q0, q1, qP, va_K.moved (u := U) (U := U.calling g mk a) (Vm.Alike.refl U.vm) qK, zE_calling qE⟩
theorem zMetk_of {l : Launch} {y : MethodName} {bytes : ByteArray} {maxL h mc ms : Nat} {e0 : va_E} {F : (Nat → Nat) → Nat → (Nat → Nat → Nat) → va_W} (hy : plainName y.cls = true) (hn : 1 ≤ maxL) (hi : y.name = "<init>")
    (hw : ∀ (D : va_G) (cT : Nat → Nat) (b sz : Nat), Wm zTI l (rmx h mc ms) y.cls bytes maxL none D cT zI [] (zAk b sz) (fun below args s => MQ below (zQk D b sz (F cT)) args s mc ms (zAk b sz)) [(b, e0)] 0 [(0, .ref b)] [] (fun _ _ => 0) 0 0) : zMetk l y bytes maxL h mc ms e0 F := by
  intro D cT b sz
  refine Met.ofW (cc := bytes) (maxL := maxL) (ret := none) hy rfl ?_
  intro p e s m args below meth c s₁ B hml hv
  obtain ⟨rfl, hsz, hP, hK, hE⟩ := hv
  have hown : s.vm.findClass y.cls = some m.cls := findClass_of_methodNamed B.named
  have hts : ∀ w ∈ zAll, w.before [Value.ref b].toArray s = true := fun w hw9 => atoms_spec (ws := Cond.code y bytes maxL none :: zAll) B.pre w (List.mem_cons_of_mem _ hw9)
  have hnm : meth.name = "<init>" := by rw [(name_of_methodNamed B.named B.method).1]; exact hi
  subst hsz
  have hl := lv_entry [Value.ref b] (n := maxL) (show (lg_sl [Value.ref b]).length ≤ maxL from hn)
  rw [lg_entry_eq]
  generalize (lg_sl [Value.ref b] ++ List.replicate (maxL - (lg_sl [Value.ref b]).length) Slot.unset).toArray = la at hl ⊢
  refine hw D cT b s.heap.size p e s m _ below meth c s.heap [] la ⟨B.exec, B.bytes, hml, hown, hts, B.returns, B.notSynchronized, hnm⟩ ⟨⟨fun q hq => Or.inr hq, hE⟩, hK, hP, ?_, va_S.rf⟩ hl
  refine ⟨fun i j x y hx hy hxy => ?_, fun k q hk => ?_⟩
  · have h1 : i = 0 := by
      have : i < 1 := (List.getElem?_eq_some_iff.mp hx).1
      omega
    have h2 : j = 0 := by
      have : j < 1 := (List.getElem?_eq_some_iff.mp hy).1
      omega
    omega
  · have h1 : k = 0 := by
      have : k < 1 := (List.getElem?_eq_some_iff.mp hk).1
      omega
    subst h1
    cases hk
    exact Or.inl rfl
theorem zq_cell {c : ClassId} {n : Nat} {f f' : Nat → Option Nat} (h : ∀ i, i < n → f i = f' i) : vp_cell c (n, .inr (.inr (.inr (.inr f)))) = vp_cell c (n, .inr (.inr (.inr (.inr f')))) := by
  rw [vp_cell_q, vp_cell_q]
  unfold arrV
  congr 1
  congr 1
  funext j
  show va_rf (f j.val) = va_rf (f' j.val)
  rw [h j.val j.isLt]
theorem zq_P {D : va_G} {cl : List vw_C} {X Y : va_W} {H : Heap} {a n : Nat} {c : ClassId} {f f' : Nat → Option Nat} (h : va_P D cl ((X ++ [(a, .inl (c, n, .inr (.inr (.inr (.inr f)))))]) ++ Y) H) (hf : ∀ i, i < n → f i = f' i) : va_P D cl ((X ++ [(a, .inl (c, n, .inr (.inr (.inr (.inr f')))))]) ++ Y) H := by
  intro k q hk
  by_cases e : k = X.length
  · subst e
    rw [List.getElem?_append_left (by simp), List.getElem?_append_right (Nat.le_refl _)] at hk
    simp at hk
    subst hk
    have h1 := h X.length (a, .inl (c, n, .inr (.inr (.inr (.inr f))))) (by rw [List.getElem?_append_left (by simp), List.getElem?_append_right (Nat.le_refl _)]; simp)
    have h2 : H[a]? = some (vp_cell c (n, .inr (.inr (.inr (.inr f))))) := h1
    rw [zq_cell hf] at h2
    exact h2
  · refine h k q ?_
    rw [← hk]
    by_cases hl : k < X.length
    · rw [List.append_assoc, List.append_assoc, List.getElem?_append_left hl, List.getElem?_append_left hl]
    · obtain ⟨j, rfl⟩ : ∃ j, k = X.length + 1 + j := ⟨k - X.length - 1, by omega⟩
      rw [List.getElem?_append_right (by simp), List.getElem?_append_right (by simp)]
      simp
theorem zq_D {A : Nat → Prop} {X Y : va_W} {a : Nat} {e e' : va_E} (h : va_D A ((X ++ [(a, e)]) ++ Y)) : va_D A ((X ++ [(a, e')]) ++ Y) := zD_same (by simp) h
section CTOR
variable {TB : Method → Code → Prop} {l : Launch} {R : Room} {own : String} {cc : ByteArray} {nL : Nat} {ret : Option FieldType} {D : va_G} {cT : Nat → Nat} {A : Nat → Prop} {Z : List Frame → Array Value → State → State → Prop} {X : va_W} {pc : Nat} {ls : List (Nat × Value)} {st : List Value} {σ : Sg} {k n : Nat}
theorem zIm (ls : List (Nat × Value)) : zlm zI ls = ls := by
  induction ls with
  | nil => rfl
  | cons a t ih =>
    show (a.1, zv zI a.2) :: zlm zI t = a :: t
    rw [ih]
    congr 1
    obtain ⟨i, v⟩ := a
    cases v <;> rfl
theorem wk_ret {b sz : Nat} {F : Nat → (Nat → Nat → Nat) → va_W} {mc ms : Nat} (d : decode cc pc = .ok (.return_, 1)) (hk : k ≤ mc) (hs : n ≤ ms) (r : Nat → Nat → Nat) (is : List Nat) (h1 : is.filterMap (fun i => X[i]?) = F b r) (h2 : va_nd is = true) (h3 : is.map (fun i => X[i]?) = (F b r).map some) : Wm TB l R own cc nL none D cT zI [] (zAk b sz) (fun below args s => MQ below (zQk D b sz F) args s mc ms (zAk b sz)) X pc ls [] σ k n := by
  intro p e s m args below meth c H locs la C w hl
  obtain ⟨hx, hb, hml, hown, hts, hr, hlk, hTB⟩ := id C
  obtain ⟨hA, hK, hP, hD, hS⟩ := w
  intro T hT Xs
  exact (W.vret hx hb hr (fun t ht hW => ⟨⟨r, rfl, trivial, by rw [ht]; exact va_P.sub hP is h1, va_D.sub hD is h2 h3⟩, hS.F ht⟩) hS.2.2 d hlk : W p l e R s m args below meth c H locs mc ms _ _) T hT (stand_widen Xs hk hs)
theorem zP_mem {cl : List vw_C} {D : va_G} {ws ws' : va_W} {H : Heap} (h : va_P D cl ws H) (hm : ∀ q ∈ ws', q ∈ ws) : va_P D cl ws' H := by
  intro k q hk
  obtain ⟨i, hi⟩ := List.getElem?_of_mem (hm q (List.mem_of_getElem? hk))
  exact h i q hi
theorem zD_nd {A : Nat → Prop} {ws : va_W} : va_D A ws ↔ (ws.map (·.1)).Nodup ∧ ∀ q ∈ ws, A q.1 := by
  constructor
  · intro h
    refine ⟨List.pairwise_iff_getElem.mpr (fun i j hi hj hij e => ?_), fun q hq => ?_⟩
    · have hi' : i < ws.length := by simpa using hi
      have hj' : j < ws.length := by simpa using hj
      rw [List.getElem_map, List.getElem_map] at e
      have := h.1 i j _ _ (List.getElem?_eq_getElem hi') (List.getElem?_eq_getElem hj') e
      omega
    · obtain ⟨i, hi⟩ := List.getElem?_of_mem hq
      exact h.2 i q hi
  · rintro ⟨h1, h2⟩
    have h3 := List.pairwise_iff_getElem.mp h1
    refine ⟨fun i j x y hi hj hxy => ?_, fun k q hk => h2 q (List.mem_of_getElem? hk)⟩
    obtain ⟨li, e1⟩ := List.getElem?_eq_some_iff.mp hi
    obtain ⟨lj, e2⟩ := List.getElem?_eq_some_iff.mp hj
    rcases Nat.lt_trichotomy i j with e | e | e
    · exact absurd (by rw [List.getElem_map, List.getElem_map, e1, e2]; exact hxy) (h3 i j (by simpa using li) (by simpa using lj) e)
    · exact e
    · exact absurd (by rw [List.getElem_map, List.getElem_map, e1, e2]; exact hxy.symm) (h3 j i (by simpa using lj) (by simpa using li) e)
theorem zD_perm {A : Nat → Prop} {ws ws' : va_W} (h : va_D A ws) (hp : ws.Perm ws') : va_D A ws' := by
  rw [zD_nd] at h ⊢
  exact ⟨(hp.map _).nodup h.1, fun q hq => h.2 q (hp.mem_iff.mpr hq)⟩
theorem wk_eqX {X' : va_W} (h : X = X') (kk : Wm TB l R own cc nL ret D cT zI [] A Z X' pc ls st σ k n) : Wm TB l R own cc nL ret D cT zI [] A Z X pc ls st σ k n := by subst h; exact kk
theorem wk_retP {b sz : Nat} {F : Nat → (Nat → Nat → Nat) → va_W} {mc ms : Nat} (d : decode cc pc = .ok (.return_, 1)) (hk : k ≤ mc) (hs : n ≤ ms) (r : Nat → Nat → Nat) (hp : X.Perm (F b r)) : Wm TB l R own cc nL none D cT zI [] (zAk b sz) (fun below args s => MQ below (zQk D b sz F) args s mc ms (zAk b sz)) X pc ls [] σ k n := by
  intro p e s m args below meth c H locs la C w hl
  obtain ⟨hx, hb, hml, hown, hts, hr, hlk, hTB⟩ := id C
  obtain ⟨hA, hK, hP, hD, hS⟩ := w
  intro T hT Xs
  exact (W.vret hx hb hr (fun t ht hW => ⟨⟨r, rfl, trivial, by rw [ht]; exact zP_mem hP (fun q hq => hp.mem_iff.mpr hq), zD_perm hD hp⟩, hS.F ht⟩) hS.2.2 d hlk : W p l e R s m args below meth c H locs mc ms _ _) T hT (stand_widen Xs hk hs)
theorem wk_obj {index : Nat} {b : Nat} (q : Nat) (hq : pc + 3 = q) (d : decode cc pc = .ok (.invokespecial index, 3)) (h1 : Cond.methodLink own index objectInit ∈ zAll) (h2 : Cond.instanceMethod objectInit ∈ zAll) (h3 : Cond.code objectInit ⟨#[0xb1]⟩ 1 none ∈ zAll) (hR : 1 ≤ R.frames ∧ 20 ≤ R.locals) (hc : (st.map fun v => v.category).sum ≤ 8)
    (kk : Wm TB l R own cc nL ret D cT zI [] A Z X q ls st σ k n) : Wm TB l R own cc nL ret D cT zI [] A Z X pc ls (.ref b :: st) σ k n := by
  subst hq
  intro p e s m args below meth c H locs la C w hl
  obtain ⟨hx, hb, hml, hown, hts, hr, hlk, hTB⟩ := id C
  refine W.objInit hx hb hown (hts _ h1) (hts _ h2) (hts _ h3) (g := F0 m pc la ((Value.ref b :: st).map (zv zI))) rfl (hl.1.trans hml.symm) rfl d hR.1 ?_ (kk p e s m args below meth c H locs la C w hl)
  have h9 : 2 * (F0 m pc la ((Value.ref b :: st).map (zv zI))).monitorRoom + ((st.map (zv zI)).map fun v => v.category).sum ≤ 8 := lv_room (by rw [zcats]; exact hc)
  have h8 := hR.2
  omega
theorem wk_newa {atype : ArrayType} {ty : FieldType} {a0 : vp_A} {v : Int32} {i N' : Nat} (q : Nat) (hq : pc + 2 = q) (d : decode cc pc = .ok (.newarray atype, 2)) (hw : Cond.arrayClass ty ∈ zAll) (hty : newarray.typeOf atype = ty) (hi : (ztys cT)[i]? = some (cT i, ty)) (hra : ∀ (U : State) (c1 c2 : Nat), va_RA U c1 ty → va_RA U c2 ty → c1 = c2) (ha : ∀ cA : ClassId, vp_cell cA a0 = arrV cA N' (fun _ => defaultValue ty)) (hn : ¬ v < 0) (hN : v.toNatClampNeg = N') (hb9 : N' * componentBytes ty ≤ 536870912) (hR : k + 1 ≤ R.cells ∧ n + N' ≤ R.slots)
    (kk : ∀ a : Nat, Wm TB l R own cc nL ret D cT zI [] A Z (X ++ [(a, .inl (cT i, a0))]) q ls (.ref a :: st) σ (k + 1) (n + N')) : Wm TB l R own cc nL ret D cT zI [] A Z X pc ls (.int v :: st) σ k n := by
  subst hq
  intro p e s m args below meth c H locs la C w hl
  obtain ⟨hx, hb, hml, hown, hts, hr, hlk, hTB⟩ := id C
  obtain ⟨hA, hK, hP, hD, hS⟩ := id w
  refine va_newa hx hb (by rw [hty]; exact hts _ hw) hty hK hP hD hS hA.1 ha hn hN hb9 hR.1 hR.2 d (fun a cA H1 hK1 hP1 hD1 hS1 => ?_)
  have e1 := (hK1.2 2 (cA, ty) rfl).2
  have e2 := (hK.2 i _ hi).2
  cases hra s cA (cT i) e1 e2
  exact kk a p e s m args below meth c H1 locs la C ⟨hA, hK, hP1, hD1, hS1⟩ hl
theorem ra_int (U : State) (c1 c2 : Nat) (h1 : va_RA U c1 .int) (h2 : va_RA U c2 .int) : c1 = c2 := Option.some.inj (h1.symm.trans h2)
theorem ra_boolean (U : State) (c1 c2 : Nat) (h1 : va_RA U c1 .boolean) (h2 : va_RA U c2 .boolean) : c1 = c2 := Option.some.inj (h1.symm.trans h2)
theorem ra_long (U : State) (c1 c2 : Nat) (h1 : va_RA U c1 .long) (h2 : va_RA U c2 .long) : c1 = c2 := Option.some.inj (h1.symm.trans h2)
theorem ra_double (U : State) (c1 c2 : Nat) (h1 : va_RA U c1 .double) (h2 : va_RA U c2 .double) : c1 = c2 := Option.some.inj (h1.symm.trans h2)
theorem ra_aint (U : State) (c1 c2 : Nat) (h1 : va_RA U c1 (.array .int)) (h2 : va_RA U c2 (.array .int)) : c1 = c2 := Option.some.inj (h1.symm.trans h2)
theorem wk_mna {index : Nat} {v w : Int32} {N' K' : Nat} (q : Nat) (hq : pc + 4 = q) (d : decode cc pc = .ok (.multianewarray index 2, 4)) (hcl : Cond.classLink own index "[[I" ∈ zAll) (hw : Cond.arrayClass .int ∈ zAll) (hv0 : ¬ v < 0) (hw0 : ¬ w < 0) (hN : v.toNatClampNeg = N') (hK' : w.toNatClampNeg = K') (hb1 : N' * 4 ≤ 536870912) (hb2 : K' * componentBytes .int ≤ 536870912) (hb3 : K' ≤ 536870912) (hR : k + (1 + N') ≤ R.cells ∧ n + (N' + N' * K') ≤ R.slots)
    (kk : ∀ (a : Nat) (r : Nat → Nat), Wm TB l R own cc nL ret D cT zI [] A Z ((X ++ [(a, .inl (cT 1, N', .inr (.inr (.inr (.inr (fun i => some (r i)))))))]) ++ (List.range N').map (fun i => (r i, .inl (cT 0, K', .inl (fun _ => 0))))) q ls (.ref a :: st) σ (k + 1 + N') (n + N' + N' * K')) : Wm TB l R own cc nL ret D cT zI [] A Z X pc ls (.int w :: .int v :: st) σ k n := by
  subst hq
  intro p e s m args below meth c H locs la C w9 hl
  obtain ⟨hx, hb, hml, hown, hts, hr, hlk, hTB⟩ := id C
  obtain ⟨hA, hK, hP, hD, hS⟩ := id w9
  have hc0 : s.vm.findClass (FieldType.array .int).toString = some (cT 0) := (hK.2 0 _ rfl).2
  refine va_mna (X := X) (L := []) (f := fun _ => .inl (0, 0, .inl (fun _ => 0))) hx hb (cy := cT 0) (ty := .int) hown (hts _ hcl) hA.2.2.2.2.2.1 (hts _ hw) hc0 hK (by rw [show X ++ va_pl [] _ = X from List.append_nil X]; exact hP) (by rw [show X ++ va_pl [] _ = X from List.append_nil X]; exact hD) hS hA.1 hv0 hw0 hN hK' hb1 hb2 hb3 rfl rfl hR.1 hR.2 (z := (K', .inl (fun _ => 0))) (fun c9 => ?_) d (fun a r cA H1 hr1 hr2 hK1 hP1 hD1 hS1 => ?_)
  · rw [vp_cell_i]
    exact arrV_new _ _ _
  have e1 := (hK1.2 2 (cA, .array .int) rfl).2
  have e2 := (hK.2 1 _ rfl).2
  cases ra_aint s cA (cT 1) e1 e2
  have e3 : va_pl ([] ++ (List.range N').map r) (vr_up (fun _ => .inl (0, 0, .inl (fun _ => 0))) ((List.range N').map r) (.inl (cT 0, K', .inl (fun _ => 0)))) = (List.range N').map (fun i => (r i, .inl (cT 0, K', .inl (fun _ => 0)))) := by
    rw [← vr_rows (fun _ _ => List.not_mem_nil), List.map_map]
    rfl
  rw [e3] at hP1 hD1
  exact kk a r p e s m args below meth c H1 locs la C ⟨hA, hK, zq_P hP1 (fun i hi => if_pos hi), zq_D hD1, hS1⟩ hl
/-- a field of an object under construction: the place of the object in the list, the field -/
theorem wk_put {index ci j q0 N b : Nat} {C ref : String} {T : u_T} {ty0 : Nat → FieldType} {fs : List Value} {v : Value} {fty : FieldType} (q : Nat) (hq : pc + 3 = q) (d : decode cc pc = .ok (.putfield index, 3)) (hci : vwCl[ci]? = some (C, T, N)) (hin : ∀ w ∈ u_ws C T N, w ∈ zAll) (hj : j < N) (hw : Cond.fieldLink own index ref (T j).2.1 (T j).2.2.1 ∈ zAll) (hrd : ref = (T j).1) (hty : ∀ k, k < N → parseFieldDescriptor (T k).2.2.1 = some (ty0 k)) (hnm : ∀ a, a < N → ∀ b, b < N → a ≠ b → (T a).2.1 ≠ (T b).2.1) (hfin : (T j).2.2.2 = false)
    (hd : parseFieldDescriptor (T j).2.2.1 = some fty) (hn : narrow fty v = v) (hfit : fits fty v = true) (hl : j < fs.length) (he : X[q0]? = some (b, .inr (ci, fs))) (hzv : zv zI v = v)
    (kk : Wm TB l R own cc nL ret D cT zI [] A Z (X.set q0 (b, .inr (ci, fs.set j v))) q ls st σ k n) : Wm TB l R own cc nL ret D cT zI [] A Z X pc ls (v :: .ref b :: st) σ k n := by
  subst hq
  subst hrd
  intro p e s m args below meth c H locs la CC w hl9
  obtain ⟨hx, hb, hml, hown, hts, hr, hlk, hTB⟩ := id CC
  obtain ⟨hA, hK, hP, hD, hS⟩ := id w
  show W p l e R s m args below meth c H locs k n _ (F0 m pc la (zv zI v :: .ref b :: st.map (zv zI)))
  rw [hzv]
  exact va_put hx hb hts hin ty0 hty hnm hown hK hP hD hS q0 he hci j hj (hts _ hw) (fun _ h => h) hfin hd hn hfit hl d (fun H1 locs1 hP1 hD1 hS1 => kk p e s m args below meth c H1 locs1 la CC ⟨hA, hK, hP1, hD1, hS1⟩ hl9)
theorem wk_putF {index ci j q0 N b : Nat} {C ref : String} {T : u_T} {ty0 : Nat → FieldType} {fs : List Value} {v : Value} {fty : FieldType} (q : Nat) (hq : pc + 3 = q) (d : decode cc pc = .ok (.putfield index, 3)) (hci : vwCl[ci]? = some (C, T, N)) (hin : ∀ w ∈ u_ws C T N, w ∈ zAll) (hj : j < N) (hw : Cond.fieldLink own index ref (T j).2.1 (T j).2.2.1 ∈ zAll) (hrd : ref = (T j).1) (hdecl : (T j).1 = own) (hty : ∀ k, k < N → parseFieldDescriptor (T k).2.2.1 = some (ty0 k)) (hnm : ∀ a, a < N → ∀ b, b < N → a ≠ b → (T a).2.1 ≠ (T b).2.1) (hfin : (T j).2.2.2 = true)
    (hd : parseFieldDescriptor (T j).2.2.1 = some fty) (hn : narrow fty v = v) (hfit : fits fty v = true) (hl : j < fs.length) (he : X[q0]? = some (b, .inr (ci, fs))) (hzv : zv zI v = v)
    (kk : Wm zTI l R own cc nL ret D cT zI [] A Z (X.set q0 (b, .inr (ci, fs.set j v))) q ls st σ k n) : Wm zTI l R own cc nL ret D cT zI [] A Z X pc ls (v :: .ref b :: st) σ k n := by
  subst hq
  subst hrd
  intro p e s m args below meth c H locs la CC w hl9
  obtain ⟨hx, hb, hml, hown, hts, hr, hlk, hTB⟩ := id CC
  obtain ⟨hA, hK, hP, hD, hS⟩ := id w
  show W p l e R s m args below meth c H locs k n _ (F0 m pc la (zv zI v :: .ref b :: st.map (zv zI)))
  rw [hzv]
  exact va_putF hx hb hts hin ty0 hty hnm hown hK hP hD hS q0 he hci j hj (hts _ hw) (fun _ h => h) hfin hTB hdecl hd hn hfit hl d (fun H1 locs1 hP1 hD1 hS1 => kk p e s m args below meth c H1 locs1 la CC ⟨hA, hK, hP1, hD1, hS1⟩ hl9)
theorem wk_new {index ci N : Nat} {C : String} {T : u_T} {ty0 : Nat → FieldType} {fs : List Value} (q : Nat) (hq : pc + 3 = q) (d : decode cc pc = .ok (.new index, 3)) (hci : vwCl[ci]? = some (C, T, N)) (hin : ∀ w ∈ u_ws C T N, w ∈ zAll) (hcl : Cond.classLink own index C ∈ zAll) (hinst : Cond.instantiable C N ∈ zAll) (hini : Cond.initialized C ∈ zAll) (hty : ∀ k, k < N → parseFieldDescriptor (T k).2.2.1 = some (ty0 k)) (hfs : ∀ j, j < N → defaultValue (ty0 j) = vp_V fs j) (hR : k + 1 ≤ R.cells ∧ n + N ≤ R.slots)
    (kk : ∀ a : Nat, Wm TB l R own cc nL ret D cT zI [] A Z (X ++ [(a, .inr (ci, fs))]) q ls (.ref a :: st) σ (k + 1) (n + N)) : Wm TB l R own cc nL ret D cT zI [] A Z X pc ls st σ k n := by
  subst hq
  intro p e s m args below meth c H locs la CC w hl9
  obtain ⟨hx, hb, hml, hown, hts, hr, hlk, hTB⟩ := id CC
  obtain ⟨hA, hK, hP, hD, hS⟩ := id w
  exact va_new hx hb hts hin ty0 hty hown (hts _ hcl) (hts _ hinst) (hts _ hini) hK hP hD hS hA.1 hci hfs hR.1 hR.2 d (fun a H1 hP1 hD1 hS1 => kk a p e s m args below meth c H1 locs la CC ⟨hA, hK, hP1, hD1, hS1⟩ hl9)
/-- the call of a constructor on the last cell of the list -/
theorem wk_call {index h mc ms b maxL : Nat} {y : MethodName} {bytes : ByteArray} {e0 : va_E} {F : (Nat → Nat) → Nat → (Nat → Nat → Nat) → va_W} (q : Nat) (hq : pc + 3 = q) (d : decode cc pc = .ok (.invokespecial index, 3)) (hM : zMetk l y bytes maxL h mc ms e0 F) (hy1 : y.name = "<init>") (hc : zCal y bytes maxL none 0) (hi : Cond.instanceMethod y ∈ zAll) (hl9 : (own, index, y) ∈ zNWl) (hR : h + 1 ≤ R.frames ∧ 8 + (maxL + 11) + 36 * h ≤ R.locals) (hcat : (st.map fun v => v.category).sum ≤ 8) (hk : k + mc ≤ R.cells ∧ n + ms ≤ R.slots)
    (kk : ∀ r : Nat → Nat → Nat, Wm TB l R own cc nL ret D cT zI [] A Z (X ++ F cT b r) q ls st σ (k + mc) (n + ms)) : Wm TB l R own cc nL ret D cT zI [] A Z (X ++ [(b, e0)]) pc ls (.ref b :: st) σ k n := by
  subst hq
  intro p e s m args below meth c H locs la CC w hl
  obtain ⟨hx, hb, hml, hown, hts, hr, hlk, hTB⟩ := id CC
  obtain ⟨hA, hK, hP, hD, hS⟩ := id w
  have hP : va_P D vwCl (X ++ [(b, e0)]) H := hP
  have hD : va_D A (X ++ [(b, e0)]) := hD
  have hXb : (X ++ [(b, e0)])[X.length]? = some (b, e0) := by rw [List.getElem?_append_right (Nat.le_refl _)]; simp
  have hXl : ∀ (i : Nat) (x : Nat × va_E), X[i]? = some x → (X ++ [(b, e0)])[i]? = some x := fun i x hi => by rw [List.getElem?_append_left (List.getElem?_eq_some_iff.mp hi).1]; exact hi
  have hAb : A b := hD.2 _ _ hXb
  have hsub : ∀ x, zAk b H.size x → A x := fun x hx9 => by
    rcases hx9 with rfl | hx9
    · exact hAb
    · exact hA.1 x (Nat.le_trans hS.1 hx9)
  have hP1 : va_P D vwCl [(b, e0)] H := fun i x hi => by
    have h0 : i < 1 := (List.getElem?_eq_some_iff.mp hi).1
    have h1 : i = 0 := by omega
    subst h1
    cases hi
    exact hP _ _ hXb
  refine va_callv (va_runIN (host := RX4) (As := []) (rest := st.map (zv zI)) ⟨hx, hb, hml, hown, hts⟩ (hM D cT b H.size) ⟨va_cnB 0 hts (zGoodIn (zwords hc)) rfl rfl rfl (hA.2.2.2.2.2.2.1 _ hl9) (hts _ hc.2.1) ⟨hc.2.2.1, hc.2.2.2.1, hc.2.2.2.2⟩ hR, hy1, hts _ hi⟩ ⟨zPk_blind, fun U hU hW => ⟨rfl, by rw [hU], by rw [hU]; exact hP1, va_K.moved hW.alike hK, zE_warm hA.2 hS hU hW hsub⟩⟩ rfl rfl hl.1 rfl (lv_room (by rw [zcats]; exact hcat)) d hk) hS (fun x _ h => hsub x h) hsub (fun r t H1 locs1 ht hvm _ hB hz1 hk1 hS1 => ?_)
  obtain ⟨b1, b2⟩ := hB
  refine kk r p e s m args below meth c H1 locs1 la CC ⟨hA, hK, ?_, ?_, hS1⟩ hl
  · show va_P D vwCl (X ++ F cT b r) H1
    refine va_P.app (fun i x hi => (hP i x (hXl i x hi)).kept (hk1 x.1 (hP i x (hXl i x hi)).lt ?_)) (by rw [← ht]; exact b1)
    rintro (h | h)
    · have h2 := hD.1 i X.length x (b, e0) (hXl i x hi) hXb h
      have := (List.getElem?_eq_some_iff.mp hi).1
      omega
    · have := (hP i x (hXl i x hi)).lt
      omega
  · show va_D A (X ++ F cT b r)
    refine va_D.app ⟨fun i j x y hi hj hxy => hD.1 i j x y (hXl i x hi) (hXl j y hj) hxy, fun i x hi => hD.2 i x (hXl i x hi)⟩ (b2.weaken (fun _ x _ h => hsub x.1 h)) (fun i j x y hi hj hxy => ?_)
    rcases b2.2 j y hj with h | h
    · have h2 := hD.1 i X.length x (b, e0) (hXl i x hi) hXb (hxy.trans h)
      have := (List.getElem?_eq_some_iff.mp hi).1
      omega
    · have := (hP i x (hXl i x hi)).lt
      omega
/-- .. of a public one -/
theorem wk_callP {index h mc ms b maxL : Nat} {y : MethodName} {bytes : ByteArray} {e0 : va_E} {F : (Nat → Nat) → Nat → (Nat → Nat → Nat) → va_W} (q : Nat) (hq : pc + 3 = q) (d : decode cc pc = .ok (.invokespecial index, 3)) (hM : zMetk l y bytes maxL h mc ms e0 F) (hy1 : y.name = "<init>") (hc : zCal y bytes maxL none 0) (hi : Cond.instanceMethod y ∈ zAll) (hl9 : Cond.methodLink own index y ∈ zAll) (hR : h + 1 ≤ R.frames ∧ 8 + (maxL + 11) + 36 * h ≤ R.locals) (hcat : (st.map fun v => v.category).sum ≤ 8) (hk : k + mc ≤ R.cells ∧ n + ms ≤ R.slots)
    (kk : ∀ r : Nat → Nat → Nat, Wm TB l R own cc nL ret D cT zI [] A Z (X ++ F cT b r) q ls st σ (k + mc) (n + ms)) : Wm TB l R own cc nL ret D cT zI [] A Z (X ++ [(b, e0)]) pc ls (.ref b :: st) σ k n := by
  subst hq
  intro p e s m args below meth c H locs la CC w hl
  obtain ⟨hx, hb, hml, hown, hts, hr, hlk, hTB⟩ := id CC
  obtain ⟨hA, hK, hP, hD, hS⟩ := id w
  have hP : va_P D vwCl (X ++ [(b, e0)]) H := hP
  have hD : va_D A (X ++ [(b, e0)]) := hD
  have hXb : (X ++ [(b, e0)])[X.length]? = some (b, e0) := by rw [List.getElem?_append_right (Nat.le_refl _)]; simp
  have hXl : ∀ (i : Nat) (x : Nat × va_E), X[i]? = some x → (X ++ [(b, e0)])[i]? = some x := fun i x hi => by rw [List.getElem?_append_left (List.getElem?_eq_some_iff.mp hi).1]; exact hi
  have hAb : A b := hD.2 _ _ hXb
  have hsub : ∀ x, zAk b H.size x → A x := fun x hx9 => by
    rcases hx9 with rfl | hx9
    · exact hAb
    · exact hA.1 x (Nat.le_trans hS.1 hx9)
  have hP1 : va_P D vwCl [(b, e0)] H := fun i x hi => by
    have h0 : i < 1 := (List.getElem?_eq_some_iff.mp hi).1
    have h1 : i = 0 := by omega
    subst h1
    cases hi
    exact hP _ _ hXb
  refine va_callv (va_runI (As := []) (rest := st.map (zv zI)) ⟨hx, hb, hml, hown, hts⟩ (hM D cT b H.size) (cwI 0 hts (zGoodIn (zwords hc)) rfl rfl rfl (hts _ hc.2.1) (hts _ hl9) (hts _ hi) hy1 ⟨hc.2.2.1, hc.2.2.2.1, hc.2.2.2.2⟩ hR) ⟨zPk_blind, fun U hU hW => ⟨rfl, by rw [hU], by rw [hU]; exact hP1, va_K.moved hW.alike hK, zE_warm hA.2 hS hU hW hsub⟩⟩ rfl rfl hl.1 rfl (lv_room (by rw [zcats]; exact hcat)) d hk) hS (fun x _ h => hsub x h) hsub (fun r t H1 locs1 ht hvm _ hB hz1 hk1 hS1 => ?_)
  obtain ⟨b1, b2⟩ := hB
  refine kk r p e s m args below meth c H1 locs1 la CC ⟨hA, hK, ?_, ?_, hS1⟩ hl
  · show va_P D vwCl (X ++ F cT b r) H1
    refine va_P.app (fun i x hi => (hP i x (hXl i x hi)).kept (hk1 x.1 (hP i x (hXl i x hi)).lt ?_)) (by rw [← ht]; exact b1)
    rintro (h | h)
    · have h2 := hD.1 i X.length x (b, e0) (hXl i x hi) hXb h
      have := (List.getElem?_eq_some_iff.mp hi).1
      omega
    · have := (hP i x (hXl i x hi)).lt
      omega
  · show va_D A (X ++ F cT b r)
    refine va_D.app ⟨fun i j x y hi hj hxy => hD.1 i j x y (hXl i x hi) (hXl j y hj) hxy, fun i x hi => hD.2 i x (hXl i x hi)⟩ (b2.weaken (fun _ x _ h => hsub x.1 h)) (fun i j x y hi hj hxy => ?_)
    rcases b2.2 j y hj with h | h
    · have h2 := hD.1 i X.length x (b, e0) (hXl i x hi) hXb (hxy.trans h)
      have := (List.getElem?_eq_some_iff.mp hi).1
      omega
    · have := (hP i x (hXl i x hi)).lt
      omega
end CTOR
