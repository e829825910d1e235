abbrev vwCl : List vw_C := [(RX1, TX1, 10), (RX2, TX2, 2), (RX3, TX3, 2), (RX4, TX4, 6)]
/-! THE ABSTRACT WALK. The memory of a fixed world of cells is a function: number of the cell, slot, int. 'Wm' says that the method,
standing at pc with these locals and this stack over this memory, comes to its end with Z. References are numbers of cells. -/
abbrev Sg : Type := Nat → Nat → Int32
abbrev Dsc : Type := (Nat × Nat) ⊕ ((Nat × Nat × (Nat → Option Nat)) ⊕ (Nat × List (Option Nat)))
def zu (σ : Sg) (k j : Nat) (x : Int32) : Sg := fun a b => if a = k then (if b = j then x else σ a b) else σ a b
theorem zu_at (σ : Sg) (k j : Nat) (x : Int32) : zu σ k j x k = upd (σ k) j x := by
  funext b
  simp [zu, upd]
theorem zu_ne (σ : Sg) {k a : Nat} (j : Nat) (x : Int32) (h : a ≠ k) : zu σ k j x a = σ a := by
  funext b
  simp [zu, h]
def zv (ad : Nat → Nat) (v : Value) : Value := match v with
  | .ref k => .ref (ad k)
  | v => v
theorem zv_cat (ad : Nat → Nat) (v : Value) : (zv ad v).category = v.category := by cases v <;> rfl
def zfv (ad : Nat → Nat) (r : Nat → Int32) (j : Nat) (f : Option Nat) : Value := match f with
  | none => .int (r j)
  | some k => .ref (ad k)
def zent (cT ad : Nat → Nat) (d : Dsc) (r : Nat → Int32) : va_E := match d with
  | .inl (t, n) => .inl (cT t, n, .inl r)
  | .inr (.inl (t, n, f)) => .inl (cT t, n, .inr (.inr (.inr (.inr (fun i => (f i).map ad)))))
  | .inr (.inr (ci, fs)) => .inr (ci, fs.mapIdx (zfv ad r))
def zw (cT ad : Nat → Nat) (L : List Dsc) (σ : Sg) : va_W := L.mapIdx (fun k d => (ad k, zent cT ad d (σ k)))
theorem zw_len (cT ad : Nat → Nat) (L : List Dsc) (σ : Sg) : (zw cT ad L σ).length = L.length := by simp [zw]
theorem zw_get {cT ad : Nat → Nat} {L : List Dsc} {σ : Sg} {k : Nat} {d : Dsc} (X : va_W) (h : L[k]? = some d) : (zw cT ad L σ ++ X)[k]? = some (ad k, zent cT ad d (σ k)) := by
  have hl : k < L.length := (List.getElem?_eq_some_iff.mp h).1
  rw [List.getElem?_append_left (by rw [zw_len]; exact hl)]
  simp [zw, List.getElem?_mapIdx, h]
theorem zw_set {cT ad : Nat → Nat} {L : List Dsc} {σ : Sg} {k j : Nat} {d : Dsc} {x : Int32} {e : va_E} (X : va_W) (h : L[k]? = some d) (he : e = zent cT ad d (upd (σ k) j x)) : (zw cT ad L σ ++ X).set k (ad k, e) = zw cT ad L (zu σ k j x) ++ X := by
  have hl : k < L.length := (List.getElem?_eq_some_iff.mp h).1
  rw [List.set_append_left _ _ (by rw [zw_len]; exact hl)]
  congr 1
  apply List.ext_getElem?
  intro i
  by_cases hi : i = k
  · subst hi
    rw [List.getElem?_set_self (by rw [zw_len]; exact hl)]
    simp [zw, List.getElem?_mapIdx, h, zu_at, he]
  · rw [List.getElem?_set_ne (Ne.symm hi)]
    simp only [zw, List.getElem?_mapIdx, zu_ne σ j x hi]
theorem zfv_set {ad : Nat → Nat} {r : Nat → Int32} {fs : List (Option Nat)} {j : Nat} {x : Int32} (h : fs[j]? = some none) : (fs.mapIdx (zfv ad r)).set j (.int x) = fs.mapIdx (zfv ad (upd r j x)) := by
  have hl : j < fs.length := (List.getElem?_eq_some_iff.mp h).1
  apply List.ext_getElem?
  intro i
  by_cases hi : i = j
  · subst hi
    rw [List.getElem?_set_self (by simpa using hl)]
    simp [List.getElem?_mapIdx, h, zfv, upd]
  · rw [List.getElem?_set_ne (Ne.symm hi)]
    simp only [List.getElem?_mapIdx]
    cases fs[i]? with
    | none => rfl
    | some f => cases f <;> simp [zfv, upd, hi]
/-- the locals, by their numbers -/
def zl : List (Nat × Value) → Nat → Option Value
  | [], _ => none
  | (j, v) :: t, i => match Nat.beq j i with
    | true => some v
    | false => zl t i
theorem zl_pos : ∀ {ls : List (Nat × Value)} {i : Nat} {v : Value}, zl ls i = some v → ∃ k : Nat, ls[k]? = some (i, v)
  | [], i, v, h => by cases h
  | (j, w) :: t, i, v, h => by
    unfold zl at h
    cases hb : Nat.beq j i with
    | true =>
      rw [hb] at h
      have hj : j = i := Nat.eq_of_beq_eq_true hb
      cases h
      exact ⟨0, by rw [hj]; rfl⟩
    | false =>
      rw [hb] at h
      obtain ⟨k, hk⟩ := zl_pos h
      exact ⟨k + 1, by simpa using hk⟩
abbrev zlm (ad : Nat → Nat) (ls : List (Nat × Value)) : List (Nat × Value) := ls.map (fun q => (q.1, zv ad q.2))
theorem zl_posm {ad : Nat → Nat} {ls : List (Nat × Value)} {i : Nat} {v : Value} (h : zl ls i = some v) : ∃ k : Nat, (zlm ad ls)[k]? = some (i, zv ad v) := by
  obtain ⟨k, hk⟩ := zl_pos h
  exact ⟨k, by simp [zlm, hk]⟩
theorem zl_at {ad : Nat → Nat} {la : Array Slot} {nL : Nat} {ls : List (Nat × Value)} {i : Nat} {v : Value} (hl : lv_has la nL (zlm ad ls)) (h : zl ls i = some v) : la[i]? = some (.val (zv ad v)) := by
  obtain ⟨k, hk⟩ := zl_posm (ad := ad) h
  exact lv_at hl k hk
abbrev zk1 (i : Nat) (ls : List (Nat × Value)) : List (Nat × Value) := ls.filter (fun q => !(q.1 == i) && !(q.1 + 1 == i && q.2.category == 2))
abbrev zk2 (i : Nat) (ls : List (Nat × Value)) : List (Nat × Value) := ls.filter (fun q => !(q.1 == i) && (!(q.1 == i + 1) && !(q.1 + 1 == i && q.2.category == 2)))
theorem zk1_m (ad : Nat → Nat) (i : Nat) (ls : List (Nat × Value)) : zk1 i (zlm ad ls) = zlm ad (zk1 i ls) := by
  induction ls with
  | nil => rfl
  | cons a t ih =>
    simp only [zk1, zlm, List.map_cons, List.filter_cons, zv_cat] at ih ⊢
    split <;> simp_all
theorem zk2_m (ad : Nat → Nat) (i : Nat) (ls : List (Nat × Value)) : zk2 i (zlm ad ls) = zlm ad (zk2 i ls) := by
  induction ls with
  | nil => rfl
  | cons a t ih =>
    simp only [zk2, zlm, List.map_cons, List.filter_cons, zv_cat] at ih ⊢
    split <;> simp_all
def ztys (cT : Nat → Nat) : List (ClassId × FieldType) := [(cT 0, .int), (cT 1, .array .int)]
/-- the world: the cells of the layout L and the further ones X, apart, all of A; what isn't of A is as at the start -/
def zW (D : va_G) (cT ad : Nat → Nat) (L : List Dsc) (X : va_W) (A : Nat → Prop) (s : State) (σ : Sg) (H : Heap) (locs : List Loc) : Prop :=
  ((∀ q : Nat, s.heap.size ≤ q → A q) ∧ zE A s) ∧ va_K D vwCl (ztys cT) s ∧ va_P D vwCl (zw cT ad L σ ++ X) H ∧ va_D A (zw cT ad L σ ++ X) ∧ va_S A s.heap H locs
def zC (TB : Method → Code → Prop) (own : String) (cc : ByteArray) (nL : Nat) (ret : Option FieldType) (p : Program) (s : State) (m : MethodId) (args : Array Value) (meth : Method) (c : Code) : Prop :=
  p.tables.exec = Jvm.exec ∧ c.code = cc ∧ c.maxLocals = nL ∧ s.vm.findClass own = some m.cls ∧ (∀ w ∈ zAll, w.before args s = true) ∧ meth.sig.returnType = ret ∧ meth.locks = false ∧ TB meth c
def Wm (TB : Method → Code → Prop) (l : Launch) (R : Room) (own : String) (cc : ByteArray) (nL : Nat) (ret : Option FieldType) (D : va_G) (cT ad : Nat → Nat) (L : List Dsc) (A : Nat → Prop) (Z : List Frame → Array Value → State → State → Prop) (X : va_W) (pc : Nat) (ls : List (Nat × Value)) (st : List Value) (σ : Sg) (k n : Nat) : Prop :=
  ∀ (p : Program) (e : Env) (s : State) (m : MethodId) (args : Array Value) (below : List Frame) (meth : Method) (c : Code) (H : Heap) (locs : List Loc) (la : Array Slot), zC TB own cc nL ret p s m args meth c → zW D cT ad L X A s σ H locs → lv_has la nL (zlm ad ls) →
    W p l e R s m args below meth c H locs k n (Z below args s) (F0 m pc la (st.map (zv ad)))
section WM
variable {TB : Method → Code → Prop} {l : Launch} {R : Room} {own : String} {cc : ByteArray} {nL : Nat} {ret : Option FieldType} {D : va_G} {cT ad : Nat → Nat} {L : List Dsc} {A : Nat → Prop} {Z : List Frame → Array Value → State → State → Prop} {X : va_W} {pc : Nat} {ls : List (Nat × Value)} {st : List Value} {σ : Sg} {k n : Nat}

theorem wm_iadd {x y : Int32} (q : Nat) (hq : pc + 1 = q) (d : decode cc pc = .ok (.iadd, 1)) (kk : Wm TB l R own cc nL ret D cT ad L A Z X q ls (.int (x + y) :: st) σ k n) : Wm TB l R own cc nL ret D cT ad L A Z X pc ls (.int y :: .int x :: st) σ k n := by
  subst hq
  intro p e s m args below meth c H locs la C w hl
  obtain ⟨hx, hb, hml, hown, hts, hr, hlk, hTB⟩ := id C
  exact lv_iadd hx hb d (kk p e s m args below meth c H locs la C w hl)
theorem wm_isub {x y : Int32} (q : Nat) (hq : pc + 1 = q) (d : decode cc pc = .ok (.isub, 1)) (kk : Wm TB l R own cc nL ret D cT ad L A Z X q ls (.int (x - y) :: st) σ k n) : Wm TB l R own cc nL ret D cT ad L A Z X pc ls (.int y :: .int x :: st) σ k n := by
  subst hq
  intro p e s m args below meth c H locs la C w hl
  obtain ⟨hx, hb, hml, hown, hts, hr, hlk, hTB⟩ := id C
  exact lv_isub hx hb d (kk p e s m args below meth c H locs la C w hl)
theorem wm_imul {x y : Int32} (q : Nat) (hq : pc + 1 = q) (d : decode cc pc = .ok (.imul, 1)) (kk : Wm TB l R own cc nL ret D cT ad L A Z X q ls (.int (x * y) :: st) σ k n) : Wm TB l R own cc nL ret D cT ad L A Z X pc ls (.int y :: .int x :: st) σ k n := by
  subst hq
  intro p e s m args below meth c H locs la C w hl
  obtain ⟨hx, hb, hml, hown, hts, hr, hlk, hTB⟩ := id C
  exact lv_imul hx hb d (kk p e s m args below meth c H locs la C w hl)
theorem wm_iand {x y : Int32} (q : Nat) (hq : pc + 1 = q) (d : decode cc pc = .ok (.iand, 1)) (kk : Wm TB l R own cc nL ret D cT ad L A Z X q ls (.int (x &&& y) :: st) σ k n) : Wm TB l R own cc nL ret D cT ad L A Z X pc ls (.int y :: .int x :: st) σ k n := by
  subst hq
  intro p e s m args below meth c H locs la C w hl
  obtain ⟨hx, hb, hml, hown, hts, hr, hlk, hTB⟩ := id C
  exact lv_iand hx hb d (kk p e s m args below meth c H locs la C w hl)
theorem wm_ior {x y : Int32} (q : Nat) (hq : pc + 1 = q) (d : decode cc pc = .ok (.ior, 1)) (kk : Wm TB l R own cc nL ret D cT ad L A Z X q ls (.int (x ||| y) :: st) σ k n) : Wm TB l R own cc nL ret D cT ad L A Z X pc ls (.int y :: .int x :: st) σ k n := by
  subst hq
  intro p e s m args below meth c H locs la C w hl
  obtain ⟨hx, hb, hml, hown, hts, hr, hlk, hTB⟩ := id C
  exact lv_ior hx hb d (kk p e s m args below meth c H locs la C w hl)
theorem wm_ixor {x y : Int32} (q : Nat) (hq : pc + 1 = q) (d : decode cc pc = .ok (.ixor, 1)) (kk : Wm TB l R own cc nL ret D cT ad L A Z X q ls (.int (x ^^^ y) :: st) σ k n) : Wm TB l R own cc nL ret D cT ad L A Z X pc ls (.int y :: .int x :: st) σ k n := by
  subst hq
  intro p e s m args below meth c H locs la C w hl
  obtain ⟨hx, hb, hml, hown, hts, hr, hlk, hTB⟩ := id C
  exact lv_ixor hx hb d (kk p e s m args below meth c H locs la C w hl)
theorem wm_idiv {x y : Int32} (q : Nat) (hq : pc + 1 = q) (d : decode cc pc = .ok (.idiv, 1)) (hne : ¬ y = 0) (kk : Wm TB l R own cc nL ret D cT ad L A Z X q ls (.int (x / y) :: st) σ k n) : Wm TB l R own cc nL ret D cT ad L A Z X pc ls (.int y :: .int x :: st) σ k n := by
  subst hq
  intro p e s m args below meth c H locs la C w hl
  obtain ⟨hx, hb, hml, hown, hts, hr, hlk, hTB⟩ := id C
  exact lv_idiv hx hb d hne (kk p e s m args below meth c H locs la C w hl)
theorem wm_ishl {x y : Int32} (q : Nat) (hq : pc + 1 = q) (d : decode cc pc = .ok (.ishl, 1)) (kk : Wm TB l R own cc nL ret D cT ad L A Z X q ls (.int (x <<< (y &&& 31)) :: st) σ k n) : Wm TB l R own cc nL ret D cT ad L A Z X pc ls (.int y :: .int x :: st) σ k n := by
  subst hq
  intro p e s m args below meth c H locs la C w hl
  obtain ⟨hx, hb, hml, hown, hts, hr, hlk, hTB⟩ := id C
  exact lv_ishl hx hb d (kk p e s m args below meth c H locs la C w hl)
theorem wm_ishr {x y : Int32} (q : Nat) (hq : pc + 1 = q) (d : decode cc pc = .ok (.ishr, 1)) (kk : Wm TB l R own cc nL ret D cT ad L A Z X q ls (.int (x >>> (y &&& 31)) :: st) σ k n) : Wm TB l R own cc nL ret D cT ad L A Z X pc ls (.int y :: .int x :: st) σ k n := by
  subst hq
  intro p e s m args below meth c H locs la C w hl
  obtain ⟨hx, hb, hml, hown, hts, hr, hlk, hTB⟩ := id C
  exact lv_ishr hx hb d (kk p e s m args below meth c H locs la C w hl)
theorem wm_iushr {x y : Int32} (q : Nat) (hq : pc + 1 = q) (d : decode cc pc = .ok (.iushr, 1)) (kk : Wm TB l R own cc nL ret D cT ad L A Z X q ls (.int (x.toUInt32 >>> (y.toUInt32 &&& Int32.toUInt32 31)).toInt32 :: st) σ k n) : Wm TB l R own cc nL ret D cT ad L A Z X pc ls (.int y :: .int x :: st) σ k n := by
  subst hq
  intro p e s m args below meth c H locs la C w hl
  obtain ⟨hx, hb, hml, hown, hts, hr, hlk, hTB⟩ := id C
  exact lv_iushr hx hb d rfl (kk p e s m args below meth c H locs la C w hl)
theorem wm_ladd {x y : Int64} (q : Nat) (hq : pc + 1 = q) (d : decode cc pc = .ok (.ladd, 1)) (kk : Wm TB l R own cc nL ret D cT ad L A Z X q ls (.long (x + y) :: st) σ k n) : Wm TB l R own cc nL ret D cT ad L A Z X pc ls (.long y :: .long x :: st) σ k n := by
  subst hq
  intro p e s m args below meth c H locs la C w hl
  obtain ⟨hx, hb, hml, hown, hts, hr, hlk, hTB⟩ := id C
  exact lv_ladd hx hb d (kk p e s m args below meth c H locs la C w hl)
theorem wm_lsub {x y : Int64} (q : Nat) (hq : pc + 1 = q) (d : decode cc pc = .ok (.lsub, 1)) (kk : Wm TB l R own cc nL ret D cT ad L A Z X q ls (.long (x - y) :: st) σ k n) : Wm TB l R own cc nL ret D cT ad L A Z X pc ls (.long y :: .long x :: st) σ k n := by
  subst hq
  intro p e s m args below meth c H locs la C w hl
  obtain ⟨hx, hb, hml, hown, hts, hr, hlk, hTB⟩ := id C
  exact lv_lsub hx hb d (kk p e s m args below meth c H locs la C w hl)
theorem wm_lmul {x y : Int64} (q : Nat) (hq : pc + 1 = q) (d : decode cc pc = .ok (.lmul, 1)) (kk : Wm TB l R own cc nL ret D cT ad L A Z X q ls (.long (x * y) :: st) σ k n) : Wm TB l R own cc nL ret D cT ad L A Z X pc ls (.long y :: .long x :: st) σ k n := by
  subst hq
  intro p e s m args below meth c H locs la C w hl
  obtain ⟨hx, hb, hml, hown, hts, hr, hlk, hTB⟩ := id C
  exact lv_lmul hx hb d (kk p e s m args below meth c H locs la C w hl)
theorem wm_i2l {x : Int32} (q : Nat) (hq : pc + 1 = q) (d : decode cc pc = .ok (.i2l, 1)) (kk : Wm TB l R own cc nL ret D cT ad L A Z X q ls (.long x.toInt64 :: st) σ k n) : Wm TB l R own cc nL ret D cT ad L A Z X pc ls (.int x :: st) σ k n := by
  subst hq
  intro p e s m args below meth c H locs la C w hl
  obtain ⟨hx, hb, hml, hown, hts, hr, hlk, hTB⟩ := id C
  exact lv_i2l hx hb d rfl (kk p e s m args below meth c H locs la C w hl)
theorem wm_i2f {x : Int32} (q : Nat) (hq : pc + 1 = q) (d : decode cc pc = .ok (.i2f, 1)) (kk : Wm TB l R own cc nL ret D cT ad L A Z X q ls (.float (FP.i2f x) :: st) σ k n) : Wm TB l R own cc nL ret D cT ad L A Z X pc ls (.int x :: st) σ k n := by
  subst hq
  intro p e s m args below meth c H locs la C w hl
  obtain ⟨hx, hb, hml, hown, hts, hr, hlk, hTB⟩ := id C
  exact lv_i2f hx hb d (kk p e s m args below meth c H locs la C w hl)
theorem wm_iconst {v : Int32} {z : Int} (q : Nat) (hq : pc + 1 = q) (d : decode cc pc = .ok (.iconst z, 1)) (hv : Int32.ofInt z = v) (kk : Wm TB l R own cc nL ret D cT ad L A Z X q ls (.int v :: st) σ k n) : Wm TB l R own cc nL ret D cT ad L A Z X pc ls (st) σ k n := by
  subst hq
  intro p e s m args below meth c H locs la C w hl
  obtain ⟨hx, hb, hml, hown, hts, hr, hlk, hTB⟩ := id C
  exact lv_iconst hx hb d hv (kk p e s m args below meth c H locs la C w hl)
theorem wm_bipush {v : Int32} {z : Int} (q : Nat) (hq : pc + 2 = q) (d : decode cc pc = .ok (.bipush z, 2)) (hv : (Int8.ofInt z).toInt32 = v) (kk : Wm TB l R own cc nL ret D cT ad L A Z X q ls (.int v :: st) σ k n) : Wm TB l R own cc nL ret D cT ad L A Z X pc ls (st) σ k n := by
  subst hq
  intro p e s m args below meth c H locs la C w hl
  obtain ⟨hx, hb, hml, hown, hts, hr, hlk, hTB⟩ := id C
  exact lv_bipush hx hb d hv (kk p e s m args below meth c H locs la C w hl)
theorem wm_sipush {v : Int32} {z : Int} (q : Nat) (hq : pc + 3 = q) (d : decode cc pc = .ok (.sipush z, 3)) (hv : (Int16.ofInt z).toInt32 = v) (kk : Wm TB l R own cc nL ret D cT ad L A Z X q ls (.int v :: st) σ k n) : Wm TB l R own cc nL ret D cT ad L A Z X pc ls (st) σ k n := by
  subst hq
  intro p e s m args below meth c H locs la C w hl
  obtain ⟨hx, hb, hml, hown, hts, hr, hlk, hTB⟩ := id C
  exact lv_sipush hx hb d hv (kk p e s m args below meth c H locs la C w hl)
theorem wm_lconst {v : Int64} {z : Fin 2} (q : Nat) (hq : pc + 1 = q) (d : decode cc pc = .ok (.lconst z, 1)) (hv : Int64.ofNat (z : Nat) = v) (kk : Wm TB l R own cc nL ret D cT ad L A Z X q ls (.long v :: st) σ k n) : Wm TB l R own cc nL ret D cT ad L A Z X pc ls (st) σ k n := by
  subst hq
  intro p e s m args below meth c H locs la C w hl
  obtain ⟨hx, hb, hml, hown, hts, hr, hlk, hTB⟩ := id C
  exact lv_lconst hx hb d hv (kk p e s m args below meth c H locs la C w hl)
theorem wm_fconst0 (q : Nat) (hq : pc + 1 = q) (d : decode cc pc = .ok (.fconst 0, 1)) (kk : Wm TB l R own cc nL ret D cT ad L A Z X q ls (.float 0 :: st) σ k n) : Wm TB l R own cc nL ret D cT ad L A Z X pc ls (st) σ k n := by
  subst hq
  intro p e s m args below meth c H locs la C w hl
  obtain ⟨hx, hb, hml, hown, hts, hr, hlk, hTB⟩ := id C
  exact lv_fconst0 hx hb d (kk p e s m args below meth c H locs la C w hl)
theorem wm_lcmp {x y : Int64} (q : Nat) (hq : pc + 1 = q) (d : decode cc pc = .ok (.lcmp, 1)) (kk : Wm TB l R own cc nL ret D cT ad L A Z X q ls (.int (lg_cmp x y) :: st) σ k n) : Wm TB l R own cc nL ret D cT ad L A Z X pc ls (.long y :: .long x :: st) σ k n := by
  subst hq
  intro p e s m args below meth c H locs la C w hl
  obtain ⟨hx, hb, hml, hown, hts, hr, hlk, hTB⟩ := id C
  exact W.lcmp hx hb d (kk p e s m args below meth c H locs la C w hl)
theorem wm_fdiv {x y : UInt32} (q : Nat) (hq : pc + 1 = q) (d : decode cc pc = .ok (.fdiv, 1)) (hne : vf_n32 (FP.fdiv x y)) (kk : Wm TB l R own cc nL ret D cT ad L A Z X q ls (.float (FP.fdiv x y) :: st) σ k n) : Wm TB l R own cc nL ret D cT ad L A Z X pc ls (.float y :: .float x :: st) σ k n := by
  subst hq
  intro p e s m args below meth c H locs la C w hl
  obtain ⟨hx, hb, hml, hown, hts, hr, hlk, hTB⟩ := id C
  exact lv_fdiv hx hb d hne (kk p e s m args below meth c H locs la C w hl)
theorem wm_dup {v : Value} (q : Nat) (hq : pc + 1 = q) (hv : v.category = 1) (d : decode cc pc = .ok (.dup, 1)) (kk : Wm TB l R own cc nL ret D cT ad L A Z X q ls (v :: v :: st) σ k n) : Wm TB l R own cc nL ret D cT ad L A Z X pc ls (v :: st) σ k n := by
  subst hq
  intro p e s m args below meth c H locs la C w hl
  obtain ⟨hx, hb, hml, hown, hts, hr, hlk, hTB⟩ := id C
  exact lv_dup hx hb d ((zv_cat ad v).trans hv) (kk p e s m args below meth c H locs la C w hl)
theorem wm_dup2 {v v2 : Value} (q : Nat) (hq : pc + 1 = q) (hv : v.category = 1) (hv2 : v2.category = 1) (d : decode cc pc = .ok (.dup2, 1)) (kk : Wm TB l R own cc nL ret D cT ad L A Z X q ls (v :: v2 :: v :: v2 :: st) σ k n) : Wm TB l R own cc nL ret D cT ad L A Z X pc ls (v :: v2 :: st) σ k n := by
  subst hq
  intro p e s m args below meth c H locs la C w hl
  obtain ⟨hx, hb, hml, hown, hts, hr, hlk, hTB⟩ := id C
  exact lv_dup2_11 hx hb d ((zv_cat ad v).trans hv) ((zv_cat ad v2).trans hv2) (kk p e s m args below meth c H locs la C w hl)
theorem wm_dup_x1 {v v2 : Value} (q : Nat) (hq : pc + 1 = q) (hv : v.category = 1) (hv2 : v2.category = 1) (d : decode cc pc = .ok (.dup_x1, 1)) (kk : Wm TB l R own cc nL ret D cT ad L A Z X q ls (v :: v2 :: v :: st) σ k n) : Wm TB l R own cc nL ret D cT ad L A Z X pc ls (v :: v2 :: st) σ k n := by
  subst hq
  intro p e s m args below meth c H locs la C w hl
  obtain ⟨hx, hb, hml, hown, hts, hr, hlk, hTB⟩ := id C
  exact lv_dup_x1 hx hb d ((zv_cat ad v).trans hv) ((zv_cat ad v2).trans hv2) (kk p e s m args below meth c H locs la C w hl)
theorem wm_pop {v : Value} (q : Nat) (hq : pc + 1 = q) (hv : v.category = 1) (d : decode cc pc = .ok (.pop, 1)) (kk : Wm TB l R own cc nL ret D cT ad L A Z X q ls (st) σ k n) : Wm TB l R own cc nL ret D cT ad L A Z X pc ls (v :: st) σ k n := by
  subst hq
  intro p e s m args below meth c H locs la C w hl
  obtain ⟨hx, hb, hml, hown, hts, hr, hlk, hTB⟩ := id C
  exact lv_pop hx hb d ((zv_cat ad v).trans hv) (kk p e s m args below meth c H locs la C w hl)
theorem wm_iload_n {x : Int32} {i : Nat} {z : Fin 4} (q : Nat) (hq : pc + 1 = q) (d : decode cc pc = .ok (.iload_n z, 1)) (hi : (z : Nat) = i) (hg : zl ls i = some (.int x)) (kk : Wm TB l R own cc nL ret D cT ad L A Z X q ls (.int x :: st) σ k n) : Wm TB l R own cc nL ret D cT ad L A Z X pc ls (st) σ k n := by
  subst hq
  intro p e s m args below meth c H locs la C w hl
  obtain ⟨hx, hb, hml, hown, hts, hr, hlk, hTB⟩ := id C
  exact lv_iload_n hx hb d hi (zl_at hl hg) (kk p e s m args below meth c H locs la C w hl)
theorem wm_iload {x : Int32} {i : Nat} (q : Nat) (hq : pc + 2 = q) (d : decode cc pc = .ok (.iload i, 2)) (hg : zl ls i = some (.int x)) (kk : Wm TB l R own cc nL ret D cT ad L A Z X q ls (.int x :: st) σ k n) : Wm TB l R own cc nL ret D cT ad L A Z X pc ls (st) σ k n := by
  subst hq
  intro p e s m args below meth c H locs la C w hl
  obtain ⟨hx, hb, hml, hown, hts, hr, hlk, hTB⟩ := id C
  exact lv_iload hx hb d (zl_at hl hg) (kk p e s m args below meth c H locs la C w hl)
theorem wm_lload_n {x : Int64} {i : Nat} {z : Fin 4} (q : Nat) (hq : pc + 1 = q) (d : decode cc pc = .ok (.lload_n z, 1)) (hi : (z : Nat) = i) (hg : zl ls i = some (.long x)) (kk : Wm TB l R own cc nL ret D cT ad L A Z X q ls (.long x :: st) σ k n) : Wm TB l R own cc nL ret D cT ad L A Z X pc ls (st) σ k n := by
  subst hq
  intro p e s m args below meth c H locs la C w hl
  obtain ⟨hx, hb, hml, hown, hts, hr, hlk, hTB⟩ := id C
  exact lv_lload_n hx hb d hi (zl_at hl hg) (kk p e s m args below meth c H locs la C w hl)
theorem wm_lload {x : Int64} {i : Nat} (q : Nat) (hq : pc + 2 = q) (d : decode cc pc = .ok (.lload i, 2)) (hg : zl ls i = some (.long x)) (kk : Wm TB l R own cc nL ret D cT ad L A Z X q ls (.long x :: st) σ k n) : Wm TB l R own cc nL ret D cT ad L A Z X pc ls (st) σ k n := by
  subst hq
  intro p e s m args below meth c H locs la C w hl
  obtain ⟨hx, hb, hml, hown, hts, hr, hlk, hTB⟩ := id C
  exact lv_lload hx hb d (zl_at hl hg) (kk p e s m args below meth c H locs la C w hl)
theorem wm_aload_n {x : Nat} {i : Nat} {z : Fin 4} (q : Nat) (hq : pc + 1 = q) (d : decode cc pc = .ok (.aload_n z, 1)) (hi : (z : Nat) = i) (hg : zl ls i = some (.ref x)) (kk : Wm TB l R own cc nL ret D cT ad L A Z X q ls (.ref x :: st) σ k n) : Wm TB l R own cc nL ret D cT ad L A Z X pc ls (st) σ k n := by
  subst hq
  intro p e s m args below meth c H locs la C w hl
  obtain ⟨hx, hb, hml, hown, hts, hr, hlk, hTB⟩ := id C
  exact lv_aload_n hx hb d hi (zl_at hl hg) (kk p e s m args below meth c H locs la C w hl)
theorem wm_aload {x : Nat} {i : Nat} (q : Nat) (hq : pc + 2 = q) (d : decode cc pc = .ok (.aload i, 2)) (hg : zl ls i = some (.ref x)) (kk : Wm TB l R own cc nL ret D cT ad L A Z X q ls (.ref x :: st) σ k n) : Wm TB l R own cc nL ret D cT ad L A Z X pc ls (st) σ k n := by
  subst hq
  intro p e s m args below meth c H locs la C w hl
  obtain ⟨hx, hb, hml, hown, hts, hr, hlk, hTB⟩ := id C
  exact lv_aload hx hb d (zl_at hl hg) (kk p e s m args below meth c H locs la C w hl)
theorem wm_fload_n {x : UInt32} {i : Nat} {z : Fin 4} (q : Nat) (hq : pc + 1 = q) (d : decode cc pc = .ok (.fload_n z, 1)) (hi : (z : Nat) = i) (hg : zl ls i = some (.float x)) (kk : Wm TB l R own cc nL ret D cT ad L A Z X q ls (.float x :: st) σ k n) : Wm TB l R own cc nL ret D cT ad L A Z X pc ls (st) σ k n := by
  subst hq
  intro p e s m args below meth c H locs la C w hl
  obtain ⟨hx, hb, hml, hown, hts, hr, hlk, hTB⟩ := id C
  exact lv_fload_n hx hb d hi (zl_at hl hg) (kk p e s m args below meth c H locs la C w hl)
theorem wm_fload {x : UInt32} {i : Nat} (q : Nat) (hq : pc + 2 = q) (d : decode cc pc = .ok (.fload i, 2)) (hg : zl ls i = some (.float x)) (kk : Wm TB l R own cc nL ret D cT ad L A Z X q ls (.float x :: st) σ k n) : Wm TB l R own cc nL ret D cT ad L A Z X pc ls (st) σ k n := by
  subst hq
  intro p e s m args below meth c H locs la C w hl
  obtain ⟨hx, hb, hml, hown, hts, hr, hlk, hTB⟩ := id C
  exact lv_fload hx hb d (zl_at hl hg) (kk p e s m args below meth c H locs la C w hl)
theorem wm_istore_n {x : Int32} {i : Nat} {z : Fin 4} {ls' : List (Nat × Value)} (q : Nat) (hq : pc + 1 = q) (d : decode cc pc = .ok (.istore_n z, 1)) (hi : (z : Nat) = i) (hn : i < nL) (hl9 : (i, Value.int x) :: zk1 i ls = ls') (kk : Wm TB l R own cc nL ret D cT ad L A Z X q ls' (st) σ k n) : Wm TB l R own cc nL ret D cT ad L A Z X pc ls (.int x :: st) σ k n := by
  subst hq
  intro p e s m args below meth c H locs la C w hl
  obtain ⟨hx, hb, hml, hown, hts, hr, hlk, hTB⟩ := id C
  exact lv_istore_n (lv' := zlm ad ls') hx hb d hi hl hn (by show _ :: zk1 i (zlm ad ls) = zlm ad ls'; rw [zk1_m, ← hl9]; rfl) (fun la' hl' => kk p e s m args below meth c H locs la' C w hl')
theorem wm_istore {x : Int32} {i : Nat} {ls' : List (Nat × Value)} (q : Nat) (hq : pc + 2 = q) (d : decode cc pc = .ok (.istore i, 2)) (hn : i < nL) (hl9 : (i, Value.int x) :: zk1 i ls = ls') (kk : Wm TB l R own cc nL ret D cT ad L A Z X q ls' (st) σ k n) : Wm TB l R own cc nL ret D cT ad L A Z X pc ls (.int x :: st) σ k n := by
  subst hq
  intro p e s m args below meth c H locs la C w hl
  obtain ⟨hx, hb, hml, hown, hts, hr, hlk, hTB⟩ := id C
  exact lv_istore (lv' := zlm ad ls') hx hb d hl hn (by show _ :: zk1 i (zlm ad ls) = zlm ad ls'; rw [zk1_m, ← hl9]; rfl) (fun la' hl' => kk p e s m args below meth c H locs la' C w hl')
theorem wm_lstore_n {x : Int64} {i : Nat} {z : Fin 4} {ls' : List (Nat × Value)} (q : Nat) (hq : pc + 1 = q) (d : decode cc pc = .ok (.lstore_n z, 1)) (hi : (z : Nat) = i) (hn : i + 1 < nL) (hl9 : (i, Value.long x) :: zk2 i ls = ls') (kk : Wm TB l R own cc nL ret D cT ad L A Z X q ls' (st) σ k n) : Wm TB l R own cc nL ret D cT ad L A Z X pc ls (.long x :: st) σ k n := by
  subst hq
  intro p e s m args below meth c H locs la C w hl
  obtain ⟨hx, hb, hml, hown, hts, hr, hlk, hTB⟩ := id C
  exact lv_lstore_n (lv' := zlm ad ls') hx hb d hi hl hn (by show _ :: zk2 i (zlm ad ls) = zlm ad ls'; rw [zk2_m, ← hl9]; rfl) (fun la' hl' => kk p e s m args below meth c H locs la' C w hl')
theorem wm_lstore {x : Int64} {i : Nat} {ls' : List (Nat × Value)} (q : Nat) (hq : pc + 2 = q) (d : decode cc pc = .ok (.lstore i, 2)) (hn : i + 1 < nL) (hl9 : (i, Value.long x) :: zk2 i ls = ls') (kk : Wm TB l R own cc nL ret D cT ad L A Z X q ls' (st) σ k n) : Wm TB l R own cc nL ret D cT ad L A Z X pc ls (.long x :: st) σ k n := by
  subst hq
  intro p e s m args below meth c H locs la C w hl
  obtain ⟨hx, hb, hml, hown, hts, hr, hlk, hTB⟩ := id C
  exact lv_lstore (lv' := zlm ad ls') hx hb d hl hn (by show _ :: zk2 i (zlm ad ls) = zlm ad ls'; rw [zk2_m, ← hl9]; rfl) (fun la' hl' => kk p e s m args below meth c H locs la' C w hl')
theorem wm_astore_n {x : Nat} {i : Nat} {z : Fin 4} {ls' : List (Nat × Value)} (q : Nat) (hq : pc + 1 = q) (d : decode cc pc = .ok (.astore_n z, 1)) (hi : (z : Nat) = i) (hn : i < nL) (hl9 : (i, Value.ref x) :: zk1 i ls = ls') (kk : Wm TB l R own cc nL ret D cT ad L A Z X q ls' (st) σ k n) : Wm TB l R own cc nL ret D cT ad L A Z X pc ls (.ref x :: st) σ k n := by
  subst hq
  intro p e s m args below meth c H locs la C w hl
  obtain ⟨hx, hb, hml, hown, hts, hr, hlk, hTB⟩ := id C
  exact lv_astore_n (lv' := zlm ad ls') hx hb d hi hl hn (by show _ :: zk1 i (zlm ad ls) = zlm ad ls'; rw [zk1_m, ← hl9]; rfl) (fun la' hl' => kk p e s m args below meth c H locs la' C w hl')
theorem wm_astore {x : Nat} {i : Nat} {ls' : List (Nat × Value)} (q : Nat) (hq : pc + 2 = q) (d : decode cc pc = .ok (.astore i, 2)) (hn : i < nL) (hl9 : (i, Value.ref x) :: zk1 i ls = ls') (kk : Wm TB l R own cc nL ret D cT ad L A Z X q ls' (st) σ k n) : Wm TB l R own cc nL ret D cT ad L A Z X pc ls (.ref x :: st) σ k n := by
  subst hq
  intro p e s m args below meth c H locs la C w hl
  obtain ⟨hx, hb, hml, hown, hts, hr, hlk, hTB⟩ := id C
  exact lv_astore (lv' := zlm ad ls') hx hb d hl hn (by show _ :: zk1 i (zlm ad ls) = zlm ad ls'; rw [zk1_m, ← hl9]; rfl) (fun la' hl' => kk p e s m args below meth c H locs la' C w hl')
theorem wm_fstore_n {x : UInt32} {i : Nat} {z : Fin 4} {ls' : List (Nat × Value)} (q : Nat) (hq : pc + 1 = q) (d : decode cc pc = .ok (.fstore_n z, 1)) (hi : (z : Nat) = i) (hn : i < nL) (hl9 : (i, Value.float x) :: zk1 i ls = ls') (kk : Wm TB l R own cc nL ret D cT ad L A Z X q ls' (st) σ k n) : Wm TB l R own cc nL ret D cT ad L A Z X pc ls (.float x :: st) σ k n := by
  subst hq
  intro p e s m args below meth c H locs la C w hl
  obtain ⟨hx, hb, hml, hown, hts, hr, hlk, hTB⟩ := id C
  exact lv_fstore_n (lv' := zlm ad ls') hx hb d hi hl hn (by show _ :: zk1 i (zlm ad ls) = zlm ad ls'; rw [zk1_m, ← hl9]; rfl) (fun la' hl' => kk p e s m args below meth c H locs la' C w hl')
theorem wm_fstore {x : UInt32} {i : Nat} {ls' : List (Nat × Value)} (q : Nat) (hq : pc + 2 = q) (d : decode cc pc = .ok (.fstore i, 2)) (hn : i < nL) (hl9 : (i, Value.float x) :: zk1 i ls = ls') (kk : Wm TB l R own cc nL ret D cT ad L A Z X q ls' (st) σ k n) : Wm TB l R own cc nL ret D cT ad L A Z X pc ls (.float x :: st) σ k n := by
  subst hq
  intro p e s m args below meth c H locs la C w hl
  obtain ⟨hx, hb, hml, hown, hts, hr, hlk, hTB⟩ := id C
  exact lv_fstore (lv' := zlm ad ls') hx hb d hl hn (by show _ :: zk1 i (zlm ad ls) = zlm ad ls'; rw [zk1_m, ← hl9]; rfl) (fun la' hl' => kk p e s m args below meth c H locs la' C w hl')
theorem wm_iinc {x v : Int32} {i : Nat} {z : Int} {ls' : List (Nat × Value)} (q : Nat) (hq : pc + 3 = q) (d : decode cc pc = .ok (.iinc i z, 3)) (hg : zl ls i = some (.int x)) (hv : x + Int32.ofInt z = v) (hn : i < nL) (hl9 : (i, Value.int v) :: zk1 i ls = ls') (kk : Wm TB l R own cc nL ret D cT ad L A Z X q ls' (st) σ k n) : Wm TB l R own cc nL ret D cT ad L A Z X pc ls (st) σ k n := by
  subst hq
  intro p e s m args below meth c H locs la C w hl
  obtain ⟨hx, hb, hml, hown, hts, hr, hlk, hTB⟩ := id C
  obtain ⟨k9, hk9⟩ := zl_posm (ad := ad) hg
  exact lv_iinc (lv' := zlm ad ls') (v := v) hx hb d hl hk9 hv hn (by show _ :: zk1 i (zlm ad ls) = zlm ad ls'; rw [zk1_m, ← hl9]; rfl) (fun la' hl' => kk p e s m args below meth c H locs la' C w hl')
theorem wm_if_eq {x : Int32} {off : Int} (tgt q : Nat) (hq : pc + 3 = q) (ht : (pc : Int) + off = (tgt : Int)) (d : decode cc pc = .ok (.ifCond .eq off, 3)) (kt : x = 0 → Wm TB l R own cc nL ret D cT ad L A Z X tgt ls (st) σ k n) (kf : ¬ x = 0 → Wm TB l R own cc nL ret D cT ad L A Z X q ls (st) σ k n) : Wm TB l R own cc nL ret D cT ad L A Z X pc ls (.int x :: st) σ k n := by
  subst hq
  intro p e s m args below meth c H locs la C w hl
  obtain ⟨hx, hb, hml, hown, hts, hr, hlk, hTB⟩ := id C
  exact lv_if_eq hx hb d ht (fun h => kt h p e s m args below meth c H locs la C w hl) (fun h => kf h p e s m args below meth c H locs la C w hl)
theorem wm_icmp_eq {x y : Int32} {off : Int} (tgt q : Nat) (hq : pc + 3 = q) (ht : (pc : Int) + off = (tgt : Int)) (d : decode cc pc = .ok (.if_icmp .eq off, 3)) (kt : x = y → Wm TB l R own cc nL ret D cT ad L A Z X tgt ls (st) σ k n) (kf : ¬ x = y → Wm TB l R own cc nL ret D cT ad L A Z X q ls (st) σ k n) : Wm TB l R own cc nL ret D cT ad L A Z X pc ls (.int y :: .int x :: st) σ k n := by
  subst hq
  intro p e s m args below meth c H locs la C w hl
  obtain ⟨hx, hb, hml, hown, hts, hr, hlk, hTB⟩ := id C
  exact lv_icmp_eq hx hb d ht (fun h => kt h p e s m args below meth c H locs la C w hl) (fun h => kf h p e s m args below meth c H locs la C w hl)
theorem wm_if_ne {x : Int32} {off : Int} (tgt q : Nat) (hq : pc + 3 = q) (ht : (pc : Int) + off = (tgt : Int)) (d : decode cc pc = .ok (.ifCond .ne off, 3)) (kt : ¬ x = 0 → Wm TB l R own cc nL ret D cT ad L A Z X tgt ls (st) σ k n) (kf : x = 0 → Wm TB l R own cc nL ret D cT ad L A Z X q ls (st) σ k n) : Wm TB l R own cc nL ret D cT ad L A Z X pc ls (.int x :: st) σ k n := by
  subst hq
  intro p e s m args below meth c H locs la C w hl
  obtain ⟨hx, hb, hml, hown, hts, hr, hlk, hTB⟩ := id C
  exact lv_if_ne hx hb d ht (fun h => kt h p e s m args below meth c H locs la C w hl) (fun h => kf h p e s m args below meth c H locs la C w hl)
theorem wm_icmp_ne {x y : Int32} {off : Int} (tgt q : Nat) (hq : pc + 3 = q) (ht : (pc : Int) + off = (tgt : Int)) (d : decode cc pc = .ok (.if_icmp .ne off, 3)) (kt : ¬ x = y → Wm TB l R own cc nL ret D cT ad L A Z X tgt ls (st) σ k n) (kf : x = y → Wm TB l R own cc nL ret D cT ad L A Z X q ls (st) σ k n) : Wm TB l R own cc nL ret D cT ad L A Z X pc ls (.int y :: .int x :: st) σ k n := by
  subst hq
  intro p e s m args below meth c H locs la C w hl
  obtain ⟨hx, hb, hml, hown, hts, hr, hlk, hTB⟩ := id C
  exact lv_icmp_ne hx hb d ht (fun h => kt h p e s m args below meth c H locs la C w hl) (fun h => kf h p e s m args below meth c H locs la C w hl)
theorem wm_if_lt {x : Int32} {off : Int} (tgt q : Nat) (hq : pc + 3 = q) (ht : (pc : Int) + off = (tgt : Int)) (d : decode cc pc = .ok (.ifCond .lt off, 3)) (kt : x < 0 → Wm TB l R own cc nL ret D cT ad L A Z X tgt ls (st) σ k n) (kf : ¬ x < 0 → Wm TB l R own cc nL ret D cT ad L A Z X q ls (st) σ k n) : Wm TB l R own cc nL ret D cT ad L A Z X pc ls (.int x :: st) σ k n := by
  subst hq
  intro p e s m args below meth c H locs la C w hl
  obtain ⟨hx, hb, hml, hown, hts, hr, hlk, hTB⟩ := id C
  exact lv_if_lt hx hb d ht (fun h => kt h p e s m args below meth c H locs la C w hl) (fun h => kf h p e s m args below meth c H locs la C w hl)
theorem wm_icmp_lt {x y : Int32} {off : Int} (tgt q : Nat) (hq : pc + 3 = q) (ht : (pc : Int) + off = (tgt : Int)) (d : decode cc pc = .ok (.if_icmp .lt off, 3)) (kt : x < y → Wm TB l R own cc nL ret D cT ad L A Z X tgt ls (st) σ k n) (kf : ¬ x < y → Wm TB l R own cc nL ret D cT ad L A Z X q ls (st) σ k n) : Wm TB l R own cc nL ret D cT ad L A Z X pc ls (.int y :: .int x :: st) σ k n := by
  subst hq
  intro p e s m args below meth c H locs la C w hl
  obtain ⟨hx, hb, hml, hown, hts, hr, hlk, hTB⟩ := id C
  exact lv_icmp_lt hx hb d ht (fun h => kt h p e s m args below meth c H locs la C w hl) (fun h => kf h p e s m args below meth c H locs la C w hl)
theorem wm_if_ge {x : Int32} {off : Int} (tgt q : Nat) (hq : pc + 3 = q) (ht : (pc : Int) + off = (tgt : Int)) (d : decode cc pc = .ok (.ifCond .ge off, 3)) (kt : 0 ≤ x → Wm TB l R own cc nL ret D cT ad L A Z X tgt ls (st) σ k n) (kf : ¬ 0 ≤ x → Wm TB l R own cc nL ret D cT ad L A Z X q ls (st) σ k n) : Wm TB l R own cc nL ret D cT ad L A Z X pc ls (.int x :: st) σ k n := by
  subst hq
  intro p e s m args below meth c H locs la C w hl
  obtain ⟨hx, hb, hml, hown, hts, hr, hlk, hTB⟩ := id C
  exact lv_if_ge hx hb d ht (fun h => kt h p e s m args below meth c H locs la C w hl) (fun h => kf h p e s m args below meth c H locs la C w hl)
theorem wm_icmp_ge {x y : Int32} {off : Int} (tgt q : Nat) (hq : pc + 3 = q) (ht : (pc : Int) + off = (tgt : Int)) (d : decode cc pc = .ok (.if_icmp .ge off, 3)) (kt : y ≤ x → Wm TB l R own cc nL ret D cT ad L A Z X tgt ls (st) σ k n) (kf : ¬ y ≤ x → Wm TB l R own cc nL ret D cT ad L A Z X q ls (st) σ k n) : Wm TB l R own cc nL ret D cT ad L A Z X pc ls (.int y :: .int x :: st) σ k n := by
  subst hq
  intro p e s m args below meth c H locs la C w hl
  obtain ⟨hx, hb, hml, hown, hts, hr, hlk, hTB⟩ := id C
  exact lv_icmp_ge hx hb d ht (fun h => kt h p e s m args below meth c H locs la C w hl) (fun h => kf h p e s m args below meth c H locs la C w hl)
theorem wm_if_gt {x : Int32} {off : Int} (tgt q : Nat) (hq : pc + 3 = q) (ht : (pc : Int) + off = (tgt : Int)) (d : decode cc pc = .ok (.ifCond .gt off, 3)) (kt : 0 < x → Wm TB l R own cc nL ret D cT ad L A Z X tgt ls (st) σ k n) (kf : ¬ 0 < x → Wm TB l R own cc nL ret D cT ad L A Z X q ls (st) σ k n) : Wm TB l R own cc nL ret D cT ad L A Z X pc ls (.int x :: st) σ k n := by
  subst hq
  intro p e s m args below meth c H locs la C w hl
  obtain ⟨hx, hb, hml, hown, hts, hr, hlk, hTB⟩ := id C
  exact lv_if_gt hx hb d ht (fun h => kt h p e s m args below meth c H locs la C w hl) (fun h => kf h p e s m args below meth c H locs la C w hl)
theorem wm_icmp_gt {x y : Int32} {off : Int} (tgt q : Nat) (hq : pc + 3 = q) (ht : (pc : Int) + off = (tgt : Int)) (d : decode cc pc = .ok (.if_icmp .gt off, 3)) (kt : y < x → Wm TB l R own cc nL ret D cT ad L A Z X tgt ls (st) σ k n) (kf : ¬ y < x → Wm TB l R own cc nL ret D cT ad L A Z X q ls (st) σ k n) : Wm TB l R own cc nL ret D cT ad L A Z X pc ls (.int y :: .int x :: st) σ k n := by
  subst hq
  intro p e s m args below meth c H locs la C w hl
  obtain ⟨hx, hb, hml, hown, hts, hr, hlk, hTB⟩ := id C
  exact lv_icmp_gt hx hb d ht (fun h => kt h p e s m args below meth c H locs la C w hl) (fun h => kf h p e s m args below meth c H locs la C w hl)
theorem wm_if_le {x : Int32} {off : Int} (tgt q : Nat) (hq : pc + 3 = q) (ht : (pc : Int) + off = (tgt : Int)) (d : decode cc pc = .ok (.ifCond .le off, 3)) (kt : x ≤ 0 → Wm TB l R own cc nL ret D cT ad L A Z X tgt ls (st) σ k n) (kf : ¬ x ≤ 0 → Wm TB l R own cc nL ret D cT ad L A Z X q ls (st) σ k n) : Wm TB l R own cc nL ret D cT ad L A Z X pc ls (.int x :: st) σ k n := by
  subst hq
  intro p e s m args below meth c H locs la C w hl
  obtain ⟨hx, hb, hml, hown, hts, hr, hlk, hTB⟩ := id C
  exact lv_if_le hx hb d ht (fun h => kt h p e s m args below meth c H locs la C w hl) (fun h => kf h p e s m args below meth c H locs la C w hl)
theorem wm_icmp_le {x y : Int32} {off : Int} (tgt q : Nat) (hq : pc + 3 = q) (ht : (pc : Int) + off = (tgt : Int)) (d : decode cc pc = .ok (.if_icmp .le off, 3)) (kt : x ≤ y → Wm TB l R own cc nL ret D cT ad L A Z X tgt ls (st) σ k n) (kf : ¬ x ≤ y → Wm TB l R own cc nL ret D cT ad L A Z X q ls (st) σ k n) : Wm TB l R own cc nL ret D cT ad L A Z X pc ls (.int y :: .int x :: st) σ k n := by
  subst hq
  intro p e s m args below meth c H locs la C w hl
  obtain ⟨hx, hb, hml, hown, hts, hr, hlk, hTB⟩ := id C
  exact lv_icmp_le hx hb d ht (fun h => kt h p e s m args below meth c H locs la C w hl) (fun h => kf h p e s m args below meth c H locs la C w hl)
theorem wm_goto {off : Int} (tgt : Nat) (ht : (pc : Int) + off = (tgt : Int)) (d : decode cc pc = .ok (.goto off, 3)) (kk : Wm TB l R own cc nL ret D cT ad L A Z X tgt ls (st) σ k n) : Wm TB l R own cc nL ret D cT ad L A Z X pc ls (st) σ k n := by
  intro p e s m args below meth c H locs la C w hl
  obtain ⟨hx, hb, hml, hown, hts, hr, hlk, hTB⟩ := id C
  exact lv_goto hx hb d ht (kk p e s m args below meth c H locs la C w hl)

/-- what the tables say of a field's link in a method's words -/
def zGF (own : String) (index ci j : Nat) : Prop := ∃ (C : String) (T : u_T) (N : Nat) (ref : String), vwCl[ci]? = some (C, T, N) ∧ (∀ w ∈ u_ws C T N, w ∈ zAll) ∧ j < N ∧ Cond.fieldLink own index ref (T j).2.1 (T j).2.2.1 ∈ zAll ∧ (ref = (T j).1 ∨ Cond.sameField ref (T j).1 (T j).2.1 (T j).2.2.1 ∈ zAll)
def zPF (own : String) (index ci j : Nat) : Prop := ∃ (C : String) (T : u_T) (N : Nat) (ref : String) (ty0 : Nat → FieldType), vwCl[ci]? = some (C, T, N) ∧ (∀ w ∈ u_ws C T N, w ∈ zAll) ∧ j < N ∧ Cond.fieldLink own index ref (T j).2.1 (T j).2.2.1 ∈ zAll ∧ ref = (T j).1 ∧ (∀ k, k < N → parseFieldDescriptor (T k).2.2.1 = some (ty0 k)) ∧ (∀ a, a < N → ∀ b, b < N → a ≠ b → (T a).2.1 ≠ (T b).2.1) ∧ (T j).2.2.2 = false ∧ parseFieldDescriptor (T j).2.2.1 = some .int
theorem wm_getI {index ci j b : Nat} {fs : List (Option Nat)} (q : Nat) (hq : pc + 3 = q) (d : decode cc pc = .ok (.getfield index, 3)) (hg : zGF own index ci j) (hL : L[b]? = some (.inr (.inr (ci, fs)))) (hf : fs[j]? = some none) (kk : Wm TB l R own cc nL ret D cT ad L A Z X q ls (.int (σ b j) :: st) σ k n) : Wm TB l R own cc nL ret D cT ad L A Z X pc ls (.ref b :: st) σ k n := by
  subst hq
  intro p e s m args below meth c H locs la C w hl
  obtain ⟨hx, hb, hml, hown, hts, hr, hlk, hTB⟩ := id C
  obtain ⟨C9, T9, N9, ref9, h1, h2, h3, h4, h5⟩ := hg
  exact va_get (a := ad b) hx hb hts h2 hown w.2.1 w.2.2.1 b (zw_get X hL) h1 j h3 (hts _ h4) (fun z hz => by
    rcases h5 with h5 | h5
    · rw [h5]; exact hz
    · exact u_same (hts _ h5) z hz) (by simp [List.getElem?_mapIdx, hf, zfv, zv]) d (kk p e s m args below meth c H locs la C w hl)
theorem wm_getR {index ci j b : Nat} {r : Nat} {fs : List (Option Nat)} (q : Nat) (hq : pc + 3 = q) (d : decode cc pc = .ok (.getfield index, 3)) (hg : zGF own index ci j) (hL : L[b]? = some (.inr (.inr (ci, fs)))) (hf : fs[j]? = some (some r)) (kk : Wm TB l R own cc nL ret D cT ad L A Z X q ls (.ref r :: st) σ k n) : Wm TB l R own cc nL ret D cT ad L A Z X pc ls (.ref b :: st) σ k n := by
  subst hq
  intro p e s m args below meth c H locs la C w hl
  obtain ⟨hx, hb, hml, hown, hts, hr, hlk, hTB⟩ := id C
  obtain ⟨C9, T9, N9, ref9, h1, h2, h3, h4, h5⟩ := hg
  exact va_get (a := ad b) hx hb hts h2 hown w.2.1 w.2.2.1 b (zw_get X hL) h1 j h3 (hts _ h4) (fun z hz => by
    rcases h5 with h5 | h5
    · rw [h5]; exact hz
    · exact u_same (hts _ h5) z hz) (by simp [List.getElem?_mapIdx, hf, zfv, zv]) d (kk p e s m args below meth c H locs la C w hl)
theorem wm_putI {index ci j b : Nat} {x : Int32} {fs : List (Option Nat)} (q : Nat) (hq : pc + 3 = q) (d : decode cc pc = .ok (.putfield index, 3)) (hg : zPF own index ci j) (hL : L[b]? = some (.inr (.inr (ci, fs)))) (hf : fs[j]? = some none) (kk : Wm TB l R own cc nL ret D cT ad L A Z X q ls (st) (zu σ b j x) k n) : Wm TB l R own cc nL ret D cT ad L A Z X pc ls (.int x :: .ref b :: st) σ k n := by
  subst hq
  intro p e s m args below meth c H locs la C w hl
  obtain ⟨hx, hb, hml, hown, hts, hr, hlk, hTB⟩ := id C
  obtain ⟨C9, T9, N9, ref9, ty9, h1, h2, h3, h4, h5, h6, h7, h8, h9⟩ := hg
  refine va_put (a := ad b) (ty := .int) (v := .int x) hx hb hts h2 ty9 h6 h7 hown w.2.1 w.2.2.1 w.2.2.2.1 w.2.2.2.2 b (zw_get X hL) h1 j h3 (hts _ h4) (fun z hz => by rw [h5]; exact hz) h8 h9 rfl rfl (by simpa using (List.getElem?_eq_some_iff.mp hf).1) d (fun H1 locs1 hP hD hS => ?_)
  rw [zw_set X hL (j := j) (x := x) (by show _ = Sum.inr (ci, _); rw [zfv_set hf])] at hP hD
  exact kk p e s m args below meth c H1 locs1 la C ⟨w.1, w.2.1, hP, hD, hS⟩ hl
theorem wm_iaload {b n9 : Nat} {i : Int32} (q : Nat) (hq : pc + 1 = q) (d : decode cc pc = .ok (.iaload, 1)) (hL : L[b]? = some (.inl (0, n9))) (hin : vp_in i n9) (kk : Wm TB l R own cc nL ret D cT ad L A Z X q ls (.int (σ b i.toNatClampNeg) :: st) σ k n) : Wm TB l R own cc nL ret D cT ad L A Z X pc ls (.int i :: .ref b :: st) σ k n := by
  subst hq
  intro p e s m args below meth c H locs la C w hl
  obtain ⟨hx, hb, hml, hown, hts, hr, hlk, hTB⟩ := id C
  exact va_iald (a := ad b) hx hb w.2.1 w.2.2.1 b 0 (zw_get X hL) rfl hin d (kk p e s m args below meth c H locs la C w hl)
theorem wm_aaload {b n9 r : Nat} {i : Int32} {f : Nat → Option Nat} (q : Nat) (hq : pc + 1 = q) (d : decode cc pc = .ok (.aaload, 1)) (hL : L[b]? = some (.inr (.inl (1, n9, f)))) (hin : vp_in i n9) (hf : f i.toNatClampNeg = some r) (kk : Wm TB l R own cc nL ret D cT ad L A Z X q ls (.ref r :: st) σ k n) : Wm TB l R own cc nL ret D cT ad L A Z X pc ls (.int i :: .ref b :: st) σ k n := by
  subst hq
  intro p e s m args below meth c H locs la C w hl
  obtain ⟨hx, hb, hml, hown, hts, hr, hlk, hTB⟩ := id C
  have ha := zw_get (cT := cT) (ad := ad) (σ := σ) X hL
  have hlt : i.toNatClampNeg < n9 := Nat.not_le.mp fun q => hin (Or.inr q)
  exact W.aald (v := .ref (ad r)) (ty := .array .int) hx hb (w.2.2.1 b _ ha) ((w.2.1.2 1 _ rfl).1 n9 (fun j => va_rf ((f j).map ad))) rfl (fun q => by cases q) (by show ¬ (i < 0 ∨ (arrV _ _ _).slots.size ≤ _); rw [arrV_size]; exact hin) (by show (arrV _ _ _).slots[_]? = _; rw [arrV_read _ _ hlt]; show some (va_rf ((f _).map ad)) = _; rw [hf]; rfl) rfl rfl d (kk p e s m args below meth c H locs la C w hl)
theorem wm_iastore {b n9 : Nat} {i x : Int32} (q : Nat) (hq : pc + 1 = q) (d : decode cc pc = .ok (.iastore, 1)) (hL : L[b]? = some (.inl (0, n9))) (hin : vp_in i n9) (kk : Wm TB l R own cc nL ret D cT ad L A Z X q ls (st) (zu σ b i.toNatClampNeg x) k n) : Wm TB l R own cc nL ret D cT ad L A Z X pc ls (.int x :: .int i :: .ref b :: st) σ k n := by
  subst hq
  intro p e s m args below meth c H locs la C w hl
  obtain ⟨hx, hb, hml, hown, hts, hr, hlk, hTB⟩ := id C
  refine va_iast (a := ad b) hx hb w.2.1 w.2.2.1 w.2.2.2.1 w.2.2.2.2 b 0 (zw_get X hL) rfl hin d (fun H1 locs1 hP hD hS => ?_)
  rw [zw_set (cT := cT) (ad := ad) (σ := σ) (e := .inl (cT 0, n9, .inl (upd (σ b) i.toNatClampNeg x))) X hL (j := i.toNatClampNeg) (x := x) rfl] at hP hD
  exact kk p e s m args below meth c H1 locs1 la C ⟨w.1, w.2.1, hP, hD, hS⟩ hl
theorem wm_max {x y : Int32} {index : Nat} (q : Nat) (hq : pc + 3 = q) (d : decode cc pc = .ok (.invokestatic index, 3)) (h1 : Cond.methodLink own index Lib.Math.max.name ∈ zAll) (h2 : Cond.static Lib.Math.max.name ∈ zAll) (h3 : Cond.initialized "java/lang/Math" ∈ zAll) (h4 : Cond.code Lib.Math.max.name Lib.Math.max.code 2 (some .int) ∈ zAll) (hR : 1 ≤ R.frames ∧ 21 ≤ R.locals) (hc : (st.map fun v => v.category).sum ≤ 8) (hk : k ≤ R.cells ∧ n ≤ R.slots) (kk : Wm TB l R own cc nL ret D cT ad L A Z X q ls (.int (if x < y then y else x) :: st) σ k n) : Wm TB l R own cc nL ret D cT ad L A Z X pc ls (.int y :: .int x :: st) σ k n := by
  subst hq
  intro p e s m args below meth c H locs la C w hl
  obtain ⟨hx, hb, hml, hown, hts, hr, hlk, hTB⟩ := id C
  have hc9 : ((st.map (zv ad)).map fun v => v.category).sum ≤ 8 := by rw [List.map_map]; exact (show (st.map ((fun v : Value => v.category) ∘ zv ad)).sum ≤ 8 by rw [show ((fun v : Value => v.category) ∘ zv ad) = (fun v => v.category) from funext (zv_cat ad)]; exact hc)
  exact va_mmax hx hb (hml.trans hl.1.symm) hown (hts _ h1) (hts _ h2) (hts _ h3) (hts _ h4) hR.1 (by omega) hk.1 hk.2 d (kk p e s m args below meth c H locs la C w hl)
theorem wm_min {x y : Int32} {index : Nat} (q : Nat) (hq : pc + 3 = q) (d : decode cc pc = .ok (.invokestatic index, 3)) (h1 : Cond.methodLink own index Lib.Math.min.name ∈ zAll) (h2 : Cond.static Lib.Math.min.name ∈ zAll) (h3 : Cond.initialized "java/lang/Math" ∈ zAll) (h4 : Cond.code Lib.Math.min.name Lib.Math.min.code 2 (some .int) ∈ zAll) (hR : 1 ≤ R.frames ∧ 21 ≤ R.locals) (hc : (st.map fun v => v.category).sum ≤ 8) (hk : k ≤ R.cells ∧ n ≤ R.slots) (kk : Wm TB l R own cc nL ret D cT ad L A Z X q ls (.int (if y < x then y else x) :: st) σ k n) : Wm TB l R own cc nL ret D cT ad L A Z X pc ls (.int y :: .int x :: st) σ k n := by
  subst hq
  intro p e s m args below meth c H locs la C w hl
  obtain ⟨hx, hb, hml, hown, hts, hr, hlk, hTB⟩ := id C
  have hc9 : ((st.map (zv ad)).map fun v => v.category).sum ≤ 8 := by rw [List.map_map]; exact (show (st.map ((fun v : Value => v.category) ∘ zv ad)).sum ≤ 8 by rw [show ((fun v : Value => v.category) ∘ zv ad) = (fun v => v.category) from funext (zv_cat ad)]; exact hc)
  exact va_mmin hx hb (hml.trans hl.1.symm) hown (hts _ h1) (hts _ h2) (hts _ h3) (hts _ h4) hR.1 (by omega) hk.1 hk.2 d (kk p e s m args below meth c H locs la C w hl)
theorem wm_ldcw {index : Nat} {v : Int32} (q : Nat) (hq : pc + 3 = q) (d : decode cc pc = .ok (.ldc_w index, 3)) (hc : Cond.constant own index v ∈ zAll) (kk : Wm TB l R own cc nL ret D cT ad L A Z X q ls (.int v :: st) σ k n) : Wm TB l R own cc nL ret D cT ad L A Z X pc ls (st) σ k n := by
  subst hq
  intro p e s m args below meth c H locs la C w hl
  obtain ⟨hx, hb, hml, hown, hts, hr, hlk, hTB⟩ := id C
  exact lv_ldcw hx hb hown (hts _ hc) d (kk p e s m args below meth c H locs la C w hl)
end WM
