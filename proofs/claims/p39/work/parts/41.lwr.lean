/-! THE LAW'S BODY: rules -/
def lSz (b N sz : Nat) (xs : Nat → Int32) (args : Array Value) (s : State) : Prop := args = #[Value.ref b] ∧ s.heap.size = sz ∧ b < sz ∧ va_X b N xs s s.heap
abbrev lA (sz : Nat) : Nat → Prop := fun q => sz ≤ q
def lZ (b N sz : Nat) (xs : Nat → Int32) (below : List Frame) (args : Array Value) (s : State) : State → Prop := fun t => lSz b N sz xs args s → lw_Z below args s t
/-- an element of the script, or 0: any int -/
def atP (b N : Nat) (xs : Nat → Int32) (j : Nat) : Array Value → State → Prop := va_Pc [.ref b, .int (nI j)] (fun U => b < U.heap.size ∧ va_X b N xs U U.heap)
abbrev atQ : Array Value → State → Outcome → State → Prop := va_Qi (fun (_ : Int32) (_ : Unit) => True) (fun _ _ => True) (fun _ => False)
theorem atP_blind {b N : Nat} {xs : Nat → Int32} {j : Nat} : FrameBlind (atP b N xs j) := by
  intro a U g mk q
  obtain ⟨q0, q1, q2⟩ := q
  exact ⟨q0, q1, va_X.moved (u := U) (U := U.calling g mk a) (Vm.Alike.refl U.vm) q2⟩
theorem k_at (l : Launch) {b N : Nat} {xs : Nat → Int32} {j : Nat} (hj : j < 2 ^ 31) (hN : N < 2 ^ 31) : Met l yL_at (Cond.code yL_at cL_at 2 (some .int) :: zAll) (rmh 0) (atP b N xs j) atQ 0 0 (fun _ => False) := by
  refine Met.ofW (cc := cL_at) (maxL := 2) (ret := some .int) (by decide +kernel) rfl ?_
  intro p e s m args below meth c s₁ B hml hv
  obtain ⟨rfl, hbl, hX⟩ := hv
  have hx := B.exec
  have hb := B.bytes
  have hS : va_S (fun _ => False) s.heap s.heap [] := va_S.rf
  have hl := lv_entry ([.ref b, .int (nI j)]) (n := 2) (Nat.le_of_ble_eq_true rfl)
  rw [lg_entry_eq]
  generalize (lg_sl ([.ref b, .int (nI j)]) ++ List.replicate (2 - (lg_sl ([.ref b, .int (nI j)])).length) Slot.unset).toArray = la at hl ⊢
  have fin : ∀ v : Int32, W p l e (headSpec (Cond.code yL_at cL_at 2 (some .int) :: zAll) (rmh 0)).room s m #[.ref b, .int (nI j)] below meth c s.heap [] 0 0 (MQ below atQ #[.ref b, .int (nI j)] s 0 0 (fun _ => False)) (F0 m 13 la [.int v]) := fun v =>
    W.zret hx hb B.returns rfl (fun t ht hW => ⟨⟨v, (), rfl, trivial, trivial⟩, hS.F ht⟩) hS.2.2 dL_at_13 B.notSynchronized
  refine lv_iload_n hx hb dL_at_0 rfl (lv_at hl 1 rfl) ?_
  refine lv_aload_n hx hb dL_at_1 rfl (lv_at hl 0 rfl) ?_
  refine va_slen hx hb hX hbl (fun h => h) hS dL_at_2 ?_
  refine lv_icmp_ge (tgt := 12) hx hb dL_at_3 (by decide) (fun c3 => ?_) (fun c3 => ?_)
  · exact lv_iconst hx hb dL_at_12 rfl (fin _)
  · refine lv_aload_n hx hb dL_at_6 rfl (lv_at hl 0 rfl) ?_
    refine lv_iload_n hx hb dL_at_7 rfl (lv_at hl 1 rfl) ?_
    refine va_sld hx hb hX hbl (fun h => h) hS (vp_in_nI (lt_of_nnI c3 (by omega) (by omega)) (by omega)) dL_at_8 ?_
    exact lv_goto (tgt := 13) hx hb dL_at_9 (by decide) (fin _)
/-- the rest of a division, made not negative -/
theorem some_nn {v : Int32} {c : Nat} (h0 : 0 < c) (hc : c < 2 ^ 30) (h : 0 ≤ v - v / nI c * nI c) : ∃ j, j < c ∧ v - v / nI c * nI c = nI j := by
  have e : (nI c).toInt = (c : Int) := nI_toInt (by omega)
  have t := tmod_bounds (a := v.toInt) (M := (c : Int)) (by omega)
  have r := rem_toInt v (nI c)
  rw [e] at r
  obtain ⟨j, hj, ej⟩ := nI_of (x := v - v / nI c * nI c) (fun q => by
    rw [Int32.lt_iff_toInt_lt] at q
    rw [Int32.le_iff_toInt_le] at h
    omega)
  refine ⟨j, ?_, ej⟩
  rw [ej, nI_toInt hj] at r
  omega
theorem some_ng {v : Int32} {c : Nat} (h0 : 0 < c) (hc : c < 2 ^ 30) (h : ¬ 0 ≤ v - v / nI c * nI c) : ∃ j, j < c ∧ (v - v / nI c * nI c) + nI c = nI j := by
  have e : (nI c).toInt = (c : Int) := nI_toInt (by omega)
  have t := tmod_bounds (a := v.toInt) (M := (c : Int)) (by omega)
  have r := rem_toInt v (nI c)
  rw [e] at r
  rw [Int32.le_iff_toInt_le, show (0 : Int32).toInt = 0 from by decide] at h
  have s : (v - v / nI c * nI c + nI c).toInt = v.toInt.tmod c + c := by
    rw [Int32.toInt_add, r, e]
    exact Int.bmod_eq_of_le (by omega) (by omega)
  obtain ⟨j, hj, ej⟩ := nI_of (x := v - v / nI c * nI c + nI c) (fun q => by
    rw [Int32.lt_iff_toInt_lt, s, show (0 : Int32).toInt = 0 from by decide] at q
    omega)
  refine ⟨j, ?_, ej⟩
  rw [ej, nI_toInt hj] at s
  omega
theorem k_some (l : Launch) {σ : Sg} (v : Int32) {c : Nat} (h0 : 0 < c) (hc : c < 2 ^ 30) : cMi l yL_some cL_some 3 .int 0 Lc [.int v, .int (nI c)] σ (fun r σ1 => σ = σ1 ∧ ∃ j, j < c ∧ r = nI j) := by
  refine zMet_of (by decide +kernel) (Nat.le_of_ble_eq_true rfl) (fun D cT ad sz => ?_)
  show Wm (fun _ _ => True) l (rmh 0) RL cL_some 3 (some .int) D cT ad Lc (zA ad Lc.length sz) (zZ (fun D cT ad L9 sz => zQi D cT ad L9 sz (fun r σ1 => σ = σ1 ∧ ∃ j, j < c ∧ r = nI j)) D cT ad Lc sz) [] 0 (lv_args 0 [.int v, .int (nI c)]) [] σ 0 0
  refine wm_iload_n 1 rfl dL_some_0 rfl rfl ?_
  refine wm_iload_n 2 rfl dL_some_1 rfl rfl ?_
  refine wm_irem 3 rfl dL_some_2 (nI_ne0 h0 (by omega)) ?_
  refine wm_istore_n (ls' := [(2, _), (0, _), (1, _)]) 4 rfl dL_some_3 rfl (by decide) rfl ?_
  refine wm_iload_n 5 rfl dL_some_4 rfl rfl ?_
  refine wm_if_ge 14 8 rfl (by decide) dL_some_5 (fun c5 => ?_) (fun c5 => ?_)
  · refine wm_iload_n 15 rfl dL_some_14 rfl rfl ?_
    exact wm_iret dL_some_15 rfl ⟨rfl, some_nn h0 hc c5⟩
  · refine wm_iload_n 9 rfl dL_some_8 rfl rfl ?_
    refine wm_iload_n 10 rfl dL_some_9 rfl rfl ?_
    refine wm_iadd 11 rfl dL_some_10 ?_
    refine wm_goto 15 (by decide) dL_some_11 ?_
    exact wm_iret dL_some_15 rfl ⟨rfl, some_ng h0 hc c5⟩
section LAWB
variable {TB : Method → Code → Prop} {l : Launch} {R : Room} {own : String} {cc : ByteArray} {nL : Nat} {ret : Option FieldType} {D : va_G} {cT ad : Nat → Nat} {L : List Dsc} {X : va_W} {pc b N sz : Nat} {xs : Nat → Int32} {ls : List (Nat × Value)} {st : List Value} {σ : Sg} {k n : Nat}
theorem lZ_by {p : Program} {e : Env} {s : State} {m : MethodId} {args : Array Value} {below : List Frame} {meth : Method} {c : Code} {H : Heap} {locs : List Loc} {g : JFrame} (h : lSz b N sz xs args s → W p l e R s m args below meth c H locs k n (lZ b N sz xs below args s) g) : W p l e R s m args below meth c H locs k n (lZ b N sz xs below args s) g := by
  by_cases hΦ : lSz b N sz xs args s
  · exact h hΦ
  · intro T hT Xs
    exact ⟨_, Steps.refl _, fun q => absurd q hΦ⟩
/-- the law's end with 1 -/
theorem wl_end (hcc : cc = code) (hret : ret = lw_rt) (d : decode code pc = .ok (.ireturn, 1)) (hk : k ≤ 676585) (hn : n ≤ 7071868) : Wm TB l room_1 own cc nL ret D cT ad L (lA sz) (lZ b N sz xs) X pc ls [.int 1] σ k n := by
  intro p e s m args below meth c H locs la C w hl
  obtain ⟨hx, hb, hml, hown, hts, hr, hlk, hTB⟩ := id C
  refine lZ_by (fun hΦ => ?_)
  obtain ⟨rfl, hsz, -, -⟩ := hΦ
  refine va_forget (fun q hq => by rw [hsz]; exact w.2.2.2.2.2.2 q hq) ?_
  have h1 := lw_ret (p := p) (l := l) (e := e) (s := s) (m := m) (below := below) (meth := meth) (c := c) (b := b) (d0 := s.drawn) (Drawn.sameBut.refl s.drawn lw_cs) hx (hb.trans hcc) (hr.trans hret) hlk (pc := pc) (H := H) (ls := la) d
  have h2 : W p l e room_1 s m #[Value.ref b] below meth c H [] 676585 7071868 (lw_Z below #[Value.ref b] s) (F0 m pc la [.int 1]) := W.base h1
  intro T hT Xs
  obtain ⟨t, a1, b1⟩ := h2 T hT (stand_widen Xs hk hn)
  exact ⟨t, a1, fun _ => b1⟩
theorem cw_at9 : GoodIn zAll (va_wsS RL 169 yL_at (Cond.code yL_at cL_at 2 (some .int) :: zAll)) := zGoodIn (fun w9 h9 => by
    rcases List.mem_append.mp h9 with h9 | h9
    · simp only [List.mem_cons, List.not_mem_nil, or_false] at h9
      rcases h9 with rfl | rfl | rfl
      · exact aw_3_3
      · exact aw_3_4
      · exact aw_3_5
    · rcases List.mem_cons.mp h9 with rfl | h9
      · exact aw_3_6
      · exact h9)
/-- the call that reads the script: what comes may be any int -/
theorem wl_at {j : Nat} (hj : j < 2 ^ 31) (hN : N < 2 ^ 31) (q : Nat) (hq : pc + 3 = q) (d : decode cc pc = .ok (.invokestatic 169, 3)) (hR : 0 + 1 ≤ R.frames ∧ 8 + (2 + 11) + 36 * 0 ≤ R.locals) (hcat : (st.map fun v => v.category).sum ≤ 8) (hk : k ≤ R.cells ∧ n ≤ R.slots) (hb9 : ad 27 = b)
    (kk : ∀ r : Int32, Wm TB l R RL cc nL ret D cT ad L (lA sz) (lZ b N sz xs) X q ls (.int r :: st) σ k n) : Wm TB l R RL cc nL ret D cT ad L (lA sz) (lZ b N sz xs) X pc ls (.int (nI j) :: .ref 27 :: st) σ k n := by
  subst hq
  intro p e s m args below meth c H locs la CC w hl
  obtain ⟨hx, hb, hml, hown, hts, hr, hlk, hTB⟩ := id CC
  refine lZ_by (fun hΦ => ?_)
  obtain ⟨-, hsz, hbs, hX⟩ := hΦ
  have hbl : b < s.heap.size := by omega
  have hXH : va_X b N xs s H := va_X.kept hX (w.2.2.2.2.2.1 b hbl (Nat.not_le.mpr hbs))
  refine va_calli (A1 := fun _ => False) (va_runS (As := [.ref b, .int (nI j)]) (rest := st.map (zv ad)) ⟨hx, hb, hml, hown, hts⟩ (k_at l (b := b) (xs := xs) hj hN) (va_cwS 2 hts cw_at9 rfl rfl rfl ⟨by decide +kernel, by decide +kernel, by decide +kernel⟩ hR) ⟨atP_blind, fun U hU hW => ⟨rfl, by rw [hU]; exact Nat.lt_of_lt_of_le hbl w.2.2.2.2.1, by rw [hU]; exact va_X.moved hW.alike hXH⟩⟩ rfl rfl hl.1 (by rw [← hb9]; rfl) (lv_room (by rw [zcats]; exact hcat)) d hk) w.2.2.2.2 (fun q _ h => h.elim) (fun q h => h.elim) (fun r u t H1 locs1 ht hvm hw hB hz1 hk1 hS => ?_)
  exact kk r p e s m args below meth c H1 locs1 la CC ⟨w.1, w.2.1, w.2.2.1.kept (fun k9 x hx => hk1 x.1 ((w.2.2.1 k9 x hx).lt) (fun h => h)), w.2.2.2.1, hS⟩ hl
end LAWB
