/-! EACH CALL, both sides: the writing calls' answers; what if; shared -/
theorem ffM_at (X : Sg) (n : Nat) : ∀ j a b, ffM X n j a b = if a = 35 + n ∧ b < j then -1 else X a b
  | 0, a, b => by rw [if_neg (fun q => Nat.not_lt_zero _ q.2)]; rfl
  | j + 1, a, b => by
    show zu (ffM X n j) (35 + n) j (-1) a b = _
    unfold zu
    rw [ffM_at X n j]
    by_cases e : a = 35 + n
    · by_cases e2 : b = j
      · rw [if_pos e, if_pos e2, if_pos ⟨e, by omega⟩]
      · rw [if_pos e, if_neg e2]
        by_cases e3 : b < j
        · rw [if_pos ⟨e, e3⟩, if_pos ⟨e, by omega⟩]
        · rw [if_neg (fun q => e3 q.2), if_neg (fun q => by have := q.2; omega)]
    · rw [if_neg e, if_neg (fun q => e q.1), if_neg (fun q => e q.1)]
def acM (σ : Sg) (n : Nat) (s k0 k1 k2 : Int32) : Sg := zu (zu (zu (zu (zu (prM σ n s (σ 0 4) 3) 1 8 (nI (n + 1))) 1 6 (σ 1 6 ||| ((1 : Int32) <<< (nI n &&& 31)))) 7 n k0) 8 n k1) 9 n k2
theorem u_addRecord {σ μ : Sg} {n m p d L : Nat} {sn : Nat → Nat} (hC : Cpl σ μ n m p d L sn) (hn : n < 24) {i : Nat} (hi : i < m) {k0 k1 k2 : Int32} (h0 : rg k0 (-1) 99) (h1 : rg k1 (-1) 99) (h2 : rg k2 (-1) 99) : Cpl (acM σ n (nI i) k0 k1 k2) (arM μ n (nI i) k0 k1 k2) (n + 1) m p d L (fun r => if r = n then d else sn r) := by
  obtain ⟨hN, hT, hS, hSe, hK, hF, hL, hP, hZ⟩ := hC
  have hm4 := hN.2.1.2.2
  have fw : ∀ a b, a < 35 → arM μ n (nI i) k0 k1 k2 a b = zu (zu (zu (zu (zu (zu μ 0 7 (nI (n + 1))) 2 n (nI i)) 3 n (μ 0 12)) (11 + n) 0 k0) (11 + n) 1 k1) (11 + n) 2 k2 a b := fun a b ha => by
    unfold arM
    rw [ffM_at, if_neg (fun q => by have := q.1; omega)]
  have lw : ∀ a b, a < 11 → arM μ n (nI i) k0 k1 k2 a b = zu (zu (zu μ 0 7 (nI (n + 1))) 2 n (nI i)) 3 n (μ 0 12) a b := fun a b ha => by
    rw [fw a b (by omega), zu_ne _ _ _ (by omega), zu_ne _ _ _ (by omega), zu_ne _ _ _ (by omega)]
  have kw : ∀ r s, r < 24 → s < 3 → arM μ n (nI i) k0 k1 k2 (11 + r) s = if r = n then (match s with | 0 => k0 | 1 => k1 | _ => k2) else μ (11 + r) s := by
    intro r s hr hs
    have hne : ¬ (11 + r = 35 + n ∧ s < 3) := fun q => by have := q.1; omega
    unfold arM
    rw [ffM_at, if_neg hne]
    by_cases e : r = n
    · subst e
      rw [if_pos rfl]
      unfold zu
      match s, hs with
      | 0, _ => simp
      | 1, _ => simp
      | 2, _ => simp
    · rw [if_neg e, zu_ne _ _ _ (by omega), zu_ne _ _ _ (by omega), zu_ne _ _ _ (by omega), zu_ne _ _ _ (by omega), zu_ne _ _ _ (by omega), zu_ne _ _ _ (by omega)]
  have fcw : ∀ r f, r < 24 → f < 3 → arM μ n (nI i) k0 k1 k2 (35 + r) f = if r = n then -1 else μ (35 + r) f := by
    intro r f hr hf
    unfold arM
    rw [ffM_at]
    by_cases e : r = n
    · subst e
      rw [if_pos ⟨rfl, hf⟩, if_pos rfl]
    · rw [if_neg (fun q => e (by have := q.1; omega)), if_neg e, zu_ne _ _ _ (by omega), zu_ne _ _ _ (by omega), zu_ne _ _ _ (by omega), zu_ne _ _ _ (by omega), zu_ne _ _ _ (by omega), zu_ne _ _ _ (by omega)]
  have kc : ∀ s r, s < 3 → acM σ n (nI i) k0 k1 k2 (7 + s) r = if r = n then (match s with | 0 => k0 | 1 => k1 | _ => k2) else σ (7 + s) r := by
    intro s r hs
    match s, hs with
    | 0, _ => rfl
    | 1, _ => rfl
    | 2, _ => rfl
  have fc : ∀ f r, f < 3 → acM σ n (nI i) k0 k1 k2 (10 + f) r = if r = n then -1 else σ (10 + f) r := by
    intro f r hf
    match f, hf with
    | 0, _ => rfl
    | 1, _ => rfl
    | 2, _ => rfl
  refine ⟨⟨⟨rfl, ?_, by omega⟩, ⟨hN.2.1.1, ?_, hm4⟩, ⟨hN.2.2.1.1, ?_, hN.2.2.1.2.2⟩, ⟨hN.2.2.2.1.1, ?_, hN.2.2.2.1.2.2⟩, hN.2.2.2.2.1, ?_, hN.2.2.2.2.2.2⟩, ?_, ⟨?_, ?_⟩, ⟨?_, ?_⟩, ⟨fun s r hs hr => ?_, fun s r hs hr => ?_⟩, fun f r hf hr => ?_, ⟨fun r hr => ?_, fun r hr => ?_⟩, ?_, ?_⟩
  · rw [lw 0 7 (by omega)]; rfl
  · rw [lw 0 1 (by omega)]; exact hN.2.1.2.1
  · rw [lw 0 10 (by omega)]; exact hN.2.2.1.2.1
  · rw [lw 0 12 (by omega)]; exact hN.2.2.2.1.2.1
  · rw [lw 0 11 (by omega)]; exact hN.2.2.2.2.2.1
  · funext b; rw [lw 1 b (by omega)]; show σ 2 b = μ 1 b; rw [hT]
  · funext b
    rw [lw 2 b (by omega)]
    show (if b = n then nI i else σ 3 b) = (if b = n then nI i else μ 2 b)
    rw [hS.1]
  · intro r hr
    show ∃ s, s < 4 ∧ (if r = n then nI i else σ 3 r) = nI s
    by_cases e : r = n
    · rw [if_pos e]; exact ⟨i, by omega, rfl⟩
    · rw [if_neg e]; exact hS.2 r (by omega)
  · funext b
    rw [lw 3 b (by omega)]
    show (if b = n then σ 0 4 else σ 4 b) = (if b = n then μ 0 12 else μ 3 b)
    rw [hSe.1, hN.2.2.2.1.1, hN.2.2.2.1.2.1]
  · intro r hr
    show (if r = n then σ 0 4 else σ 4 r) = nI (if r = n then d else sn r) ∧ (if r = n then d else sn r) ≤ d
    by_cases e : r = n
    · simp only [if_pos e]; exact ⟨hN.2.2.2.1.1, Nat.le_refl _⟩
    · simp only [if_neg e]; exact hSe.2 r (by omega)
  · rw [kc s r hs, kw r s hr hs]
    by_cases e : r = n
    · rw [if_pos e, if_pos e]
    · rw [if_neg e, if_neg e]; exact hK.1 s r hs hr
  · rw [kc s r hs]
    by_cases e : r = n
    · rw [if_pos e]
      match s, hs with
      | 0, _ => exact h0
      | 1, _ => exact h1
      | 2, _ => exact h2
    · rw [if_neg e]; exact hK.2 s r hs (by omega)
  · rw [fc f r hf, fcw r f hr hf]
    by_cases e : r = n
    · rw [if_pos e, if_pos e]
    · rw [if_neg e, if_neg e]; exact hF f r hf hr
  · rw [lw 6 r (by omega)]
    show tb (σ 1 6 ||| ((1 : Int32) <<< (nI n &&& 31))) r = true ↔ r < n + 1 ∧ μ 6 r = 0
    rw [tb_set _ (by omega), Bool.or_eq_true, hL.1 r hr, decide_eq_true_eq]
    constructor
    · rintro (⟨q1, q2⟩ | rfl)
      · exact ⟨by omega, q2⟩
      · exact ⟨by omega, hL.2 _ (Nat.le_refl _)⟩
    · rintro ⟨q1, q2⟩
      by_cases e : r = n
      · exact Or.inr e
      · exact Or.inl ⟨by omega, q2⟩
  · rw [lw 6 r (by omega)]
    exact hL.2 r (by omega)
  · have e7 : arM μ n (nI i) k0 k1 k2 7 = μ 7 := by funext b; rw [lw 7 b (by omega)]; rfl
    have e8 : arM μ n (nI i) k0 k1 k2 8 = μ 8 := by funext b; rw [lw 8 b (by omega)]; rfl
    refine ⟨fun j hj => ?_, ?_, ?_⟩
    · obtain ⟨x, y, q1, q2, q3, q4, q5⟩ := hP.1 j hj
      exact ⟨x, y, by rw [e7]; exact q1, by rw [e8]; exact q2, by omega, by omega, q5⟩
    · unfold mtc; rw [e7, e8]; exact hP.2.1
    · unfold mtc; rw [e7, e8]; exact hP.2.2
  · rw [lw 0 16 (by omega), lw 0 17 (by omega)]; exact hZ
theorem rg_one {x : Int32} (h : rg x 1 99) : ∃ t, x = nI t ∧ 1 ≤ t ∧ t ≤ 99 := rg_nat (a := 1) (b := 99) (by omega) (by omega) h
theorem mbq {σ μ : Sg} {n m p d L : Nat} {sn : Nat → Nat} (h : Cpl σ μ n m p d L sn) : cq (THs σ n) n = cq (thM μ n p) n := th_same h.lv (fun r hr => h.g2 hr)
theorem q_addSource {σ μ σ1 μ1 : Sg} {n m p d L : Nat} {sn : Nat → Nat} (hC : Cpl σ μ n m p d L sn) {t : Int32} {k : Int32} {v w : Int32} (h1 : cres [eIA, eIS] (fun v σ1 => rg t 1 9 ∧ m < 4 ∧ zu (zu σ 2 m t) 1 7 (nI (m + 1)) = σ1 ∧ v = nI m) (pT σ [(eIA, rg t 1 9), (eIS, m < 4)]) k v σ1) (h2 : (fun v μ1 => mTh μ μ1 [(1, rg t 1 9), (2, m < 4)] (mS 0 (zu (zu μ 1 m t) 0 1 (nI (m + 1))) μ1 ∧ v = nI m)) w μ1) : agr k v w σ1 μ1 := by
  have h24 := hC.1.1.2.2
  refine agr_of hC h1 h2 ⟨by decide +kernel, Iff.rfl, fun z0 => ⟨by decide +kernel, Iff.rfl, fun z1 => trivial⟩⟩ (fun h => ⟨h.1, h.2.1, trivial⟩) (fun hp hF => ?_) (cdL_ne _ (by decide))
  obtain ⟨p1, p2, rfl, rfl⟩ := hp
  obtain ⟨hS, rfl⟩ := hF
  exact ⟨hS.1, fun _ => rfl, _, _, _, _, _, _, (u_addSource hC p2 t).st (stb.rf _) hS.2⟩
theorem q_setTrust {σ μ σ1 μ1 : Sg} {n m p d L : Nat} {sn : Nat → Nat} (hC : Cpl σ μ n m p d L sn) {r t : Int32} {k : Int32} {v w : Int32} (h1 : cres [eIO, eIA] (fun v σ1 => rg t 1 9 ∧ ∃ i, r = nI i ∧ i < m ∧ zu σ 2 i t = σ1 ∧ v = σ 2 i) (pT σ [(eIO, nR m r), (eIA, rg t 1 9)]) k v σ1) (h2 : (fun v μ1 => mTh μ μ1 [(1, nR m r), (2, rg t 1 9)] (∃ i, r = nI i ∧ i < m ∧ mS 0 (zu μ 1 i t) μ1 ∧ v = μ 1 i)) w μ1) : agr k v w σ1 μ1 := by
  have h24 := hC.1.1.2.2
  refine agr_of hC h1 h2 ⟨by decide +kernel, Iff.rfl, fun z0 => ⟨by decide +kernel, Iff.rfl, fun z1 => trivial⟩⟩ (fun h => by obtain ⟨p2, i, e, hi, _⟩ := h; exact ⟨⟨i, e, hi⟩, p2, trivial⟩) (fun hp hF => ?_) (cdL_ne _ (by decide))
  obtain ⟨p2, i, rfl, hi, rfl, rfl⟩ := hp
  obtain ⟨j, e, hj, hS, rfl⟩ := hF
  have hm4 := hC.1.2.1.2.2
  have q1 := eq_of_nI e (by omega) (by omega)
  subst q1
  exact ⟨hS.1, fun _ => by rw [hC.2.1], _, _, _, _, _, _, (u_setTrust hC i t).st (stb.rf _) hS.2⟩
theorem q_addRecord {σ μ σ1 μ1 : Sg} {n m p d L : Nat} {sn : Nat → Nat} (hC : Cpl σ μ n m p d L sn) {s k0 k1 k2 : Int32} {k : Int32} {v w : Int32} (h1 : cres [eIO, eIA, eIS] (fun v σ1 => nR m s ∧ (rg k0 (-1) 99 ∧ rg k1 (-1) 99 ∧ rg k2 (-1) 99) ∧ n < 24 ∧ zu (zu (zu (zu (zu (prM σ n s (σ 0 4) 3) 1 8 (nI (n + 1))) 1 6 (σ 1 6 ||| ((1 : Int32) <<< (nI n &&& 31)))) 7 n k0) 8 n k1) 9 n k2 = σ1 ∧ v = nI n) (pT σ [(eIO, nR m s), (eIA, rg k0 (-1) 99), (eIA, rg k1 (-1) 99), (eIA, rg k2 (-1) 99), (eIS, n < 24)]) k v σ1) (h2 : (fun v μ1 => mTh μ μ1 [(1, nR m s), (2, rg k0 (-1) 99), (2, rg k1 (-1) 99), (2, rg k2 (-1) 99), (3, n < 24)] (mS 0 (arM μ n s k0 k1 k2) μ1 ∧ v = nI n)) w μ1) : agr k v w σ1 μ1 := by
  have h24 := hC.1.1.2.2
  refine agr_of hC h1 h2 ⟨by decide +kernel, Iff.rfl, fun z0 => ⟨by decide +kernel, Iff.rfl, fun z1 => ⟨by decide +kernel, Iff.rfl, fun z2 => ⟨by decide +kernel, Iff.rfl, fun z3 => ⟨by decide +kernel, Iff.rfl, fun z4 => trivial⟩⟩⟩⟩⟩ (fun h => ⟨h.1, h.2.1.1, h.2.1.2.1, h.2.1.2.2, h.2.2.1, trivial⟩) (fun hp hF => ?_) (cdL_ne _ (by decide))
  obtain ⟨⟨i, rfl, hi⟩, ⟨p2, p3, p4⟩, p5, rfl, rfl⟩ := hp
  obtain ⟨hS, rfl⟩ := hF
  exact ⟨hS.1, fun _ => rfl, _, _, _, _, _, _, (u_addRecord hC p5 hi p2 p3 p4).st (stb.rf _) hS.2⟩
theorem q_setKey {σ μ σ1 μ1 : Sg} {n m p d L : Nat} {sn : Nat → Nat} (hC : Cpl σ μ n m p d L sn) {r k9 v9 : Int32} {k : Int32} {v w : Int32} (h1 : cres [eIO, eIA] (fun o σ1 => rg v9 (-1) 99 ∧ ∃ a i, r = nI a ∧ hd σ n a ∧ k9 = nI i ∧ i < 3 ∧ zu σ (7 + i) a v9 = σ1 ∧ o = σ (7 + i) a) (pT σ [(eIO, hdR σ n r), (eIO, nR 3 k9), (eIA, rg v9 (-1) 99)]) k v σ1) (h2 : (fun o μ1 => mTh μ μ1 [(1, rcM μ n r), (1, nR 3 k9), (2, rg v9 (-1) 99)] (∃ a i, r = nI a ∧ k9 = nI i ∧ a < n ∧ μ 6 a = 0 ∧ i < 3 ∧ mS 0 (zu μ (11 + a) i v9) μ1 ∧ o = μ (11 + a) i)) w μ1) : agr k v w σ1 μ1 := by
  have h24 := hC.1.1.2.2
  refine agr_of hC h1 h2 ⟨by decide +kernel, hC.rc _, fun z0 => ⟨by decide +kernel, Iff.rfl, fun z1 => ⟨by decide +kernel, Iff.rfl, fun z2 => trivial⟩⟩⟩ (fun h => by obtain ⟨p3, a, i, e, ha, e2, hi, _⟩ := h; exact ⟨⟨a, e, ha⟩, ⟨i, e2, hi⟩, p3, trivial⟩) (fun hp hF => ?_) (cdL_ne _ (by decide))
  obtain ⟨p3, a, i, rfl, ha, rfl, hi, rfl, rfl⟩ := hp
  obtain ⟨b, j, e, e2, hb, h6, hj, hS, rfl⟩ := hF
  have ha1 := ha.1
  have q1 := eq_of_nI e (by omega) (by omega)
  subst q1
  have q2 := eq_of_nI e2 (by omega) (by omega)
  subst q2
  exact ⟨hS.1, fun _ => hC.2.2.2.2.1.1 i a hi (by omega), _, _, _, _, _, _, (u_setKey hC ha1 hi p3).st (stb.rf _) hS.2⟩
theorem q_setFact {σ μ σ1 μ1 : Sg} {n m p d L : Nat} {sn : Nat → Nat} (hC : Cpl σ μ n m p d L sn) {r k9 v9 : Int32} {k : Int32} {v w : Int32} (h1 : cres [eIO, eIA] (fun o σ1 => rg v9 (-1) 999 ∧ ∃ a i, r = nI a ∧ hd σ n a ∧ k9 = nI i ∧ i < 3 ∧ zu σ (10 + i) a v9 = σ1 ∧ o = σ (10 + i) a) (pT σ [(eIO, hdR σ n r), (eIO, nR 3 k9), (eIA, rg v9 (-1) 999)]) k v σ1) (h2 : (fun o μ1 => mTh μ μ1 [(1, rcM μ n r), (1, nR 3 k9), (2, rg v9 (-1) 999)] (∃ a i, r = nI a ∧ k9 = nI i ∧ a < n ∧ μ 6 a = 0 ∧ i < 3 ∧ mS 0 (zu μ (35 + a) i v9) μ1 ∧ o = μ (35 + a) i)) w μ1) : agr k v w σ1 μ1 := by
  have h24 := hC.1.1.2.2
  refine agr_of hC h1 h2 ⟨by decide +kernel, hC.rc _, fun z0 => ⟨by decide +kernel, Iff.rfl, fun z1 => ⟨by decide +kernel, Iff.rfl, fun z2 => trivial⟩⟩⟩ (fun h => by obtain ⟨p3, a, i, e, ha, e2, hi, _⟩ := h; exact ⟨⟨a, e, ha⟩, ⟨i, e2, hi⟩, p3, trivial⟩) (fun hp hF => ?_) (cdL_ne _ (by decide))
  obtain ⟨p3, a, i, rfl, ha, rfl, hi, rfl, rfl⟩ := hp
  obtain ⟨b, j, e, e2, hb, h6, hj, hS, rfl⟩ := hF
  have ha1 := ha.1
  have q1 := eq_of_nI e (by omega) (by omega)
  subst q1
  have q2 := eq_of_nI e2 (by omega) (by omega)
  subst q2
  exact ⟨hS.1, fun _ => hC.2.2.2.2.2.1 i a hi (by omega), _, _, _, _, _, _, (u_setFact hC ha1 hi v9).st (stb.rf _) hS.2⟩
theorem q_see {σ μ σ1 μ1 : Sg} {n m p d L : Nat} {sn : Nat → Nat} (hC : Cpl σ μ n m p d L sn) {r : Int32} {k : Int32} {v w : Int32} (h1 : cres [eIO] (fun o σ1 => ∃ a, r = nI a ∧ hd σ n a ∧ zu σ 4 a (σ 0 4) = σ1 ∧ o = σ 4 a) (pT σ [(eIO, hdR σ n r)]) k v σ1) (h2 : (fun o μ1 => mTh μ μ1 [(1, rcM μ n r)] (∃ a, r = nI a ∧ a < n ∧ μ 6 a = 0 ∧ mS 0 (zu μ 3 a (μ 0 12)) μ1 ∧ o = μ 3 a)) w μ1) : agr k v w σ1 μ1 := by
  have h24 := hC.1.1.2.2
  refine agr_of hC h1 h2 ⟨by decide +kernel, hC.rc _, fun z0 => trivial⟩ (fun h => by obtain ⟨a, e, ha, _⟩ := h; exact ⟨⟨a, e, ha⟩, trivial⟩) (fun hp hF => ?_) (cdL_ne _ (by decide))
  obtain ⟨a, rfl, ha, rfl, rfl⟩ := hp
  obtain ⟨b, e, hb, h6, hS, rfl⟩ := hF
  have ha1 := ha.1
  have q1 := eq_of_nI e (by omega) (by omega)
  subst q1
  rw [hC.1.2.2.2.1.2.1] at hS
  rw [hC.1.2.2.2.1.1]
  exact ⟨hS.1, fun _ => by rw [hC.2.2.2.1.1], _, _, _, _, _, _, (u_see hC a).st (stb.rf _) hS.2⟩
theorem q_drop {σ μ σ1 μ1 : Sg} {n m p d L : Nat} {sn : Nat → Nat} (hC : Cpl σ μ n m p d L sn) {r : Int32} {k : Int32} {v w : Int32} (h1 : cres [eIO] (fun o σ1 => ∃ a, r = nI a ∧ hd σ n a ∧ zu σ 1 6 (σ 1 6 &&& (((1 : Int32) <<< (nI a &&& 31)) ^^^ (-1))) = σ1 ∧ o = nI (popc (σ 1 6 &&& (((1 : Int32) <<< (nI a &&& 31)) ^^^ (-1))))) (pT σ [(eIO, hdR σ n r)]) k v σ1) (h2 : (fun o μ1 => mTh μ μ1 [(1, rcM μ n r)] (∃ a, r = nI a ∧ a < n ∧ μ 6 a = 0 ∧ mS 0 (zu μ 6 a 1) μ1 ∧ o = nI (cq (fun r => zu μ 6 a 1 6 r = 0) n))) w μ1) : agr k v w σ1 μ1 := by
  have h24 := hC.1.1.2.2
  refine agr_of hC h1 h2 ⟨by decide +kernel, hC.rc _, fun z0 => trivial⟩ (fun h => by obtain ⟨a, e, ha, _⟩ := h; exact ⟨⟨a, e, ha⟩, trivial⟩) (fun hp hF => ?_) (cdL_ne _ (by decide))
  obtain ⟨a, rfl, ha, rfl, rfl⟩ := hp
  obtain ⟨b, e, hb, h6, hS, rfl⟩ := hF
  have ha1 := ha.1
  have q1 := eq_of_nI e (by omega) (by omega)
  subst q1
  have hC2 := u_drop hC ha1
  exact ⟨hS.1, fun _ => congrArg nI hC2.pop, _, _, _, _, _, _, (hC2).st (stb.rf _) hS.2⟩
theorem q_forbid {σ μ σ1 μ1 : Sg} {n m p d L : Nat} {sn : Nat → Nat} (hC : Cpl σ μ n m p d L sn) {r o : Int32} {k : Int32} {v w : Int32} (h1 : cres [eIO, eIA, eIS] (fun v σ1 => ∃ a b, r = nI a ∧ o = nI b ∧ hd σ n a ∧ hd σ n b ∧ a ≠ b ∧ ¬ tb (σ 13 a) b = true ∧ p < 12 ∧ zu (ptM σ a b) 1 9 (nI (p + 1)) = σ1 ∧ v = nI (sq (hd σ n) (fun r => popc (ptM σ a b 13 r &&& σ 1 6)) n / 2)) (pT σ [(eIO, hdR σ n r), (eIO, hdR σ n o), (eIA, r ≠ o), (eIS, ¬ fbR σ r o), (eIS, p < 12)]) k v σ1) (h2 : (fun v μ1 => mTh μ μ1 [(1, rcM μ n r), (1, rcM μ n o), (2, r ≠ o), (3, ¬ frM μ p r o), (3, p < 12)] (∃ a b, r = nI a ∧ o = nI b ∧ (a < n ∧ μ 6 a = 0) ∧ (b < n ∧ μ 6 b = 0) ∧ mS 0 (zu (zu (zu μ 7 p (nI a)) 8 p (nI b)) 0 10 (nI (p + 1))) μ1 ∧ v = nI (cq (cpM (zu (zu (zu μ 7 p (nI a)) 8 p (nI b)) 0 10 (nI (p + 1)))) (p + 1)))) w μ1) : agr k v w σ1 μ1 := by
  have h24 := hC.1.1.2.2
  refine agr_of hC h1 h2 ⟨by decide +kernel, hC.rc _, fun z0 => ⟨by decide +kernel, hC.rc _, fun z1 => ⟨by decide +kernel, Iff.rfl, fun z2 => ⟨by decide +kernel, (not_congr (hC.fr r o)), fun z3 => ⟨by decide +kernel, Iff.rfl, fun z4 => trivial⟩⟩⟩⟩⟩ (fun h => by obtain ⟨a, b, e1, e2, ha, hb, hab, hno, hp9, _⟩ := h; have ha1 := ha.1; have hb1 := hb.1; exact ⟨⟨a, e1, ha⟩, ⟨b, e2, hb⟩, fun e => hab (eq_of_nI (e1.symm.trans (e.trans e2)) (by omega) (by omega)), fun w => hno (by rw [e1, e2] at w; exact (fbR_n (by omega) (by omega)).mp w), hp9, trivial⟩) (fun hp hF => ?_) (cdL_ne _ (by decide))
  obtain ⟨a, b, rfl, rfl, ha, hb, hab, hno, hp9, rfl, rfl⟩ := hp
  obtain ⟨a2, b2, e1, e2, ha2, hb2, hS, rfl⟩ := hF
  have ha3 := ha2.1
  have hb3 := hb2.1
  have ha1 := ha.1
  have hb1 := hb.1
  have q1 := eq_of_nI e1 (by omega) (by omega)
  have q2 := eq_of_nI e2 (by omega) (by omega)
  subst q1; subst q2
  have hC2 := u_forbid hC hp9 ha1 hb1 hab hno
  have e9 := hC2.prs
  rw [fb_sq (ptM σ a b) σ n p (ptM_o _ _ _ (by decide))] at e9
  exact ⟨hS.1, fun _ => by rw [e9], _, _, _, _, _, _, (hC2).st (stb.rf _) hS.2⟩
theorem q_allow {σ μ σ1 μ1 : Sg} {n m p d L : Nat} {sn : Nat → Nat} (hC : Cpl σ μ n m p d L sn) {r o : Int32} {k : Int32} {v w : Int32} (h1 : cres [eIO, eNS] (fun v σ1 => ∃ a b, r = nI a ∧ o = nI b ∧ hd σ n a ∧ hd σ n b ∧ tb (σ 13 a) b = true ∧ zu (upM σ a b) 1 9 (σ 1 9 - 1) = σ1 ∧ v = nI (sq (hd σ n) (fun r => popc (upM σ a b 13 r &&& σ 1 6)) n / 2)) (pT σ [(eIO, hdR σ n r), (eIO, hdR σ n o), (eNS, fbR σ r o)]) k v σ1) (h2 : (fun v μ1 => mTh μ μ1 [(1, rcM μ n r), (1, rcM μ n o), (2, frM μ p r o)] (∃ a b i q, r = nI a ∧ o = nI b ∧ (a < n ∧ μ 6 a = 0) ∧ (b < n ∧ μ 6 b = 0) ∧ p = q + 1 ∧ i < p ∧ mtc μ a b i ∧ (∀ j, j < i → ¬ mtc μ a b j) ∧ mS 0 (zu (zu (zu μ 0 10 (nI q)) 7 i (μ 7 q)) 8 i (μ 8 q)) μ1 ∧ v = nI (cq (cpM (zu (zu (zu μ 0 10 (nI q)) 7 i (μ 7 q)) 8 i (μ 8 q))) q))) w μ1) : agr k v w σ1 μ1 := by
  have h24 := hC.1.1.2.2
  refine agr_of hC h1 h2 ⟨by decide +kernel, hC.rc _, fun z0 => ⟨by decide +kernel, hC.rc _, fun z1 => ⟨by decide +kernel, (hC.fr r o), fun z2 => trivial⟩⟩⟩ (fun h => by obtain ⟨a, b, e1, e2, ha, hb, ht, _⟩ := h; have ha1 := ha.1; have hb1 := hb.1; exact ⟨⟨a, e1, ha⟩, ⟨b, e2, hb⟩, ⟨a, b, e1, e2, by omega, by omega, ht⟩, trivial⟩) (fun hp hF => ?_) (cdL_ne _ (by decide))
  obtain ⟨a, b, rfl, rfl, ha, hb, ht, rfl, rfl⟩ := hp
  obtain ⟨a2, b2, i, q, e1, e2, ha2, hb2, rfl, hi, hm, hm1, hS, rfl⟩ := hF
  have ha3 := ha2.1
  have hb3 := hb2.1
  have ha1 := ha.1
  have hb1 := hb.1
  have q1 := eq_of_nI e1 (by omega) (by omega)
  have q2 := eq_of_nI e2 (by omega) (by omega)
  subst q1; subst q2
  have hC2 := u_allow hC ha1 hb1 hi hm
  have e9 := hC2.prs
  rw [fb_sq (upM σ a b) σ n 0 (upM_o _ _ _ (by decide))] at e9
  rw [hC.1.2.2.1.1, nI_prd]
  exact ⟨hS.1, fun _ => by rw [e9], _, _, _, _, _, _, (hC2).st (stb.rf _) hS.2⟩
theorem q_setLimit {σ μ σ1 μ1 : Sg} {n m p d L : Nat} {sn : Nat → Nat} (hC : Cpl σ μ n m p d L sn) {x : Int32} {k : Int32} {v w : Int32} (h1 : cres [eIA] (fun v σ1 => rg x 1 99 ∧ zu σ 0 5 x = σ1 ∧ v = σ 0 5) (pT σ [(eIA, rg x 1 99)]) k v σ1) (h2 : (fun v μ1 => mTh μ μ1 [(1, rg x 1 99)] (mS 0 (zu μ 0 11 x) μ1 ∧ v = μ 0 11)) w μ1) : agr k v w σ1 μ1 := by
  have h24 := hC.1.1.2.2
  refine agr_of hC h1 h2 ⟨by decide +kernel, Iff.rfl, fun z0 => trivial⟩ (fun h => ⟨h.1, trivial⟩) (fun hp hF => ?_) (cdL_ne _ (by decide))
  obtain ⟨p1, rfl, rfl⟩ := hp
  obtain ⟨hS, rfl⟩ := hF
  obtain ⟨t, rfl, h1, h2⟩ := rg_one p1
  exact ⟨hS.1, fun _ => by rw [hC.1.2.2.2.2.1, hC.1.2.2.2.2.2.1], _, _, _, _, _, _, (u_setLimit hC h1 h2).st (stb.rf _) hS.2⟩
theorem pass_iff {σ μ : Sg} {n m p d L : Nat} {sn : Nat → Nat} (hC : Cpl σ μ n m p d L sn) {x : Int32} (h : rg x 1 99) : rg (σ 0 4 + x) 0 999 ↔ μ 0 12 + x ≤ 999 := by
  obtain ⟨t, rfl, h1, h2⟩ := rg_one h
  have h9 := hC.1.2.2.2.1.2.2
  rw [hC.1.2.2.2.1.1, hC.1.2.2.2.1.2.1, nI_add]
  constructor
  · exact fun q => q.2
  · exact fun q => (rg_nn (b := 0) (c := 999) (by omega) (by omega) (by omega)).mpr ⟨Nat.zero_le _, le_of_nI (b := 999) q (by omega) (by omega)⟩
theorem q_pass {σ μ σ1 μ1 : Sg} {n m p d L : Nat} {sn : Nat → Nat} (hC : Cpl σ μ n m p d L sn) {x : Int32} {k : Int32} {v w : Int32} (h1 : cres [eIA] (fun v σ1 => rg x 1 99 ∧ rg (σ 0 4 + x) 0 999 ∧ zu σ 0 4 (σ 0 4 + x) = σ1 ∧ v = σ 0 4 + x) (pT σ [(eIA, rg x 1 99), (eIA, rg (σ 0 4 + x) 0 999)]) k v σ1) (h2 : (fun v μ1 => mTh μ μ1 [(1, rg x 1 99), (1, μ 0 12 + x ≤ 999)] (mS 0 (zu μ 0 12 (μ 0 12 + x)) μ1 ∧ v = μ 0 12 + x)) w μ1) : agr k v w σ1 μ1 := by
  have h24 := hC.1.1.2.2
  refine agr_of hC h1 h2 ⟨by decide +kernel, Iff.rfl, fun z0 => ⟨by decide +kernel, (pass_iff hC z0), fun z1 => trivial⟩⟩ (fun h => ⟨h.1, h.2.1, trivial⟩) (fun hp hF => ?_) (cdL_ne _ (by decide))
  obtain ⟨p1, p2, rfl, rfl⟩ := hp
  obtain ⟨hS, rfl⟩ := hF
  obtain ⟨t, rfl, h1, h2⟩ := rg_one p1
  have h9 := hC.1.2.2.2.1.2.2
  rw [hC.1.2.2.2.1.2.1, nI_add] at hS
  rw [hC.1.2.2.2.1.1, nI_add] at p2 ⊢
  have h3 := ((rg_nn (b := 0) (c := 999) (by omega) (by omega) (by omega)).mp p2).2
  exact ⟨hS.1, fun _ => by rw [hC.1.2.2.2.1.2.1, nI_add], _, _, _, _, _, _, (u_pass hC (t := d + t) (by omega) h3).st (stb.rf _) hS.2⟩
theorem q_thingsIf {σ μ σ1 μ1 : Sg} {n m p d L : Nat} {sn : Nat → Nat} (hC : Cpl σ μ n m p d L sn) {r k9 v9 : Int32} {k : Int32} {v w : Int32} (h1 : cres [eIO, eIA] (fun o σ1 => rg v9 (-1) 99 ∧ ∃ a i, r = nI a ∧ hd σ n a ∧ k9 = nI i ∧ i < 3 ∧ stb σ σ1 ∧ o = nI (cq (THs (zu σ (7 + i) a v9) n) n)) (pT σ [(eIO, hdR σ n r), (eIO, nR 3 k9), (eIA, rg v9 (-1) 99)]) k v σ1) (h2 : (fun o μ1 => mTh μ μ1 [(1, rcM μ n r), (1, nR 3 k9), (2, rg v9 (-1) 99)] (∃ a i, r = nI a ∧ k9 = nI i ∧ a < n ∧ μ 6 a = 0 ∧ i < 3 ∧ mS 0 μ μ1 ∧ fG (zu μ (11 + a) i v9) n p ∧ o = nI (cq (thM (zu μ (11 + a) i v9) n p) n))) w μ1) : agr k v w σ1 μ1 := by
  have h24 := hC.1.1.2.2
  refine agr_of hC h1 h2 ⟨by decide +kernel, hC.rc _, fun z0 => ⟨by decide +kernel, Iff.rfl, fun z1 => ⟨by decide +kernel, Iff.rfl, fun z2 => trivial⟩⟩⟩ (fun h => by obtain ⟨p3, a, i, e, ha, e2, hi, _⟩ := h; exact ⟨⟨a, e, ha⟩, ⟨i, e2, hi⟩, p3, trivial⟩) (fun hp hF => ?_) (cdL_ne _ (by decide))
  obtain ⟨p3, a, i, rfl, ha, rfl, hi, hst, rfl⟩ := hp
  obtain ⟨b, j, e, e2, hb, h6, hj, hS, -, rfl⟩ := hF
  have ha1 := ha.1
  have q1 := eq_of_nI e (by omega) (by omega)
  subst q1
  have q2 := eq_of_nI e2 (by omega) (by omega)
  subst q2
  exact ⟨hS.1, fun _ => by rw [mbq (u_setKey hC ha1 hi p3)], _, _, _, _, _, _, hC.st hst hS.2⟩
theorem q_thingsWithout {σ μ σ1 μ1 : Sg} {n m p d L : Nat} {sn : Nat → Nat} (hC : Cpl σ μ n m p d L sn) {r : Int32} {k : Int32} {v w : Int32} (h1 : cres [eIO] (fun v σ1 => ∃ a, r = nI a ∧ hd σ n a ∧ stb σ σ1 ∧ v = nI (cq (THs (zu σ 1 6 (σ 1 6 &&& (((1 : Int32) <<< (nI a &&& 31)) ^^^ (-1)))) n) n)) (pT σ [(eIO, hdR σ n r)]) k v σ1) (h2 : (fun v μ1 => mTh μ μ1 [(1, rcM μ n r)] (∃ a, r = nI a ∧ a < n ∧ μ 6 a = 0 ∧ mS 0 μ μ1 ∧ fG (zu μ 0 16 (nI a)) n p ∧ v = nI (cq (thM (zu μ 0 16 (nI a)) n p) n))) w μ1) : agr k v w σ1 μ1 := by
  have h24 := hC.1.1.2.2
  refine agr_of hC h1 h2 ⟨by decide +kernel, hC.rc _, fun z0 => trivial⟩ (fun h => by obtain ⟨a, e, ha, _⟩ := h; exact ⟨⟨a, e, ha⟩, trivial⟩) (fun hp hF => ?_) (cdL_ne _ (by decide))
  obtain ⟨a, rfl, ha, hst, rfl⟩ := hp
  obtain ⟨b, e, hb, h6, hS, -, rfl⟩ := hF
  have ha1 := ha.1
  have q1 := eq_of_nI e (by omega) (by omega)
  subst q1
  refine ⟨hS.1, fun _ => ?_, _, _, _, _, _, _, hC.st hst hS.2⟩
  have hlv : ∀ x, x < n → (hd (zu σ 1 6 (σ 1 6 &&& (((1 : Int32) <<< (nI a &&& 31)) ^^^ (-1)))) n x ↔ lvM (zu μ 0 16 (nI a)) n x) := by
    intro x hx
    have h1 := (u_drop hC ha1).hdn x hx
    rw [h1]
    show (x < n ∧ (if x = a then (1 : Int32) else μ 6 x) = 0) ↔ x < n ∧ μ 6 x = 0 ∧ nI x ≠ nI a
    by_cases e : x = a
    · simp [e]
    · have : nI x ≠ nI a := fun q => e (eq_of_nI q (by omega) (by omega))
      simp [e, this]
  refine congrArg nI (th_same hlv (fun x hx => gq_same hlv (fun s y hs hy => ?_) (fun x y hx hy _ _ => ?_) 2 x (by omega) hx))
  · show zu σ 1 6 _ (7 + s) y = zu μ 0 16 (nI a) (11 + y) s
    rw [zu_ne _ _ _ (by omega), zu_ne _ _ _ (by omega)]
    exact hC.ky s y hs hy
  · exact hC.fb x y hx hy
theorem q_thingsIfAllowed {σ μ σ1 μ1 : Sg} {n m p d L : Nat} {sn : Nat → Nat} (hC : Cpl σ μ n m p d L sn) {r o : Int32} {k : Int32} {v w : Int32} (h1 : cres [eIO, eNS] (fun v σ1 => ∃ a b, r = nI a ∧ o = nI b ∧ hd σ n a ∧ hd σ n b ∧ tb (σ 13 a) b = true ∧ stb σ σ1 ∧ v = nI (cq (THs (upM σ a b) n) n)) (pT σ [(eIO, hdR σ n r), (eIO, hdR σ n o), (eNS, fbR σ r o)]) k v σ1) (h2 : (fun v μ1 => mTh μ μ1 [(1, rcM μ n r), (1, rcM μ n o), (2, frM μ p r o)] (∃ a b i, r = nI a ∧ o = nI b ∧ (a < n ∧ μ 6 a = 0) ∧ (b < n ∧ μ 6 b = 0) ∧ i < p ∧ mtc μ a b i ∧ (∀ j, j < i → ¬ mtc μ a b j) ∧ mS 0 μ μ1 ∧ fG (zu μ 0 17 (nI i)) n p ∧ v = nI (cq (thM (zu μ 0 17 (nI i)) n p) n))) w μ1) : agr k v w σ1 μ1 := by
  have h24 := hC.1.1.2.2
  refine agr_of hC h1 h2 ⟨by decide +kernel, hC.rc _, fun z0 => ⟨by decide +kernel, hC.rc _, fun z1 => ⟨by decide +kernel, (hC.fr r o), fun z2 => trivial⟩⟩⟩ (fun h => by obtain ⟨a, b, e1, e2, ha, hb, ht, _⟩ := h; have ha1 := ha.1; have hb1 := hb.1; exact ⟨⟨a, e1, ha⟩, ⟨b, e2, hb⟩, ⟨a, b, e1, e2, by omega, by omega, ht⟩, trivial⟩) (fun hp hF => ?_) (cdL_ne _ (by decide))
  obtain ⟨a, b, rfl, rfl, ha, hb, ht, hst, rfl⟩ := hp
  obtain ⟨a2, b2, i, e1, e2, ha2, hb2, hi, hm, hm1, hS, -, rfl⟩ := hF
  have ha3 := ha2.1
  have hb3 := hb2.1
  have ha1 := ha.1
  have hb1 := hb.1
  have q1 := eq_of_nI e1 (by omega) (by omega)
  have q2 := eq_of_nI e2 (by omega) (by omega)
  subst q1; subst q2
  refine ⟨hS.1, fun _ => ?_, _, _, _, _, _, _, hC.st hst hS.2⟩
  obtain ⟨q, rfl⟩ : ∃ q, p = q + 1 := ⟨p - 1, by omega⟩
  have hC2 := u_allow hC ha1 hb1 hi hm
  have hlv : ∀ x, x < n → (hd (upM σ a b) n x ↔ lvM (zu μ 0 17 (nI i)) n x) := by
    intro x hx
    rw [hd_ag n x (upM_o σ a b (by decide))]
    exact hC.lv x hx
  refine congrArg nI (th_same hlv (fun x hx => gq_same hlv (fun s y hs hy => ?_) (fun x y hx hy _ _ => ?_) 2 x (by omega) hx))
  · show upM σ a b (7 + s) y = zu μ 0 17 (nI i) (11 + y) s
    rw [upM_o _ _ _ (by omega), zu_ne _ _ _ (by omega)]
    exact hC.ky s y hs hy
  · have h12 := hC.1.2.2.1.2.2
    show tb (upM σ a b 13 x) y = true ↔ ∃ j, j < q + 1 ∧ mtc μ x y j ∧ (∀ t, t < j → ¬ mtc μ x y t) ∧ nI j ≠ nI i
    have h1 := hC2.2.2.2.2.2.2.2.1.2.2 x y (by omega) (by omega)
    have h2 : zu (upM σ a b) 1 9 (nI q) 13 = upM σ a b 13 := rfl
    rw [h2] at h1
    rw [h1]
    constructor
    · rintro ⟨j, hj, hmj⟩
      have hmj2 : mtc μ x y (if j = i then q else j) := by
        unfold mtc at hmj ⊢
        have e7 : zu (zu (zu μ 0 10 (nI q)) 7 i (μ 7 q)) 8 i (μ 8 q) 7 j = if j = i then μ 7 q else μ 7 j := rfl
        have e8 : zu (zu (zu μ 0 10 (nI q)) 7 i (μ 7 q)) 8 i (μ 8 q) 8 j = if j = i then μ 8 q else μ 8 j := rfl
        rw [e7, e8] at hmj
        by_cases e : j = i
        · simp only [if_pos e] at hmj ⊢; exact hmj
        · simp only [if_neg e] at hmj ⊢; exact hmj
      by_cases e : j = i
      · rw [if_pos e] at hmj2
        exact ⟨q, by omega, hmj2, hC.mt1 (by omega) hmj2, fun z => by have := eq_of_nI z (by omega) (by omega); omega⟩
      · rw [if_neg e] at hmj2
        exact ⟨j, by omega, hmj2, hC.mt1 (by omega) hmj2, fun z => e (eq_of_nI z (by omega) (by omega))⟩
    · rintro ⟨j, hj, hmj, -, hne⟩
      have hji : j ≠ i := fun e => hne (by rw [e])
      have pl : ∀ t, mtc (zu (zu (zu μ 0 10 (nI q)) 7 i (μ 7 q)) 8 i (μ 8 q)) x y t ↔ mtc μ x y (if t = i then q else t) := by
        intro t
        unfold mtc
        have e7 : zu (zu (zu μ 0 10 (nI q)) 7 i (μ 7 q)) 8 i (μ 8 q) 7 t = if t = i then μ 7 q else μ 7 t := rfl
        have e8 : zu (zu (zu μ 0 10 (nI q)) 7 i (μ 7 q)) 8 i (μ 8 q) 8 t = if t = i then μ 8 q else μ 8 t := rfl
        rw [e7, e8]
        by_cases e : t = i
        · simp only [if_pos e]
        · simp only [if_neg e]
      by_cases e : j = q
      · exact ⟨i, by omega, (pl i).mpr (by rw [if_pos rfl, ← e]; exact hmj)⟩
      · exact ⟨j, by omega, (pl j).mpr (by rw [if_neg hji]; exact hmj)⟩
theorem key_nat {σ μ : Sg} {n m p d L : Nat} {sn : Nat → Nat} (hC : Cpl σ μ n m p d L sn) {i r : Nat} (hi : i < 3) (hr : r < n) (h : σ (7 + i) r ≠ -1) : ∃ q, σ (7 + i) r = nI q ∧ q < 100 := by
  obtain ⟨h1, h2⟩ := hC.2.2.2.2.1.2 i r hi hr
  have h0 : ¬ σ (7 + i) r < 0 := fun q => by
    have q1 := Int32.lt_iff_toInt_lt.mp q
    have q2 : ¬ (σ (7 + i) r).toInt < (-1 : Int32).toInt := fun z => h1 (Int32.lt_iff_toInt_lt.mpr z)
    have q3 : (-1 : Int32).toInt = -1 := by decide
    have q4 : (0 : Int32).toInt = 0 := by decide
    exact h (Int32.toInt_inj.mp (by omega))
  obtain ⟨t, ht, e⟩ := nI_of h0
  rw [e] at h2 ⊢
  exact ⟨t, rfl, by have := le_of_nI (b := 99) h2 ht (by omega); omega⟩
theorem shared_eq {σ μ : Sg} {n m p d L : Nat} {sn : Nat → Nat} (hC : Cpl σ μ n m p d L sn) {i : Nat} (hi : i < 3) : cq (fun r => (∀ j, j < r → ¬ smK σ n i r j) ∧ ∃ o, o < n ∧ smK σ n i r o ∧ gC σ n 2 o ≠ gC σ n 2 r) n = cq (fun q => shq μ n (gM μ n p 2) i q) 100 := by
  have hky : ∀ r, r < n → σ (7 + i) r = kyM μ i r := fun r hr => hC.ky i r hi hr
  have hv : ∀ r, r < n → ∃ q, (hd σ n r → σ (7 + i) r ≠ -1 → σ (7 + i) r = nI q ∧ q < 100) := fun r hr => by
    by_cases h : σ (7 + i) r ≠ -1
    · obtain ⟨q, h1, h2⟩ := key_nat hC hi hr h
      exact ⟨q, fun _ _ => ⟨h1, h2⟩⟩
    · exact ⟨0, fun _ h9 => absurd h9 h⟩
  let f : Nat → Nat := fun r => if h : r < n then Classical.choose (hv r h) else 0
  have hf : ∀ r, r < n → hd σ n r → σ (7 + i) r ≠ -1 → σ (7 + i) r = nI (f r) ∧ f r < 100 := by
    intro r hr h1 h2
    show σ (7 + i) r = nI (if h : r < n then Classical.choose (hv r h) else 0) ∧ (if h : r < n then Classical.choose (hv r h) else 0) < 100
    rw [dif_pos hr]
    exact Classical.choose_spec (hv r hr) h1 h2
  have hw : ∀ q, ∃ r, (shq μ n (gM μ n p 2) i q → (hd σ n r ∧ σ (7 + i) r = nI q) ∧ ∀ j, j < r → ¬ (hd σ n j ∧ σ (7 + i) j = nI q)) := fun q => by
    by_cases h : shq μ n (gM μ n p 2) i q
    · obtain ⟨x, y, hx, hy, kx, ky, hne⟩ := h
      obtain ⟨r, h1, h2⟩ := pk_least (fun r => hd σ n r ∧ σ (7 + i) r = nI q) ⟨x, (hC.lv x hx.1).mpr hx, by rw [hky x hx.1]; exact kx⟩
      exact ⟨r, fun _ => ⟨h1, h2⟩⟩
    · exact ⟨0, fun h9 => absurd h9 h⟩
  let g : Nat → Nat := fun q => Classical.choose (hw q)
  have hg : ∀ q, shq μ n (gM μ n p 2) i q → (hd σ n (g q) ∧ σ (7 + i) (g q) = nI q) ∧ ∀ j, j < g q → ¬ (hd σ n j ∧ σ (7 + i) j = nI q) := fun q => Classical.choose_spec (hw q)
  refine cq_bij f g (fun r hr h => ?_) (fun q hq h => ?_) (fun r hr h => ?_) (fun q hq h => ?_)
  · obtain ⟨-, o, ho, ⟨h1, h2, h3, h4⟩, hne⟩ := h
    obtain ⟨e, hl⟩ := hf r hr h1 h3
    refine ⟨hl, o, r, (hC.lv o ho).mp h2, (hC.lv r hr).mp h1, ?_, ?_, ?_⟩
    · rw [← hky o ho, ← h4, e]
    · rw [← hky r hr, e]
    · rw [← hC.g2 ho, ← hC.g2 hr]; exact hne
  · obtain ⟨⟨h1, h2⟩, h3⟩ := hg q h
    have hne : σ (7 + i) (g q) ≠ -1 := by rw [h2]; exact nI_ne_m1 (by omega)
    refine ⟨h1.1, fun j hj hs => h3 j hj ⟨hs.2.1, by rw [← hs.2.2.2, h2]⟩, ?_⟩
    obtain ⟨x, y, hx, hy, kx, ky, hxy⟩ := h
    have sx : smK σ n i (g q) x := ⟨h1, (hC.lv x hx.1).mpr hx, hne, by rw [h2, hky x hx.1, kx]⟩
    have sy : smK σ n i (g q) y := ⟨h1, (hC.lv y hy.1).mpr hy, hne, by rw [h2, hky y hy.1, ky]⟩
    by_cases e : gC σ n 2 x = gC σ n 2 (g q)
    · refine ⟨y, hy.1, sy, fun e2 => hxy ?_⟩
      rw [← hC.g2 hx.1, ← hC.g2 hy.1, e, e2]
    · exact ⟨x, hx.1, sx, e⟩
  · obtain ⟨h0, o, ho, ⟨h1, h2, h3, h4⟩, hne⟩ := h
    obtain ⟨e, hl⟩ := hf r hr h1 h3
    have hq : shq μ n (gM μ n p 2) i (f r) := ⟨o, r, (hC.lv o ho).mp h2, (hC.lv r hr).mp h1, by rw [← hky o ho, ← h4, e], by rw [← hky r hr, e], by rw [← hC.g2 ho, ← hC.g2 hr]; exact hne⟩
    obtain ⟨⟨k1, k2⟩, k3⟩ := hg (f r) hq
    rcases Nat.lt_trichotomy (g (f r)) r with h9 | h9 | h9
    · exact absurd ⟨h1, k1, h3, by rw [e, k2]⟩ (h0 _ h9)
    · exact h9
    · exact absurd ⟨h1, e⟩ (k3 r h9)
  · obtain ⟨⟨h1, h2⟩, h3⟩ := hg q h
    obtain ⟨e, hl⟩ := hf (g q) h1.1 h1 (by rw [h2]; exact nI_ne_m1 (by omega))
    exact eq_of_nI (e.symm.trans h2) (by omega) (by omega)
theorem q_shared {σ μ σ1 μ1 : Sg} {n m p d L : Nat} {sn : Nat → Nat} (hC : Cpl σ μ n m p d L sn) {k9 : Int32} {k : Int32} {v w : Int32} (h1 : cres [eIO] (shP σ n k9) (pT σ [(eIO, nR 3 k9)]) k v σ1) (h2 : (srM μ n p k9) w μ1) : agr k v w σ1 μ1 := by
  have h24 := hC.1.1.2.2
  refine agr_of hC h1 h2 ⟨by decide +kernel, Iff.rfl, fun z0 => trivial⟩ (fun h => by obtain ⟨i, e, hi, _⟩ := h; exact ⟨⟨i, e, hi⟩, trivial⟩) (fun hp hF => ?_) (cdL_ne _ (by decide))
  obtain ⟨i, rfl, hi, hJ, rfl⟩ := hp
  obtain ⟨j, e, hj, hS, -, rfl⟩ := hF
  have q1 := eq_of_nI e (by omega) (by omega)
  subst q1
  exact ⟨hS.1, fun _ => by rw [shared_eq hC hi], _, _, _, _, _, _, hC.st hJ.1 hS.2⟩
