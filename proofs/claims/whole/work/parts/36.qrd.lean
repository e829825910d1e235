/-! EACH CALL, both sides: reading calls -/
theorem cdL_ne (l : List String) (hl : l.length < 4) (E : String) : cdL l E ≠ 0 := by
  intro h
  have h1 : l.idxOf E ≤ l.length := List.idxOf_le_length
  have := eq_of_nI (b := 0) h (by omega) (by omega)
  omega
theorem rg_nat {x : Int32} {a b : Nat} (ha : a < 2 ^ 31) (hb : b < 2 ^ 31) (h : rg x (nI a) (nI b)) : ∃ t, x = nI t ∧ a ≤ t ∧ t ≤ b := by
  obtain ⟨h1, h2⟩ := h
  have h0 : ¬ x < 0 := fun q => h1 (by
    have q1 := Int32.lt_iff_toInt_lt.mp q
    have q2 : (nI 0).toInt ≤ (nI a).toInt := Int32.le_iff_toInt_le.mp ((nI_leI (by omega) (by omega)).mpr (Nat.zero_le _))
    have q3 : (nI 0).toInt = 0 := by decide
    have q4 : (0 : Int32).toInt = 0 := by decide
    exact Int32.lt_iff_toInt_lt.mpr (by omega))
  obtain ⟨t, ht, rfl⟩ := nI_of h0
  exact ⟨t, rfl, nI_ngt h1 ht ha, le_of_nI h2 ht hb⟩
theorem Cpl.fr {σ μ : Sg} {n m p d L : Nat} {sn : Nat → Nat} (h : Cpl σ μ n m p d L sn) (r o : Int32) : fbR σ r o ↔ frM μ p r o := by
  constructor
  · rintro ⟨i, j, e1, e2, hi, hj, ht⟩
    obtain ⟨q, hq, hm⟩ := (h.2.2.2.2.2.2.2.1.2.2 i j hi (by omega)).mp ht
    exact ⟨i, j, q, e1, e2, hi, hj, hq, hm⟩
  · rintro ⟨i, j, q, e1, e2, hi, hj, hq, hm⟩
    exact ⟨i, j, e1, e2, hi, hj, (h.2.2.2.2.2.2.2.1.2.2 i j hi (by omega)).mpr ⟨q, hq, hm⟩⟩
section Q
variable {σ μ : Sg} {n m p d L : Nat} {sn : Nat → Nat}
theorem Cpl.mb (h : Cpl σ μ n m p d L sn) (t r : Nat) (hr : r < n) : mbr σ n (gC σ n 2) t r ↔ mbM μ n (gM μ n p 2) t r := mb_same h.lv (fun r hr => h.gg 2 r (by omega) hr) t r hr
theorem Cpl.g2 (h : Cpl σ μ n m p d L sn) {r : Nat} (hr : r < n) : gC σ n 2 r = gM μ n p 2 r := h.gg 2 r (by omega) hr
theorem Cpl.li (h : Cpl σ μ n m p d L sn) : LIq n (hd σ n) (gC σ n 2) := grs_LI (gq_ok n _ _ _) 2 (by omega)
theorem Cpl.ls (h : Cpl σ μ n m p d L sn) (t : Nat) : lst σ n (gC σ n 2) sn t = lsM μ n (gM μ n p 2) sn t := mxq_cong (fun r hr => h.mb t r hr) (fun _ _ => rfl)
theorem Cpl.ahq (h : Cpl σ μ n m p d L sn) (a b : Nat) : ah σ a b ↔ ahM μ a b := by
  have e : ∀ x, wg σ x (σ 0 4) = wg (enM μ) x (enM μ 0 4) := by
    intro x
    unfold wg
    rw [h.2.1, h.2.2.1.1, h.2.2.2.1.1, h.1.2.2.2.1.1]
    show _ = μ 1 (μ 2 x).toNatClampNeg - (μ 0 12 - μ 3 x) / 10
    rw [h.1.2.2.2.1.2.1]
  unfold ahM ah
  rw [e a, e b, h.2.2.2.1.1]
  rfl
theorem Cpl.tfq (h : Cpl σ μ n m p d L sn) (t f r : Nat) (hf : f < 3) (hr : r < n) : tf σ n (gC σ n 2) t f r ↔ tfM μ n (gM μ n p 2) t f r := by
  unfold tf tfM
  rw [h.mb t r hr, h.2.2.2.2.2.1 f r hf (by have := h.1.1.2.2; omega)]
theorem Cpl.mbx (h : Cpl σ μ n m p d L sn) (r ix : Int32) (x : Nat) : mbx σ n r ix x ↔ mbxM μ n p r ix x := by
  have h24 := h.1.1.2.2
  constructor
  · rintro ⟨a, e, ha, hx, h1, h2⟩
    have h3 := (h.hdn a ha.1).mp ha
    rw [h.g2 ha.1] at h1 h2
    exact ⟨a, e, h3.1, h3.2, hx, (h.mb _ x hx).mp h1, by rw [h2]; congr 1; exact cq_cong (fun y hy => h.mb _ y (by omega))⟩
  · rintro ⟨a, e, ha, h6, hx, h1, h2⟩
    have h3 := (h.hdn a ha).mpr ⟨ha, h6⟩
    rw [← h.g2 ha] at h1 h2
    exact ⟨a, e, h3, hx, (h.mb _ x hx).mpr h1, by rw [h2]; congr 1; exact (cq_cong (fun y hy => h.mb _ y (by omega))).symm⟩
theorem Cpl.ftx (h : Cpl σ μ n m p d L sn) (r f : Int32) (x : Nat) : ftx σ n r f x ↔ ftM μ n p r f x := by
  constructor
  · rintro ⟨a, i, e1, e2, ha, hi, hx, h1⟩
    have h3 := (h.hdn a ha.1).mp ha
    rw [h.g2 ha.1] at h1
    exact ⟨a, i, e1, e2, h3.1, h3.2, hi, hx, (h.tfq _ i x hi hx).mp h1⟩
  · rintro ⟨a, i, e1, e2, ha, h6, hi, hx, h1⟩
    rw [← h.g2 ha] at h1
    exact ⟨a, i, e1, e2, (h.hdn a ha).mpr ⟨ha, h6⟩, hi, hx, (h.tfq _ i x hi hx).mpr h1⟩
/-- the first fact's record is the same one -/
theorem Cpl.bsq (h : Cpl σ μ n m p d L sn) {r f : Int32} {i x j y : Nat} (h1 : bsx σ n r f i x) (h2 : bxM μ n p r f j y) : i = j ∧ x = y ∧ i < 3 ∧ x < n := by
  have h24 := h.1.1.2.2
  obtain ⟨a, e1, e2, ha, hi, hx, h3, h4⟩ := h1
  obtain ⟨b, e3, e4, hb, h6, hj, hy, h7, h8⟩ := h2
  have ha1 := ha.1
  have q1 := eq_of_nI (e1.symm.trans e3) (by omega) (by omega)
  have q2 := eq_of_nI (e2.symm.trans e4) (by omega) (by omega)
  subst q1; subst q2
  refine ⟨rfl, ?_, hi, hx⟩
  rw [h.g2 ha1] at h3 h4
  refine Classical.byContradiction fun hne => ?_
  have k1 := h4 y hy ((h.tfq _ i y hi hy).mpr h7) (fun e => hne e.symm)
  have k2 := h8 x hx ((h.tfq _ i x hi hx).mp h3) hne
  exact ah_asym k1 ((h.ahq y x).mpr k2)
theorem Cpl.pop (h : Cpl σ μ n m p d L sn) : popc (σ 1 6) = cq (fun r => μ 6 r = 0) n := by
  have h24 := h.1.1.2.2
  unfold popc
  have e : cq (fun i => tb (σ 1 6) i = true) 32 = cq (fun i => i < n ∧ μ 6 i = 0) 32 := cq_cong (fun r hr => h.2.2.2.2.2.2.1.1 r hr)
  rw [e]
  have ext : ∀ t, cq (fun i => i < n ∧ μ 6 i = 0) (n + t) = cq (fun i => i < n ∧ μ 6 i = 0) n := by
    intro t
    induction t with
    | zero => rfl
    | succ t ih => rw [show n + (t + 1) = (n + t) + 1 by omega, cq_f (P := fun i => i < n ∧ μ 6 i = 0) (fun q => by have := q.1; omega), ih]
  rw [show 32 = n + (32 - n) by omega, ext]
  exact cq_cong (fun r hr => ⟨fun q => q.2, fun q => ⟨hr, q⟩⟩)
theorem Cpl.prs (h : Cpl σ μ n m p d L sn) : sq (hd σ n) (fun r => popc (σ 13 r &&& σ 1 6)) n / 2 = cq (cpM μ) p := by
  have h24 := h.1.1.2.2
  have e1 : sq (hd σ n) (fun r => popc (σ 13 r &&& σ 1 6)) n = sq (hd σ n) (fun r => cq (fun y => (∃ i, i < p ∧ mtc μ r y i) ∧ hd σ n y) n) n := by
    refine sq_cong (fun _ _ => Iff.rfl) (fun r hr hl => ?_)
    unfold popc
    have e : cq (fun i => tb (σ 13 r &&& σ 1 6) i = true) 32 = cq (fun y => (∃ i, i < p ∧ mtc μ r y i) ∧ hd σ n y) 32 := by
      refine cq_cong (fun y hy => ?_)
      have e2 : tb (σ 13 r &&& σ 1 6) y = (tb (σ 13 r) y && tb (σ 1 6) y) := by
        unfold tb
        rw [Int32.toBitVec_and, BitVec.getLsbD_and]
      rw [e2, Bool.and_eq_true, h.2.2.2.2.2.2.2.1.2.2 r y (by omega) hy, h.2.2.2.2.2.2.1.1 y hy]
      constructor
      · rintro ⟨q1, q2⟩
        exact ⟨q1, (h.hdn y q2.1).mpr q2⟩
      · rintro ⟨q1, q2⟩
        exact ⟨q1, (h.hdn y q2.1).mp q2⟩
    rw [e]
    have ext : ∀ t, cq (fun y => (∃ i, i < p ∧ mtc μ r y i) ∧ hd σ n y) (n + t) = cq (fun y => (∃ i, i < p ∧ mtc μ r y i) ∧ hd σ n y) n := by
      intro t
      induction t with
      | zero => rfl
      | succ t ih => rw [show n + (t + 1) = (n + t) + 1 by omega, cq_f (P := fun y => (∃ i, i < p ∧ mtc μ r y i) ∧ hd σ n y) (fun q => by have := q.2.1; omega), ih]
    rw [show 32 = n + (32 - n) by omega, ext]
  rw [e1, dbl h24 p h.mQ h.2.2.2.2.2.2.2.1.2.1, Nat.mul_div_cancel_left _ (by omega)]
  refine cq_cong (fun i hi => ?_)
  obtain ⟨x, y, e7, e8, hx, hy, hxy⟩ := h.mQ i hi
  unfold cpM
  rw [e7, e8, nI_clamp (by omega), nI_clamp (by omega)]
  constructor
  · rintro ⟨a, b, ha, hb, q1, q2, l1, l2⟩
    rw [eq_of_nI q1 (by omega) (by omega), eq_of_nI q2 (by omega) (by omega)]
    exact ⟨((h.hdn a ha).mp l1).2, ((h.hdn b hb).mp l2).2⟩
  · rintro ⟨q1, q2⟩
    exact ⟨x, y, hx, hy, rfl, rfl, (h.hdn x hx).mpr ⟨hx, q1⟩, (h.hdn y hy).mpr ⟨hy, q2⟩⟩
end Q
theorem q_seen {σ μ σ1 μ1 : Sg} {n m p d L : Nat} {sn : Nat → Nat} (hC : Cpl σ μ n m p d L sn) {r : Int32} {k : Int32} {v w : Int32} (h1 : cres [eIO] (fun o σ1 => ∃ a, r = nI a ∧ hd σ n a ∧ σ = σ1 ∧ o = σ 4 a) (pT σ [(eIO, hdR σ n r)]) k v σ1) (h2 : (fun o μ1 => mTh μ μ1 [(1, rcM μ n r)] (∃ a, r = nI a ∧ a < n ∧ μ 6 a = 0 ∧ mS 0 μ μ1 ∧ o = μ 3 a)) w μ1) : agr k v w σ1 μ1 := by
  have h24 := hC.1.1.2.2
  refine agr_of hC h1 h2 ⟨by decide +kernel, hC.rc _, fun z0 => trivial⟩ (fun h => by obtain ⟨a, e, ha, _⟩ := h; exact ⟨⟨a, e, ha⟩, trivial⟩) (fun hp hF => ?_) (cdL_ne _ (by decide))
  obtain ⟨a, rfl, ha, rfl, rfl⟩ := hp
  obtain ⟨b, e, hb, h6, hS, rfl⟩ := hF
  have ha1 := ha.1
  have q1 := eq_of_nI e (by omega) (by omega)
  subst q1
  exact ⟨hS.1, fun _ => by rw [hC.2.2.2.1.1], _, _, _, _, _, _, hC.st (stb.rf _) hS.2⟩
theorem q_key {σ μ σ1 μ1 : Sg} {n m p d L : Nat} {sn : Nat → Nat} (hC : Cpl σ μ n m p d L sn) {r k9 : Int32} {k : Int32} {v w : Int32} (h1 : cres [eIO] (fun o σ1 => ∃ a i, r = nI a ∧ hd σ n a ∧ k9 = nI i ∧ i < 3 ∧ σ = σ1 ∧ o = σ (7 + i) a) (pT σ [(eIO, hdR σ n r), (eIO, nR 3 k9)]) k v σ1) (h2 : (fun o μ1 => mTh μ μ1 [(1, rcM μ n r), (1, nR 3 k9)] (∃ a i, r = nI a ∧ k9 = nI i ∧ a < n ∧ μ 6 a = 0 ∧ i < 3 ∧ mS 0 μ μ1 ∧ o = μ (11 + a) i)) w μ1) : agr k v w σ1 μ1 := by
  have h24 := hC.1.1.2.2
  refine agr_of hC h1 h2 ⟨by decide +kernel, hC.rc _, fun z0 => ⟨by decide +kernel, Iff.rfl, fun z1 => trivial⟩⟩ (fun h => by obtain ⟨a, i, e, ha, e2, hi, _⟩ := h; exact ⟨⟨a, e, ha⟩, ⟨i, e2, hi⟩, trivial⟩) (fun hp hF => ?_) (cdL_ne _ (by decide))
  obtain ⟨a, i, rfl, ha, rfl, hi, rfl, rfl⟩ := hp
  obtain ⟨b, j, e, e2, hb, h6, hj, hS, rfl⟩ := hF
  have ha1 := ha.1
  have q1 := eq_of_nI e (by omega) (by omega)
  subst q1
  have q2 := eq_of_nI e2 (by omega) (by omega)
  subst q2
  exact ⟨hS.1, fun _ => hC.2.2.2.2.1.1 i a hi (by omega), _, _, _, _, _, _, hC.st (stb.rf _) hS.2⟩
theorem q_thing {σ μ σ1 μ1 : Sg} {n m p d L : Nat} {sn : Nat → Nat} (hC : Cpl σ μ n m p d L sn) {r : Int32} {k : Int32} {v w : Int32} (h1 : cres [eIO] (fun v σ1 => ∃ a, r = nI a ∧ hd σ n a ∧ JD σ n σ1 ∧ v = nI (gC σ n 2 a)) (pT σ [(eIO, hdR σ n r)]) k v σ1) (h2 : (fun v μ1 => mTh μ μ1 [(1, rcM μ n r)] (∃ a, r = nI a ∧ a < n ∧ μ 6 a = 0 ∧ mS 0 μ μ1 ∧ fG μ n p ∧ v = nI (gM μ n p 2 a))) w μ1) : agr k v w σ1 μ1 := by
  have h24 := hC.1.1.2.2
  refine agr_of hC h1 h2 ⟨by decide +kernel, hC.rc _, fun z0 => trivial⟩ (fun h => by obtain ⟨a, e, ha, _⟩ := h; exact ⟨⟨a, e, ha⟩, trivial⟩) (fun hp hF => ?_) (cdL_ne _ (by decide))
  obtain ⟨a, rfl, ha, hJ, rfl⟩ := hp
  obtain ⟨b, e, hb, h6, hS, -, rfl⟩ := hF
  have ha1 := ha.1
  have q1 := eq_of_nI e (by omega) (by omega)
  subst q1
  exact ⟨hS.1, fun _ => by rw [hC.g2 ha1], _, _, _, _, _, _, hC.st hJ.1 hS.2⟩
theorem q_thingByRounds {σ μ σ1 μ1 : Sg} {n m p d L : Nat} {sn : Nat → Nat} (hC : Cpl σ μ n m p d L sn) {r : Int32} {k : Int32} {v w : Int32} (h1 : cres [eIO] (fun v σ1 => ∃ a, r = nI a ∧ hd σ n a ∧ stb σ σ1 ∧ v = nI (gC σ n 2 a)) (pT σ [(eIO, hdR σ n r)]) k v σ1) (h2 : (fun v μ1 => mTh μ μ1 [(1, rcM μ n r)] (∃ a, r = nI a ∧ a < n ∧ μ 6 a = 0 ∧ mS 0 μ μ1 ∧ fG μ n p ∧ v = nI (gM μ n p 2 a))) w μ1) : agr k v w σ1 μ1 := by
  have h24 := hC.1.1.2.2
  refine agr_of hC h1 h2 ⟨by decide +kernel, hC.rc _, fun z0 => trivial⟩ (fun h => by obtain ⟨a, e, ha, _⟩ := h; exact ⟨⟨a, e, ha⟩, trivial⟩) (fun hp hF => ?_) (cdL_ne _ (by decide))
  obtain ⟨a, rfl, ha, hJ, rfl⟩ := hp
  obtain ⟨b, e, hb, h6, hS, -, rfl⟩ := hF
  have ha1 := ha.1
  have q1 := eq_of_nI e (by omega) (by omega)
  subst q1
  exact ⟨hS.1, fun _ => by rw [hC.g2 ha1], _, _, _, _, _, _, hC.st hJ hS.2⟩
theorem q_size {σ μ σ1 μ1 : Sg} {n m p d L : Nat} {sn : Nat → Nat} (hC : Cpl σ μ n m p d L sn) {r : Int32} {k : Int32} {v w : Int32} (h1 : cres [eIO] (fun v σ1 => ∃ a, r = nI a ∧ hd σ n a ∧ JD σ n σ1 ∧ v = nI (cq (mbr σ n (gC σ n 2) (gC σ n 2 a)) n)) (pT σ [(eIO, hdR σ n r)]) k v σ1) (h2 : (szM μ n p r) w μ1) : agr k v w σ1 μ1 := by
  have h24 := hC.1.1.2.2
  refine agr_of hC h1 h2 ⟨by decide +kernel, hC.rc _, fun z0 => trivial⟩ (fun h => by obtain ⟨a, e, ha, _⟩ := h; exact ⟨⟨a, e, ha⟩, trivial⟩) (fun hp hF => ?_) (cdL_ne _ (by decide))
  obtain ⟨a, rfl, ha, hJ, rfl⟩ := hp
  obtain ⟨b, e, hb, h6, hS, -, rfl⟩ := hF
  have ha1 := ha.1
  have q1 := eq_of_nI e (by omega) (by omega)
  subst q1
  exact ⟨hS.1, fun _ => by rw [hC.g2 ha1, cq_cong (fun y hy => hC.mb _ y hy)], _, _, _, _, _, _, hC.st hJ.1 hS.2⟩
theorem q_member {σ μ σ1 μ1 : Sg} {n m p d L : Nat} {sn : Nat → Nat} (hC : Cpl σ μ n m p d L sn) {r ix : Int32} {k : Int32} {v w : Int32} (h1 : cres [eIO, eNS] (fun v σ1 => ∃ x, mbx σ n r ix x ∧ JD σ n σ1 ∧ v = nI x) (pT σ [(eIO, hdR σ n r), (eNS, ∃ x, mbx σ n r ix x)]) k v σ1) (h2 : (meM μ n p r ix) w μ1) : agr k v w σ1 μ1 := by
  have h24 := hC.1.1.2.2
  refine agr_of hC h1 h2 ⟨by decide +kernel, hC.rc _, fun z0 => ⟨by decide +kernel, exists_congr (fun x => hC.mbx r ix x), fun z1 => trivial⟩⟩ (fun h => by obtain ⟨x, hx, _⟩ := h; obtain ⟨a, e, ha, _⟩ := id hx; exact ⟨⟨a, e, ha⟩, ⟨x, hx⟩, trivial⟩) (fun hp hF => ?_) (cdL_ne _ (by decide))
  obtain ⟨x, hx, hJ, rfl⟩ := hp
  obtain ⟨y, hy, hS, -, rfl⟩ := hF
  have hy2 := (hC.mbx r ix y).mpr hy
  obtain ⟨a, e1, ha, hxn, hm1, hi1⟩ := hx
  obtain ⟨b, e2, hb, hyn, hm2, hi2⟩ := hy2
  have ha1 := ha.1
  have hb1 := hb.1
  have q1 := eq_of_nI (e1.symm.trans e2) (by omega) (by omega)
  subst q1
  have l1 := cq_le (mbr σ n (gC σ n 2) (gC σ n 2 a)) x
  have l2 := cq_le (mbr σ n (gC σ n 2) (gC σ n 2 a)) y
  have q2 := eq_of_nI (hi1.symm.trans hi2) (by omega) (by omega)
  have q3 : x = y := by
    rcases Nat.lt_trichotomy x y with h | h | h
    · have := cq_up h hm1; omega
    · exact h
    · have := cq_up h hm2; omega
  subst q3
  exact ⟨hS.1, fun _ => rfl, _, _, _, _, _, _, hC.st hJ.1 hS.2⟩
theorem q_areTogether {σ μ σ1 μ1 : Sg} {n m p d L : Nat} {sn : Nat → Nat} (hC : Cpl σ μ n m p d L sn) {r o : Int32} {k : Int32} {v w : Int32} (h1 : cres [eIO] (fun v σ1 => ∃ a b, r = nI a ∧ o = nI b ∧ hd σ n a ∧ hd σ n b ∧ JD σ n σ1 ∧ v = zp (gC σ n 2 a = gC σ n 2 b)) (pT σ [(eIO, hdR σ n r), (eIO, hdR σ n o)]) k v σ1) (h2 : (fun v μ1 => mTh μ μ1 [(1, rcM μ n r), (1, rcM μ n o)] (∃ a b, r = nI a ∧ o = nI b ∧ (a < n ∧ μ 6 a = 0) ∧ (b < n ∧ μ 6 b = 0) ∧ mS 0 μ μ1 ∧ fG μ n p ∧ v = zp (gM μ n p 2 a = gM μ n p 2 b))) w μ1) : agr k v w σ1 μ1 := by
  have h24 := hC.1.1.2.2
  refine agr_of hC h1 h2 ⟨by decide +kernel, hC.rc _, fun z0 => ⟨by decide +kernel, hC.rc _, fun z1 => trivial⟩⟩ (fun h => by obtain ⟨a, b, e1, e2, ha, hb, _⟩ := h; exact ⟨⟨a, e1, ha⟩, ⟨b, e2, hb⟩, trivial⟩) (fun hp hF => ?_) (cdL_ne _ (by decide))
  obtain ⟨a, b, rfl, rfl, ha, hb, hJ, rfl⟩ := hp
  obtain ⟨a2, b2, e1, e2, ha2, hb2, hS, -, rfl⟩ := hF
  have ha3 := ha2.1
  have hb3 := hb2.1
  have ha1 := ha.1
  have hb1 := hb.1
  have q1 := eq_of_nI e1 (by omega) (by omega)
  have q2 := eq_of_nI e2 (by omega) (by omega)
  subst q1; subst q2
  exact ⟨hS.1, fun _ => by rw [hC.g2 ha1, hC.g2 hb1], _, _, _, _, _, _, hC.st hJ.1 hS.2⟩
theorem Cpl.tg {σ μ : Sg} {n m p d L : Nat} {sn : Nat → Nat} (h : Cpl σ μ n m p d L sn) (r o : Int32) (k : Nat) (hr : hdR σ n r) (ho : hdR σ n o) : tgx σ n r o k ↔ tgM μ n p r o k := by
  have h24 := h.1.1.2.2
  have hk9 : ∀ g, k < 3 → chM μ n p (k + 1) g → ∀ x, x < n → gC σ n k x = g k x := by
    intro g hk hg x hx
    have hgC : chn n (hd σ n) (kyC σ) (fbC σ) (k + 1) (gC σ n) := by
      intro s hs
      have hq := gq_ok n (hd σ n) (kyC σ) (fbC σ)
      match s, hs with
      | 0, _ => exact hq.1
      | 1, _ => exact hq.2.1
      | 2, _ => exact hq.2.2
      | s + 3, hs => omega
    exact chn_uniq hgC hg h.lv (fun s r q hr => h.ky s r (by omega) hr) (fun a b ha hb _ _ => h.fb a b ha hb) k (by omega) x hx
  constructor
  · rintro ⟨a, b, e1, e2, ha, hb, hk, he⟩
    have hgM : chM μ n p (k + 1) (gM μ n p) := by
      intro s hs
      have hq := gq_ok n (lvM μ n) (kyM μ) (fbM μ p)
      match s, hs with
      | 0, _ => exact hq.1
      | 1, _ => exact hq.2.1
      | 2, _ => exact hq.2.2
      | s + 3, hs => omega
    exact ⟨a, b, gM μ n p, e1, e2, ha.1, hb.1, hk, hgM, by rw [← hk9 _ hk hgM a ha.1, ← hk9 _ hk hgM b hb.1]; exact he⟩
  · rintro ⟨a, b, g, e1, e2, ha, hb, hk, hg, he⟩
    obtain ⟨a2, e3, ha2⟩ := hr
    obtain ⟨b2, e4, hb2⟩ := ho
    have ha3 := ha2.1
    have hb3 := hb2.1
    have q1 := eq_of_nI (e1.symm.trans e3) (by omega) (by omega)
    have q2 := eq_of_nI (e2.symm.trans e4) (by omega) (by omega)
    subst q1; subst q2
    exact ⟨a, b, e1, e2, ha2, hb2, hk, by rw [hk9 g hk hg a ha, hk9 g hk hg b hb]; exact he⟩
theorem q_step {σ μ σ1 μ1 : Sg} {n m p d L : Nat} {sn : Nat → Nat} (hC : Cpl σ μ n m p d L sn) {r o : Int32} {k : Int32} {v w : Int32} (h1 : cres [eIO, eIA, eNS] (fun v σ1 => ∃ k, r ≠ o ∧ tgx σ n r o k ∧ (∀ s, s < k → ¬ tgx σ n r o s) ∧ JD σ n σ1 ∧ v = nI k) (pT σ [(eIO, hdR σ n r), (eIO, hdR σ n o), (eIA, r ≠ o), (eNS, ∃ k, tgx σ n r o k)]) k v σ1) (h2 : (stP μ n p r o) w μ1) : agr k v w σ1 μ1 := by
  have h24 := hC.1.1.2.2
  refine agr_of hC h1 h2 ⟨by decide +kernel, hC.rc _, fun z0 => ⟨by decide +kernel, hC.rc _, fun z1 => ⟨by decide +kernel, Iff.rfl, fun z2 => ⟨by decide +kernel, exists_congr (fun k => hC.tg r o k z0 z1), fun z3 => trivial⟩⟩⟩⟩ (fun h => by obtain ⟨k, hne, ht, _⟩ := h; obtain ⟨a, b, e1, e2, ha, hb, _⟩ := id ht; exact ⟨⟨a, e1, ha⟩, ⟨b, e2, hb⟩, hne, ⟨k, ht⟩, trivial⟩) (fun hp hF => ?_) (cdL_ne _ (by decide))
  obtain ⟨k, hne, ht, hs, hJ, rfl⟩ := hp
  obtain ⟨j, ht2, hs2, hS, rfl⟩ := hF
  obtain ⟨a, b, e1, e2, ha, hb, hk, hq⟩ := id ht
  have hra : hdR σ n r := ⟨a, e1, ha⟩
  have hrb : hdR σ n o := ⟨b, e2, hb⟩
  have q3 : k = j := by
    rcases Nat.lt_trichotomy k j with h | h | h
    · exact absurd ((hC.tg r o k hra hrb).mp ht) (hs2 k h)
    · exact h
    · exact absurd ((hC.tg r o j hra hrb).mpr ht2) (hs j h)
  subst q3
  exact ⟨hS.1, fun _ => rfl, _, _, _, _, _, _, hC.st hJ.1 hS.2⟩
theorem q_weight {σ μ σ1 μ1 : Sg} {n m p d L : Nat} {sn : Nat → Nat} (hC : Cpl σ μ n m p d L sn) {r : Int32} {k : Int32} {v w : Int32} (h1 : cres [eIO] (fun v σ1 => ∃ a, r = nI a ∧ hd σ n a ∧ σ = σ1 ∧ v = wg σ a (σ 0 4)) (pT σ [(eIO, hdR σ n r)]) k v σ1) (h2 : (fun v μ1 => mTh μ μ1 [(1, rcM μ n r)] (∃ a, r = nI a ∧ a < n ∧ μ 6 a = 0 ∧ mS 0 μ μ1 ∧ v = wg (enM μ) a (μ 0 12))) w μ1) : agr k v w σ1 μ1 := by
  have h24 := hC.1.1.2.2
  refine agr_of hC h1 h2 ⟨by decide +kernel, hC.rc _, fun z0 => trivial⟩ (fun h => by obtain ⟨a, e, ha, _⟩ := h; exact ⟨⟨a, e, ha⟩, trivial⟩) (fun hp hF => ?_) (cdL_ne _ (by decide))
  obtain ⟨a, rfl, ha, rfl, rfl⟩ := hp
  obtain ⟨b, e, hb, h6, hS, rfl⟩ := hF
  have ha1 := ha.1
  have q1 := eq_of_nI e (by omega) (by omega)
  subst q1
  refine ⟨hS.1, fun _ => ?_, _, _, _, _, _, _, hC.st (stb.rf _) hS.2⟩
  unfold wg
  rw [hC.2.1, hC.2.2.1.1, hC.2.2.2.1.1, hC.1.2.2.2.1.1, hC.1.2.2.2.1.2.1]
  rfl
theorem q_fact {σ μ σ1 μ1 : Sg} {n m p d L : Nat} {sn : Nat → Nat} (hC : Cpl σ μ n m p d L sn) {r f : Int32} {k : Int32} {v w : Int32} (h1 : cres [eIO, eNS] (fun v σ1 => ∃ i x, bsx σ n r f i x ∧ stb σ σ1 ∧ v = σ (10 + i) x) (pT σ [(eIO, hdR σ n r), (eIO, nR 3 f), (eNS, ∃ x, ftx σ n r f x)]) k v σ1) (h2 : (fun v μ1 => mTh μ μ1 [(1, rcM μ n r), (1, nR 3 f), (2, ∃ x, ftM μ n p r f x)] (∃ i x, bxM μ n p r f i x ∧ fG μ n p ∧ mS 0 μ μ1 ∧ v = μ (35 + x) i)) w μ1) : agr k v w σ1 μ1 := by
  have h24 := hC.1.1.2.2
  refine agr_of hC h1 h2 ⟨by decide +kernel, hC.rc _, fun z0 => ⟨by decide +kernel, Iff.rfl, fun z1 => ⟨by decide +kernel, exists_congr (fun x => hC.ftx r f x), fun z2 => trivial⟩⟩⟩ (fun h => by obtain ⟨i, x, hx, _⟩ := h; obtain ⟨a, e1, e2, ha, hi, hxn, hb, _⟩ := id hx; exact ⟨⟨a, e1, ha⟩, ⟨i, e2, hi⟩, ⟨x, a, i, e1, e2, ha, hi, hxn, hb⟩, trivial⟩) (fun hp hF => ?_) (cdL_ne _ (by decide))
  obtain ⟨i, x, hx, hst, rfl⟩ := hp
  obtain ⟨j, y, hy, -, hS, rfl⟩ := hF
  obtain ⟨q1, q2, hi, hxn⟩ := hC.bsq hx hy
  subst q1; subst q2
  exact ⟨hS.1, fun _ => hC.2.2.2.2.2.1 i x hi (by omega), _, _, _, _, _, _, hC.st hst hS.2⟩
theorem q_factByPairs {σ μ σ1 μ1 : Sg} {n m p d L : Nat} {sn : Nat → Nat} (hC : Cpl σ μ n m p d L sn) {r f : Int32} {k : Int32} {v w : Int32} (h1 : cres [eIO, eNS] (fun v σ1 => ∃ i x, bsx σ n r f i x ∧ stb σ σ1 ∧ v = σ (10 + i) x) (pT σ [(eIO, hdR σ n r), (eIO, nR 3 f), (eNS, ∃ x, ftx σ n r f x)]) k v σ1) (h2 : (fun v μ1 => mTh μ μ1 [(1, rcM μ n r), (1, nR 3 f), (2, ∃ x, ftM μ n p r f x)] (∃ i x, bxM μ n p r f i x ∧ fG μ n p ∧ mS 0 μ μ1 ∧ v = μ (35 + x) i)) w μ1) : agr k v w σ1 μ1 := by
  have h24 := hC.1.1.2.2
  refine agr_of hC h1 h2 ⟨by decide +kernel, hC.rc _, fun z0 => ⟨by decide +kernel, Iff.rfl, fun z1 => ⟨by decide +kernel, exists_congr (fun x => hC.ftx r f x), fun z2 => trivial⟩⟩⟩ (fun h => by obtain ⟨i, x, hx, _⟩ := h; obtain ⟨a, e1, e2, ha, hi, hxn, hb, _⟩ := id hx; exact ⟨⟨a, e1, ha⟩, ⟨i, e2, hi⟩, ⟨x, a, i, e1, e2, ha, hi, hxn, hb⟩, trivial⟩) (fun hp hF => ?_) (cdL_ne _ (by decide))
  obtain ⟨i, x, hx, hst, rfl⟩ := hp
  obtain ⟨j, y, hy, -, hS, rfl⟩ := hF
  obtain ⟨q1, q2, hi, hxn⟩ := hC.bsq hx hy
  subst q1; subst q2
  exact ⟨hS.1, fun _ => hC.2.2.2.2.2.1 i x hi (by omega), _, _, _, _, _, _, hC.st hst hS.2⟩
theorem q_factFrom {σ μ σ1 μ1 : Sg} {n m p d L : Nat} {sn : Nat → Nat} (hC : Cpl σ μ n m p d L sn) {r f : Int32} {k : Int32} {v w : Int32} (h1 : cres [eIO, eNS] (fun v σ1 => ∃ i x, bsx σ n r f i x ∧ stb σ σ1 ∧ v = nI x) (pT σ [(eIO, hdR σ n r), (eIO, nR 3 f), (eNS, ∃ x, ftx σ n r f x)]) k v σ1) (h2 : (fun v μ1 => mTh μ μ1 [(1, rcM μ n r), (1, nR 3 f), (2, ∃ x, ftM μ n p r f x)] (∃ i x, bxM μ n p r f i x ∧ fG μ n p ∧ mS 0 μ μ1 ∧ v = nI x)) w μ1) : agr k v w σ1 μ1 := by
  have h24 := hC.1.1.2.2
  refine agr_of hC h1 h2 ⟨by decide +kernel, hC.rc _, fun z0 => ⟨by decide +kernel, Iff.rfl, fun z1 => ⟨by decide +kernel, exists_congr (fun x => hC.ftx r f x), fun z2 => trivial⟩⟩⟩ (fun h => by obtain ⟨i, x, hx, _⟩ := h; obtain ⟨a, e1, e2, ha, hi, hxn, hb, _⟩ := id hx; exact ⟨⟨a, e1, ha⟩, ⟨i, e2, hi⟩, ⟨x, a, i, e1, e2, ha, hi, hxn, hb⟩, trivial⟩) (fun hp hF => ?_) (cdL_ne _ (by decide))
  obtain ⟨i, x, hx, hst, rfl⟩ := hp
  obtain ⟨j, y, hy, -, hS, rfl⟩ := hF
  obtain ⟨q1, q2, hi, hxn⟩ := hC.bsq hx hy
  subst q1; subst q2
  exact ⟨hS.1, fun _ => rfl, _, _, _, _, _, _, hC.st hst hS.2⟩
theorem q_agreement {σ μ σ1 μ1 : Sg} {n m p d L : Nat} {sn : Nat → Nat} (hC : Cpl σ μ n m p d L sn) {r f : Int32} {k : Int32} {v w : UInt32} (h1 : cres [eIO, eNS] (agP σ n r f) (pT σ [(eIO, hdR σ n r), (eIO, nR 3 f), (eNS, ∃ x, ftx σ n r f x)]) k v σ1) (h2 : (agM μ n p r f) w μ1) : agr k v w σ1 μ1 := by
  have h24 := hC.1.1.2.2
  refine agr_of hC h1 h2 ⟨by decide +kernel, hC.rc _, fun z0 => ⟨by decide +kernel, Iff.rfl, fun z1 => ⟨by decide +kernel, exists_congr (fun x => hC.ftx r f x), fun z2 => trivial⟩⟩⟩ (fun h => by obtain ⟨a, i, x, hx, _⟩ := h; obtain ⟨a, e1, e2, ha, hi, hxn, hb, _⟩ := id hx; exact ⟨⟨a, e1, ha⟩, ⟨i, e2, hi⟩, ⟨x, a, i, e1, e2, ha, hi, hxn, hb⟩, trivial⟩) (fun hp hF => ?_) (cdL_ne _ (by decide))
  obtain ⟨a, i, x, hx, ⟨e1, ha1⟩, hst, rfl⟩ := hp
  obtain ⟨b, j, y, hy, ⟨e2, hb1⟩, -, hS, rfl⟩ := hF
  obtain ⟨q1, q2, hi, hxn⟩ := hC.bsq hx hy
  subst q1; subst q2
  have q3 := eq_of_nI (e1.symm.trans e2) (by omega) (by omega)
  subst q3
  have t1 : ∀ y, y < n → (tf σ n (gC σ n 2) (gC σ n 2 a) i y ↔ tfM μ n (gM μ n p 2) (gM μ n p 2 a) i y) := fun y hy => by rw [hC.g2 ha1]; exact hC.tfq _ i y hi hy
  have t2 : ∀ y, y < n → ((tf σ n (gC σ n 2) (gC σ n 2 a) i y ∧ σ (10 + i) y = σ (10 + i) x) ↔ (tfM μ n (gM μ n p 2) (gM μ n p 2 a) i y ∧ μ (35 + y) i = μ (35 + x) i)) := fun y hy => by rw [t1 y hy, hC.2.2.2.2.2.1 i y hi (by omega), hC.2.2.2.2.2.1 i x hi (by omega)]
  exact ⟨hS.1, fun _ => by rw [cq_cong t1, cq_cong t2], _, _, _, _, _, _, hC.st hst hS.2⟩
theorem q_isGhost {σ μ σ1 μ1 : Sg} {n m p d L : Nat} {sn : Nat → Nat} (hC : Cpl σ μ n m p d L sn) {r : Int32} {k : Int32} {v w : Int32} (h1 : cres [eIO] (fun v σ1 => ∃ a, r = nI a ∧ hd σ n a ∧ JD σ n σ1 ∧ v = zp (gho σ n (gC σ n 2) sn L d (gC σ n 2 a))) (pT σ [(eIO, hdR σ n r)]) k v σ1) (h2 : (fun v μ1 => mTh μ μ1 [(1, rcM μ n r)] (∃ a, r = nI a ∧ a < n ∧ μ 6 a = 0 ∧ mS 0 μ μ1 ∧ fG μ n p ∧ v = zp (ghM μ n (gM μ n p 2) sn L d ((gM μ n p 2) a)))) w μ1) : agr k v w σ1 μ1 := by
  have h24 := hC.1.1.2.2
  refine agr_of hC h1 h2 ⟨by decide +kernel, hC.rc _, fun z0 => trivial⟩ (fun h => by obtain ⟨a, e, ha, _⟩ := h; exact ⟨⟨a, e, ha⟩, trivial⟩) (fun hp hF => ?_) (cdL_ne _ (by decide))
  obtain ⟨a, rfl, ha, hJ, rfl⟩ := hp
  obtain ⟨b, e, hb, h6, hS, -, rfl⟩ := hF
  have ha1 := ha.1
  have q1 := eq_of_nI e (by omega) (by omega)
  subst q1
  refine ⟨hS.1, fun _ => ?_, _, _, _, _, _, _, hC.st hJ.1 hS.2⟩
  unfold gho ghM
  rw [hC.ls, hC.g2 ha1]
theorem q_records {σ μ σ1 μ1 : Sg} {n m p d L : Nat} {sn : Nat → Nat} (hC : Cpl σ μ n m p d L sn)  {v w : Int32} (hp : (pP σ (nI (popc (σ 1 6)))) v σ1) (hF : (fun o μ1 => mS 0 μ μ1 ∧ o = nI (cq (fun r => μ 6 r = 0) n)) w μ1) : v = w ∧ CP σ1 μ1 := by
  have h24 := hC.1.1.2.2
  obtain ⟨rfl, rfl⟩ := hp
  obtain ⟨hS, rfl⟩ := hF
  exact ⟨by rw [hC.pop], _, _, _, _, _, _, hC.st (stb.rf _) hS.2⟩
theorem q_things {σ μ σ1 μ1 : Sg} {n m p d L : Nat} {sn : Nat → Nat} (hC : Cpl σ μ n m p d L sn)  {v w : Int32} (hp : (fun v σ1 => JD σ n σ1 ∧ v = nI (cq (fun h => mbr σ n (gC σ n 2) h h) n)) v σ1) (hF : (fun v μ1 => mS 0 μ μ1 ∧ fG μ n p ∧ v = nI (cq (fun h => mbM μ n (gM μ n p 2) h h) n)) w μ1) : v = w ∧ CP σ1 μ1 := by
  have h24 := hC.1.1.2.2
  obtain ⟨hJ, rfl⟩ := hp
  obtain ⟨hS, -, rfl⟩ := hF
  exact ⟨by congr 1; exact cq_cong (fun r hr => hC.mb r r hr), _, _, _, _, _, _, hC.st hJ.1 hS.2⟩
theorem q_ghosts {σ μ σ1 μ1 : Sg} {n m p d L : Nat} {sn : Nat → Nat} (hC : Cpl σ μ n m p d L sn)  {v w : Int32} (hp : (fun v σ1 => JD σ n σ1 ∧ v = nI (cq (fun h => mbr σ n (gC σ n 2) h h ∧ gho σ n (gC σ n 2) sn L d h) n)) v σ1) (hF : (fun v μ1 => mS 0 μ μ1 ∧ fG μ n p ∧ v = nI (cq (fun h => mbM μ n (gM μ n p 2) h h ∧ ghM μ n (gM μ n p 2) sn L d h) n)) w μ1) : v = w ∧ CP σ1 μ1 := by
  have h24 := hC.1.1.2.2
  obtain ⟨hJ, rfl⟩ := hp
  obtain ⟨hS, -, rfl⟩ := hF
  refine ⟨?_, _, _, _, _, _, _, hC.st hJ.1 hS.2⟩
  congr 1
  refine cq_cong (fun r hr => ?_)
  unfold gho ghM
  rw [hC.mb r r hr, hC.ls]
theorem q_today {σ μ σ1 μ1 : Sg} {n m p d L : Nat} {sn : Nat → Nat} (hC : Cpl σ μ n m p d L sn)  {v w : Int32} (hp : (pP σ (σ 0 4)) v σ1) (hF : (fun v μ1 => mS 0 μ μ1 ∧ v = μ 0 12) w μ1) : v = w ∧ CP σ1 μ1 := by
  have h24 := hC.1.1.2.2
  obtain ⟨rfl, rfl⟩ := hp
  obtain ⟨hS, rfl⟩ := hF
  exact ⟨by rw [hC.1.2.2.2.1.1, hC.1.2.2.2.1.2.1], _, _, _, _, _, _, hC.st (stb.rf _) hS.2⟩
theorem NGq_one {T T' : Nat → Prop} {ls ls' : Nat → Nat} {d L n : Nat} {v w : Int32} (hT : ∀ r, r < n → (T r ↔ T' r)) (hl : ∀ r, r < n → ls r = ls' r) (h1 : NGq T ls d L n v) (h2 : NGq T' ls' d L n w) : v = w := by
  rcases h1 with ⟨e1, h1⟩ | ⟨t, e1, ht, hd, ⟨x, hx, hx1, hx2⟩, hm⟩
  · rcases h2 with ⟨e2, -⟩ | ⟨u, e2, hu, hd2, ⟨y, hy, hy1, hy2⟩, -⟩
    · rw [e1, e2]
    · exact absurd ⟨by rw [hl y hy]; omega, by rw [hl y hy]; omega⟩ (h1 y hy ((hT y hy).mpr hy1))
  · rcases h2 with ⟨e2, h2⟩ | ⟨u, e2, hu, hd2, ⟨y, hy, hy1, hy2⟩, hm2⟩
    · exact absurd ⟨by rw [← hl x hx]; omega, by rw [← hl x hx]; omega⟩ (h2 x hx ((hT x hx).mp hx1))
    · have k1 := hm y hy ((hT y hy).mpr hy1) (by rw [hl y hy]; omega)
      have k2 := hm2 x hx ((hT x hx).mp hx1) (by rw [← hl x hx]; omega)
      rw [hl y hy] at k1
      rw [← hl x hx] at k2
      rw [e1, e2, show t = u by omega]
theorem q_nextGhost {σ μ σ1 μ1 : Sg} {n m p d L : Nat} {sn : Nat → Nat} (hC : Cpl σ μ n m p d L sn)  {v w : Int32} (hp : (fun v σ1 => JD σ n σ1 ∧ NG σ n (gC σ n 2) sn d L n v) v σ1) (hF : (fun v μ1 => mS 0 μ μ1 ∧ fG μ n p ∧ NGq (fun h => mbM μ n (gM μ n p 2) h h) (lsM μ n (gM μ n p 2) sn) d L n v) w μ1) : v = w ∧ CP σ1 μ1 := by
  have h24 := hC.1.1.2.2
  obtain ⟨hJ, hN⟩ := hp
  obtain ⟨hS, -, hN2⟩ := hF
  exact ⟨NGq_one (T := fun h => mbr σ n (gC σ n 2) h h) (ls := lst σ n (gC σ n 2) sn) (fun r hr => hC.mb r r hr) (fun r _ => hC.ls r) hN hN2, _, _, _, _, _, _, hC.st hJ.1 hS.2⟩
theorem q_nextGhostByDays {σ μ σ1 μ1 : Sg} {n m p d L : Nat} {sn : Nat → Nat} (hC : Cpl σ μ n m p d L sn)  {v w : Int32} (hp : (fun v σ1 => JD σ n σ1 ∧ NG σ n (gC σ n 2) sn d L n v) v σ1) (hF : (fun v μ1 => mS 0 μ μ1 ∧ fG μ n p ∧ NGq (fun h => mbM μ n (gM μ n p 2) h h) (lsM μ n (gM μ n p 2) sn) d L n v) w μ1) : v = w ∧ CP σ1 μ1 := by
  have h24 := hC.1.1.2.2
  obtain ⟨hJ, hN⟩ := hp
  obtain ⟨hS, -, hN2⟩ := hF
  exact ⟨NGq_one (T := fun h => mbr σ n (gC σ n 2) h h) (ls := lst σ n (gC σ n 2) sn) (fun r hr => hC.mb r r hr) (fun r _ => hC.ls r) hN hN2, _, _, _, _, _, _, hC.st hJ.1 hS.2⟩
theorem q_mark {σ μ σ1 μ1 : Sg} {n m p d L : Nat} {sn : Nat → Nat} (hC : Cpl σ μ n m p d L sn)  {v w : Int64} (hp : (fun v σ1 => JD σ n σ1 ∧ v = lN (sq (fun h => mbr σ n (gC σ n 2) h h) (fun h => cq (mbr σ n (gC σ n 2) h) n * cq (mbr σ n (gC σ n 2) h) n * sq (mbr σ n (gC σ n 2) h) (fun r => r) n + 1) n)) v σ1) (hF : (fun v μ1 => mS 0 μ μ1 ∧ fG μ n p ∧ v = lN (sq (fun h => cq (mbM μ n (gM μ n p 2) h) n ≠ 0) (fun h => cq (mbM μ n (gM μ n p 2) h) n * cq (mbM μ n (gM μ n p 2) h) n * sq (mbM μ n (gM μ n p 2) h) (fun r => r) n + 1) n)) w μ1) : v = w ∧ CP σ1 μ1 := by
  have h24 := hC.1.1.2.2
  obtain ⟨hJ, rfl⟩ := hp
  obtain ⟨hS, -, rfl⟩ := hF
  refine ⟨?_, _, _, _, _, _, _, hC.st hJ.1 hS.2⟩
  congr 1
  have e1 : ∀ h, cq (mbr σ n (gC σ n 2) h) n = cq (mbM μ n (gM μ n p 2) h) n := fun h => cq_cong (fun r hr => hC.mb h r hr)
  have e2 : ∀ h, sq (mbr σ n (gC σ n 2) h) (fun r => r) n = sq (mbM μ n (gM μ n p 2) h) (fun r => r) n := fun h => sq_cong (fun r hr => hC.mb h r hr) (fun _ _ _ => rfl)
  refine sq_cong (fun h hh => ?_) (fun h hh _ => by rw [e1, e2])
  rw [← e1]
  constructor
  · intro q e
    have := cq_up (P := mbr σ n (gC σ n 2) h) hh q
    omega
  · intro q
    refine Classical.byContradiction fun hne => q (cq_none (fun r hr hm => hne ?_))
    have hl := hC.li r hr
    obtain ⟨hm1, hm2⟩ := hm
    refine ⟨by rw [← hm2]; exact hl.2.2.1 hm1, by rw [← hm2]; exact hl.2.1⟩
