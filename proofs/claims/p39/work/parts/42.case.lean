/-! WHAT EACH STEP LEAVES, and what the numbers told ahead are worth -/
theorem exq_code {α : Type} {ec : List (String × α)} {LX : List (String × Prop)} {v : α} {Q : α → Prop} (h : exq ec LX v) (hk : ∀ q ∈ ec, Q q.2) : Q v := by
  obtain ⟨E, -, h2⟩ := h
  exact hk _ h2
theorem exq_ei {α : Type} {ec : List (String × α)} {E : String} {P : Prop} {LX : List (String × Prop)} {v c : α} (h : exq ec ((E, P) :: LX) v) (hk : ∀ q ∈ ec, q.1 = E → q.2 = c) : (¬ P ∧ v = c) ∨ (P ∧ exq ec LX v) := by
  obtain ⟨F, h1, h2⟩ := h
  rcases h1 with ⟨rfl, h3⟩ | ⟨h3, h4⟩
  · exact Or.inl ⟨h3, hk _ h2 rfl⟩
  · exact Or.inr ⟨h3, F, h4, h2⟩
theorem exq_no {α : Type} {ec : List (String × α)} {E : String} {P : Prop} {LX : List (String × Prop)} {v c : α} (h : exq ec ((E, P) :: LX) v) (hk : ∀ q ∈ ec, q.1 = E → q.2 = c) (hn : ¬ P) : v = c := (exq_ei h hk).elim (fun q => q.2) (fun q => absurd q.1 hn)
theorem exq_ys {α : Type} {ec : List (String × α)} {E : String} {P : Prop} {LX : List (String × Prop)} {v : α} (h : exq ec ((E, P) :: LX) v) (hp : P) : exq ec LX v := by
  obtain ⟨F, h1, h2⟩ := h
  rcases h1 with ⟨rfl, h3⟩ | ⟨h3, h4⟩
  · exact absurd hp h3
  · exact ⟨F, h4, h2⟩
theorem exq_nil {α : Type} {ec : List (String × α)} {v : α} (h : exq ec [] v) : False := h.elim fun _ q => q.1
theorem lt_m1000 {v : Int32} (h : v < -1000) : v < 0 := Int32.lt_trans h (by decide)
theorem nI_nm {x : Nat} (h : x < 2 ^ 31) : ¬ nI x < -1000 := fun q => nI_pos h (lt_m1000 q)
theorem rg_nm {v : Int32} {c : Int32} (h : rg v (-1) c) : ¬ v < -1000 := fun q => h.1 (Int32.lt_trans q (by decide))
theorem stb_zu {σ τ : Sg} (h : stb σ τ) (a b : Nat) (x : Int32) : stb (zu σ a b x) (zu τ a b x) := fun c hc => by
  funext e
  unfold zu
  rw [h c hc]
theorem stb_up {σ τ : Sg} (h : stb σ τ) (a b : Nat) : stb (upM σ a b) (upM τ a b) := fun c hc => by
  by_cases e : c = 13
  · subst e
    funext d
    unfold upM zu
    rw [h 13 hc]
  · rw [upM_o _ _ _ e, upM_o _ _ _ e, h c hc]
theorem THs_p {ρ : Sg} {n : Nat} {x : Int32} : THs (zu ρ 1 9 x) n = THs ρ n := by
  have e1 : hd (zu ρ 1 9 x) n = hd ρ n := rfl
  have e2 : kyC (zu ρ 1 9 x) = kyC ρ := by
    funext s r
    show zu ρ 1 9 x (7 + s) r = ρ (7 + s) r
    rw [zu_ne _ _ _ (by omega)]
  have e3 : fbC (zu ρ 1 9 x) = fbC ρ := rfl
  have e4 : gC (zu ρ 1 9 x) n = gC ρ n := by unfold gC; rw [e1, e2, e3]
  funext h
  unfold THs mbr
  rw [e4, e1]
section V
variable {σ τ σ1 : Sg} {n m p d L : Nat} {sn : Nat → Nat} {v u : Int32}
theorem v_src (hC : CI σ n m p d L sn) {t : Int32} (ht : rg t 1 9) (h : (rg t 1 9 ∧ m < 4 ∧ zu (zu σ 2 m t) 1 7 (nI (m + 1)) = σ1 ∧ v = nI m) ∨ (stb σ σ1 ∧ exq [(eIO, (-1001 : Int32)), (eIA, (-1002 : Int32)), (eIS, (-1003 : Int32))] [(eIA, rg t 1 9), (eIS, m < 4)] v)) : ∃ m', CI σ1 n m' p d L sn ∧ 1 ≤ m' ∧ ((v < 0 ∧ m' = m ∧ stb σ σ1) ∨ (¬ v < 0 ∧ m' = m + 1)) := by
  rcases h with ⟨-, h4, rfl, rfl⟩ | ⟨h1, h2⟩
  · exact ⟨m + 1, v_addSource hC h4 t, by omega, Or.inr ⟨nI_pos (by omega), rfl⟩⟩
  · have h3 := exq_code (Q := fun x => x < (0 : Int32)) h2 (by decide)
    have h5 := exq_ys h2 ht
    have h6 : ¬ m < 4 := (exq_ei (c := -1003) h5 (by decide)).elim (fun q => q.1) (fun q => (exq_nil q.2).elim)
    exact ⟨m, hC.st h1, by omega, Or.inl ⟨h3, rfl, h1⟩⟩
theorem v_rec (hC : CI σ n m p d L sn) {s k0 k1 k2 : Int32} {LX : List (String × Prop)} (h : (nR m s ∧ (rg k0 (-1) 99 ∧ rg k1 (-1) 99 ∧ rg k2 (-1) 99) ∧ n < 24 ∧ zu (zu (zu (zu (zu (prM σ n s (σ 0 4) 3) 1 8 (nI (n + 1))) 1 6 (σ 1 6 ||| ((1 : Int32) <<< (nI n &&& 31)))) 7 n k0) 8 n k1) 9 n k2 = σ1 ∧ v = nI n) ∨ (stb σ σ1 ∧ exq [(eIO, (-1001 : Int32)), (eIA, (-1002 : Int32)), (eIS, (-1003 : Int32))] LX v)) : ∃ n' sn', CI σ1 n' m p d L sn' ∧ ((v < 0 ∧ n' = n ∧ stb σ σ1) ∨ (¬ v < 0 ∧ n' = n + 1)) := by
  rcases h with ⟨⟨i, rfl, hi⟩, ⟨q0, q1, q2⟩, hn, rfl, rfl⟩ | ⟨h1, h2⟩
  · exact ⟨n + 1, _, v_addRecord hC hn hi q0 q1 q2, Or.inr ⟨nI_pos (by omega), rfl⟩⟩
  · exact ⟨n, sn, hC.st h1, Or.inl ⟨exq_code (Q := fun x => x < (0 : Int32)) h2 (by decide), rfl, h1⟩⟩
theorem v_key (hC : CI σ n m p d L sn) {r k w : Int32} {LX : List (String × Prop)} (h : (rg w (-1) 99 ∧ ∃ a i, r = nI a ∧ hd σ n a ∧ k = nI i ∧ i < 3 ∧ zu σ (7 + i) a w = σ1 ∧ v = σ (7 + i) a) ∨ (stb σ σ1 ∧ exq [(eIO, (-1001 : Int32)), (eIA, (-1002 : Int32))] LX v)) : CI σ1 n m p d L sn ∧ (v < -1000 → stb σ σ1) := by
  rcases h with ⟨hw, a, i, -, h2, -, hi, rfl, rfl⟩ | ⟨h1, -⟩
  · exact ⟨v_setKey hC hi hw, fun q => absurd q (rg_nm (hC.2.2.2.2.2.1 i a hi h2.1))⟩
  · exact ⟨hC.st h1, fun _ => h1⟩
theorem v_fct (hC : CI σ n m p d L sn) {r k w : Int32} {LX : List (String × Prop)} (h : (rg w (-1) 999 ∧ ∃ a i, r = nI a ∧ hd σ n a ∧ k = nI i ∧ i < 3 ∧ zu σ (10 + i) a w = σ1 ∧ v = σ (10 + i) a) ∨ (stb σ σ1 ∧ exq [(eIO, (-1001 : Int32)), (eIA, (-1002 : Int32))] LX v)) : CI σ1 n m p d L sn ∧ (v < -1000 → stb σ σ1) := by
  rcases h with ⟨hw, a, i, -, h2, -, hi, rfl, rfl⟩ | ⟨h1, -⟩
  · exact ⟨v_setFact hC hi hw, fun q => absurd q (rg_nm (hC.2.2.2.2.2.2.1 i a hi h2.1))⟩
  · exact ⟨hC.st h1, fun _ => h1⟩
theorem v_se (hC : CI σ n m p d L sn) {r : Int32} {LX : List (String × Prop)} (h : (∃ a, r = nI a ∧ hd σ n a ∧ zu σ 4 a (σ 0 4) = σ1 ∧ v = σ 4 a) ∨ (stb σ σ1 ∧ exq [(eIO, (-1001 : Int32))] LX v)) : ∃ sn', CI σ1 n m p d L sn' ∧ (v < -1000 → stb σ σ1) := by
  rcases h with ⟨a, -, h2, rfl, rfl⟩ | ⟨h1, -⟩
  · have h3 := hC.cD.1 a h2.1
    have h4 := hC.cD.2.2.1
    refine ⟨_, by rw [hC.cD.2.1]; exact v_see hC a, fun q => absurd q ?_⟩
    rw [h3.1]
    exact nI_nm (by omega)
  · exact ⟨sn, hC.st h1, fun _ => h1⟩
theorem v_lim (hC : CI σ n m p d L sn) {t : Nat} (ht9 : t < 2 ^ 31) {LX : List (String × Prop)} (h : (rg (nI t) 1 99 ∧ zu σ 0 5 (nI t) = σ1 ∧ v = σ 0 5) ∨ (stb σ σ1 ∧ exq [(eIA, (-1001 : Int32))] LX v)) : ∃ L', CI σ1 n m p d L' sn ∧ (v < -1000 → stb σ σ1) := by
  rcases h with ⟨⟨g1, g2⟩, rfl, rfl⟩ | ⟨h1, -⟩
  · have h4 := hC.cD.2.2.2
    have k1 := nI_ngt (a := t) (b := 1) g1 (by omega) (by omega)
    have k2 := le_of_nI (b := 99) g2 (by omega) (by omega)
    refine ⟨t, v_setLimit hC k1 k2, fun q => absurd q ?_⟩
    rw [h4.1]
    exact nI_nm (by omega)
  · exact ⟨L, hC.st h1, fun _ => h1⟩
theorem v_pas (hC : CI σ n m p d L sn) {t : Nat} (ht9 : t < 1000) {LX : List (String × Prop)} (h : (rg (nI t) 1 99 ∧ rg (σ 0 4 + nI t) 0 999 ∧ zu σ 0 4 (σ 0 4 + nI t) = σ1 ∧ v = σ 0 4 + nI t) ∨ (stb σ σ1 ∧ exq [(eIA, (-1001 : Int32))] LX v)) : ∃ d', CI σ1 n m p d' L sn ∧ (v < -1000 → stb σ σ1) := by
  rcases h with ⟨⟨g1, g2⟩, ⟨g3, g4⟩, rfl, rfl⟩ | ⟨h1, -⟩
  · have h4 := hC.cD.2.2.1
    rw [hC.cD.2.1, nI_add] at g4 ⊢
    have k2 := le_of_nI (b := 999) g4 (by omega) (by omega)
    exact ⟨d + t, v_pass hC (by omega) k2, fun q => absurd q (nI_nm (by omega))⟩
  · exact ⟨d, hC.st h1, fun _ => h1⟩
theorem v_drp (hC : CI σ n m p d L sn) {r : Nat} (hr : r < 24) (h7 : (∃ a, nI r = nI a ∧ hd σ n a ∧ stb σ τ ∧ u = nI (cq (THs (zu σ 1 6 (σ 1 6 &&& (((1 : Int32) <<< (nI a &&& 31)) ^^^ (-1)))) n) n)) ∨ (stb σ τ ∧ exq [(eIO, (-1001 : Int32))] [(eIO, hdR σ n (nI r))] u)) (h1 : (∃ a, nI r = nI a ∧ hd τ n a ∧ zu τ 1 6 (τ 1 6 &&& (((1 : Int32) <<< (nI a &&& 31)) ^^^ (-1))) = σ1 ∧ v = nI (popc (τ 1 6 &&& (((1 : Int32) <<< (nI a &&& 31)) ^^^ (-1))))) ∨ (stb τ σ1 ∧ exq [(eIO, (-1001 : Int32))] [(eIO, hdR τ n (nI r))] v)) : CI σ1 n m p d L sn ∧ (v < -1000 → stb σ σ1) ∧ (v < 0 ∨ ∃ ρ, stb ρ σ1 ∧ u = nI (cq (THs ρ n) n)) := by
  have h24 := hC.n24
  have hs : stb σ τ := h7.elim (fun ⟨_, _, _, q, _⟩ => q) (fun q => q.1)
  rcases h1 with ⟨a, e1, e2, rfl, rfl⟩ | ⟨q1, q2⟩
  · have hb : popc (τ 1 6 &&& (((1 : Int32) <<< (nI a &&& 31)) ^^^ (-1))) ≤ 32 := cq_le _ 32
    refine ⟨v_drop (hC.st hs) e2.1, fun q => absurd q (nI_nm (by omega)), Or.inr ?_⟩
    rw [hd_b n hs] at e2
    rcases h7 with ⟨c, f1, f2, -, rfl⟩ | ⟨-, f⟩
    · have := e2.1
      have := f2.1
      have ea := eq_of_nI (e1.symm.trans f1) (by omega) (by omega)
      subst ea
      refine ⟨_, ?_, rfl⟩
      rw [hs 1 (by omega)]
      exact stb_zu hs _ _ _
    · exact absurd ⟨a, e1, e2⟩ (exq_1 f).1
  · exact ⟨(hC.st hs).st q1, fun _ => hs.tr q1, Or.inl (exq_code (Q := fun x => x < (0 : Int32)) q2 (by decide))⟩
theorem v_alw (hC : CI σ n m p d L sn) {r o : Int32} {LY : List (String × Prop)} (h4 : (∃ a b, r = nI a ∧ o = nI b ∧ hd σ n a ∧ hd σ n b ∧ tb (σ 13 a) b = true ∧ stb σ τ ∧ u = nI (cq (THs (upM σ a b) n) n)) ∨ (stb σ τ ∧ exq [(eIO, (-1001 : Int32)), (eIA, (-1002 : Int32)), (eIS, (-1003 : Int32)), (eNS, (-1004 : Int32))] [(eIO, hdR σ n r), (eIO, hdR σ n o), (eNS, fbR σ r o)] u)) (h1 : (∃ a b, r = nI a ∧ o = nI b ∧ hd τ n a ∧ hd τ n b ∧ tb (τ 13 a) b = true ∧ zu (upM τ a b) 1 9 (τ 1 9 - 1) = σ1 ∧ v = nI (sq (hd τ n) (fun r => popc (upM τ a b 13 r &&& τ 1 6)) n / 2)) ∨ (stb τ σ1 ∧ exq [(eIO, (-1001 : Int32)), (eIA, (-1002 : Int32)), (eIS, (-1003 : Int32)), (eNS, (-1004 : Int32))] LY v)) : ∃ p', CI σ1 n m p' d L sn ∧ (v < -1000 → stb σ σ1) ∧ (v < 0 ∨ ∃ ρ, stb ρ σ1 ∧ u = nI (cq (THs ρ n) n)) := by
  have h24 := hC.n24
  have hs : stb σ τ := h4.elim (fun ⟨_, _, _, _, _, _, _, q, _⟩ => q) (fun q => q.1)
  rcases h1 with ⟨a, b, e1, e2, e3, e4, e5, rfl, rfl⟩ | ⟨q1, q2⟩
  · have hb : sq (hd τ n) (fun r => popc (upM τ a b 13 r &&& τ 1 6)) n ≤ n * 32 := sq_pop (σ := upM τ a b) n
    obtain ⟨p', hp'⟩ := v_allow (hC.st hs) e3.1 e4.1 e5
    refine ⟨p', hp', fun q => absurd q (nI_nm (by omega)), Or.inr ?_⟩
    rw [hd_b n hs] at e3 e4
    rw [hs 13 (by omega)] at e5
    have := e3.1
    have := e4.1
    rcases h4 with ⟨c, e, f1, f2, f3, f4, -, -, rfl⟩ | ⟨-, f⟩
    · have := f3.1
      have := f4.1
      have ea := eq_of_nI (e1.symm.trans f1) (by omega) (by omega)
      subst ea
      have eb := eq_of_nI (e2.symm.trans f2) (by omega) (by omega)
      subst eb
      exact ⟨zu (upM σ a b) 1 9 (τ 1 9 - 1), stb_zu (stb_up hs a b) _ _ _, by rw [THs_p]⟩
    · exact (exq_nil (exq_ys (exq_ys (exq_ys f ⟨a, e1, e3⟩) ⟨b, e2, e4⟩) ⟨a, b, e1, e2, by omega, by omega, e5⟩)).elim
  · exact ⟨p, (hC.st hs).st q1, fun _ => hs.tr q1, Or.inl (exq_code (Q := fun x => x < (0 : Int32)) q2 (by decide))⟩
theorem v_tif (hC : CI σ n m p d L sn) {r k w : Int32} {LY : List (String × Prop)} (h2 : (rg w (-1) 99 ∧ ∃ a i, r = nI a ∧ hd σ n a ∧ k = nI i ∧ i < 3 ∧ stb σ τ ∧ u = nI (cq (THs (zu σ (7 + i) a w) n) n)) ∨ (stb σ τ ∧ exq [(eIO, (-1001 : Int32)), (eIA, (-1002 : Int32))] [(eIO, hdR σ n r), (eIO, nR 3 k), (eIA, rg w (-1) 99)] u)) (h0 : (rg w (-1) 99 ∧ ∃ a i, r = nI a ∧ hd τ n a ∧ k = nI i ∧ i < 3 ∧ zu τ (7 + i) a w = σ1 ∧ v = τ (7 + i) a) ∨ (stb τ σ1 ∧ exq [(eIO, (-1001 : Int32)), (eIA, (-1002 : Int32))] LY v)) : CI σ1 n m p d L sn ∧ (v < -1000 → stb σ σ1) ∧ (v < -1 ∨ ∃ ρ, stb ρ σ1 ∧ u = nI (cq (THs ρ n) n)) := by
  have h24 := hC.n24
  have hs : stb σ τ := h2.elim (fun ⟨_, _, _, _, _, _, _, q, _⟩ => q) (fun q => q.1)
  have hv := v_key (hC.st hs) h0
  refine ⟨hv.1, fun q => hs.tr (hv.2 q), ?_⟩
  rcases h0 with ⟨hw, a, i, e1, e2, e3, hi, rfl, rfl⟩ | ⟨q1, q2⟩
  · refine Or.inr ?_
    rw [hd_b n hs] at e2
    have := e2.1
    rcases h2 with ⟨-, c, j, f1, f2, f3, hj, -, rfl⟩ | ⟨-, f⟩
    · have := f2.1
      have ea := eq_of_nI (e1.symm.trans f1) (by omega) (by omega)
      subst ea
      have eb := eq_of_nI (e3.symm.trans f3) (by omega) (by omega)
      subst eb
      exact ⟨_, stb_zu hs _ _ _, rfl⟩
    · exact (exq_nil (exq_ys (exq_ys (exq_ys f ⟨a, e1, e2⟩) ⟨i, e3, hi⟩) hw)).elim
  · exact Or.inl (exq_code (Q := fun x => x < (-1 : Int32)) q2 (by decide))
theorem v_fbd (hC : CI σ n m p d L sn) {r o : Nat} (hr : r < 24) (ho : o < 24) {LX : List (String × Prop)} (h : (∃ a b, nI r = nI a ∧ nI o = nI b ∧ hd σ n a ∧ hd σ n b ∧ a ≠ b ∧ ¬ tb (σ 13 a) b = true ∧ p < 12 ∧ zu (ptM σ a b) 1 9 (nI (p + 1)) = σ1 ∧ v = nI (sq (hd σ n) (fun r => popc (ptM σ a b 13 r &&& σ 1 6)) n / 2)) ∨ (stb σ σ1 ∧ exq [(eIO, (-1001 : Int32)), (eIA, (-1002 : Int32)), (eIS, (-1003 : Int32)), (eNS, (-1004 : Int32))] LX v)) : ∃ p', CI σ1 n m p' d L sn ∧ (v < -1000 → stb σ σ1) ∧ (v < 0 ∨ (hd σ1 n r ∧ hd σ1 n o ∧ r ≠ o ∧ fbC σ1 r o)) := by
  have h24 := hC.n24
  rcases h with ⟨a, b, e1, e2, e3, e4, e5, e6, e7, rfl, rfl⟩ | ⟨q1, q2⟩
  · have hb : sq (hd σ n) (fun r => popc (ptM σ a b 13 r &&& σ 1 6)) n ≤ n * 32 := sq_pop (σ := ptM σ a b) n
    have := e3.1
    have := e4.1
    have ea := eq_of_nI e1 (by omega) (by omega)
    subst ea
    have eb := eq_of_nI e2 (by omega) (by omega)
    subst eb
    refine ⟨p + 1, v_forbid hC e7 e3.1 e4.1 e5 e6, fun q => absurd q (nI_nm (by omega)), Or.inr ⟨e3, e4, e5, ?_⟩⟩
    show tb (zu (ptM σ r o) 1 9 (nI (p + 1)) 13 r) o = true
    rw [zu_ne _ _ _ (by decide : (13 : Nat) ≠ 1), tb_pt e5 (by omega) (by omega)]
    simp
  · exact ⟨p, hC.st q1, fun _ => q1, Or.inl (exq_code (Q := fun x => x < (0 : Int32)) q2 (by decide))⟩
end V
