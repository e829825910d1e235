theorem cw_L_source : zCalW yL_source (Cond.codeWith yL_source cL_source 4 (some .int) [(0, 18, 19, 17), (0, 18, 24, 19), (0, 18, 29, 21)]) 3 := ⟨aw_16_0, aw_3_5, by decide +kernel, by decide +kernel, by decide +kernel⟩
theorem cw_L_record : zCalW yL_record (Cond.codeWith yL_record cL_record 6 (some .int) [(0, 9, 10, 17), (0, 9, 16, 19), (0, 9, 22, 21)]) 5 := ⟨aw_17_7, aw_3_5, by decide +kernel, by decide +kernel, by decide +kernel⟩
theorem cw_L_sets : zCalW yL_sets (Cond.codeWith yL_sets cL_sets 6 (some .int) [(0, 38, 39, 17), (0, 38, 45, 19)]) 5 := ⟨aw_17_19, aw_3_5, by decide +kernel, by decide +kernel, by decide +kernel⟩
theorem cw_L_days : zCalW yL_days (Cond.codeWith yL_days cL_days 4 (some .int) [(0, 17, 18, 19)]) 3 := ⟨aw_20_13, aw_3_5, by decide +kernel, by decide +kernel, by decide +kernel⟩
/-! THE STEPS OF THE LAW'S LOOP: from each case's start to where its answer is looked at -/
abbrev Wl (l : Launch) (D : va_G) (cT ad : Nat → Nat) (b N sz : Nat) (xs : Nat → Int32) (pc : Nat) (ls : List (Nat × Value)) (st : List Value) (σ : Sg) (k n : Nat) : Prop := Wm (fun _ _ => True) l room_1 RL cL_law 16 (some .boolean) D cT ad Lc (lA sz) (lZ b N sz xs) [] pc ls st σ k n
def kk606 (l : Launch) (D : va_G) (cT ad : Nat → Nat) (b N sz : Nat) (xs : Nat → Int32) (σ : Sg) (y4 y5 y7 y10 : Int32) (y11 : Int64) (kb nb : Nat) : Prop := ∀ (its : Int32) (n' m' p' d' L' : Nat) (sn' : Nat → Nat) (σ' : Sg), CI σ' n' m' p' d' L' sn' → 1 ≤ m' → (its < -1000 → stb σ σ') → Wl l D cT ad b N sz xs 606 [(0, .ref 27), (1, .ref 0), (2, .int (nI n')), (3, .int (nI m')), (4, .int y4), (5, .int y5), (7, .int y7), (10, .int y10), (11, .long y11), (13, .int its)] [] σ' (kb + 30) (nb + 180)
theorem cs_145 (l : Launch) (hst : l.stackTraces = false) {D : va_G} {cT ad : Nat → Nat} {b N sz : Nat} {xs : Nat → Int32} {σ : Sg} {n m p d L : Nat} {sn : Nat → Nat} (hC : CI σ n m p d L sn) {wn r o : Nat} (hw : wn < 2 ^ 31) (hr : r < 24) (ho : o < 24) {y4 y5 y10 : Int32} {y11 : Int64} {kb nb : Nat} (hk : kb + 30 ≤ 676585 ∧ nb + 180 ≤ 7071868) (kk : kk606 l D cT ad b N sz xs σ y4 y5 (nI wn) y10 y11 kb nb) : Wl l D cT ad b N sz xs 145 [(0, .ref 27), (1, .ref 0), (2, .int (nI n)), (3, .int (nI m)), (4, .int y4), (5, .int y5), (7, .int (nI wn)), (8, .int (nI r)), (9, .int (nI o)), (10, .int y10), (11, .long y11)] [] σ kb nb := by
  have h24 := hC.n24
  refine wm_aload_n 146 rfl dL_law_145 rfl rfl ?_
  refine wm_iconst (v := (-1)) 147 rfl dL_law_146 (by decide) ?_
  refine wm_iconst (v := 1) 148 rfl dL_law_147 (by decide) ?_
  refine wm_iload 150 rfl dL_law_148 rfl ?_
  refine wm_bipush (v := 9) 152 rfl dL_law_150 (by decide) ?_
  refine wm_irem 153 rfl dL_law_152 (by decide) ?_
  refine wm_iadd 154 rfl dL_law_153 ?_
  rw [show nI wn - nI wn / 9 * 9 = nI (wn % 9) from pk_rem (d := 9) hw (by omega) (by omega), show (1 : Int32) + nI (wn % 9) = nI (1 + wn % 9) from nI_add 1 _]
  have ht : rg (nI (1 + wn % 9)) 1 9 := ⟨nI_nlt (a := 1 + wn % 9) (b := 1) (by omega) (by omega), nI_le (b := 9) (by omega) (by omega)⟩
  refine wl_callWi 157 rfl dL_law_154 (h_sourceA l (nI (1 + wn % 9)) (k_X4_addSource l hst (hC.2.1.1) (hC.2.1.2) (nI (1 + wn % 9))) (show ∀ E ∈ [eIA, eIS], E ∈ [eIO, eIA, eIS] by decide)) cw_L_source aw_15_23 aw_15_22 ⟨Nat.le_of_ble_eq_true rfl, Nat.le_of_ble_eq_true rfl⟩ (Nat.le_of_ble_eq_true rfl) (show _ ≤ 676585 ∧ _ ≤ 7071868 from ⟨by omega, by omega⟩) (fun r9 σ9 hp => ?_)
  obtain ⟨m9, hC9, hm9, hor⟩ := v_src hC ht hp
  refine wm_istore (ls' := [(13, _), (0, _), (1, _), (2, _), (3, _), (4, _), (5, _), (7, _), (8, _), (9, _), (10, _), (11, _)]) 159 rfl dL_law_157 (by decide) rfl ?_
  refine wm_iload_n 160 rfl dL_law_159 rfl rfl ?_
  refine wm_iload 162 rfl dL_law_160 rfl ?_
  refine wm_if_lt 169 165 rfl (by decide) dL_law_162 (fun c162 => ?_) (fun c162 => ?_)
  · obtain ⟨em, hs9⟩ : m9 = m ∧ stb σ σ9 := hor.elim (fun q => q.2) (fun q => absurd c162 q.1)
    subst em
    refine wm_iconst (v := 0) 170 rfl dL_law_169 (by decide) ?_
    refine wm_iadd 171 rfl dL_law_170 ?_
    refine wm_istore_n (ls' := [(3, _), (13, _), (0, _), (1, _), (2, _), (4, _), (5, _), (7, _), (8, _), (9, _), (10, _), (11, _)]) 172 rfl dL_law_171 rfl (by decide) rfl ?_
    refine wm_goto 606 (by decide) dL_law_172 ?_
    refine wm_loc (ls2 := [(0, _), (1, _), (2, _), (3, _), (4, _), (5, _), (7, _), (10, _), (11, _), (13, _)]) [2, 3, 4, 0, 5, 6, 7, 10, 11, 1] rfl ?_
    first
      | rw [Int32.add_zero]
        exact wl_widen (k1 := kb + 30) (n1 := nb + 180) (by omega) (by omega) (kk _ _ _ _ _ _ _ _ hC9 hm9 (fun _ => hs9))
      | rw [← nI_succ]
        exact wl_widen (k1 := kb + 30) (n1 := nb + 180) (by omega) (by omega) (kk _ _ _ _ _ _ _ _ hC9 hm9 (fun q => absurd (lt_m1000 q) c162))
  · have em : m9 = m + 1 := hor.elim (fun q => absurd q.1 c162) (fun q => q.2)
    subst em
    refine wm_iconst (v := 1) 166 rfl dL_law_165 (by decide) ?_
    refine wm_goto 170 (by decide) dL_law_166 ?_
    refine wm_iadd 171 rfl dL_law_170 ?_
    refine wm_istore_n (ls' := [(3, _), (13, _), (0, _), (1, _), (2, _), (4, _), (5, _), (7, _), (8, _), (9, _), (10, _), (11, _)]) 172 rfl dL_law_171 rfl (by decide) rfl ?_
    refine wm_goto 606 (by decide) dL_law_172 ?_
    refine wm_loc (ls2 := [(0, _), (1, _), (2, _), (3, _), (4, _), (5, _), (7, _), (10, _), (11, _), (13, _)]) [2, 3, 4, 0, 5, 6, 7, 10, 11, 1] rfl ?_
    first
      | rw [Int32.add_zero]
        exact wl_widen (k1 := kb + 30) (n1 := nb + 180) (by omega) (by omega) (kk _ _ _ _ _ _ _ _ hC9 hm9 (fun _ => hs9))
      | rw [← nI_succ]
        exact wl_widen (k1 := kb + 30) (n1 := nb + 180) (by omega) (by omega) (kk _ _ _ _ _ _ _ _ hC9 hm9 (fun q => absurd (lt_m1000 q) c162))
theorem cs_182 (l : Launch) (hst : l.stackTraces = false) {D : va_G} {cT ad : Nat → Nat} {b N sz : Nat} {xs : Nat → Int32} {σ : Sg} {n m p d L : Nat} {sn : Nat → Nat} (hC : CI σ n m p d L sn) {wn r o : Nat} (hw : wn < 2 ^ 31) (hr : r < 24) (ho : o < 24) (hm : 1 ≤ m) {y4 y5 y10 : Int32} {y11 : Int64} {kb nb : Nat} (hk : kb + 30 ≤ 676585 ∧ nb + 180 ≤ 7071868) (kk : kk606 l D cT ad b N sz xs σ y4 y5 (nI wn) y10 y11 kb nb) : Wl l D cT ad b N sz xs 182 [(0, .ref 27), (1, .ref 0), (2, .int (nI n)), (3, .int (nI m)), (4, .int y4), (5, .int y5), (7, .int (nI wn)), (8, .int (nI r)), (9, .int (nI o)), (10, .int y10), (11, .long y11)] [] σ kb nb := by
  have h24 := hC.n24
  refine wm_aload_n 183 rfl dL_law_182 rfl rfl ?_
  refine wm_iload 185 rfl dL_law_183 rfl ?_
  refine wm_iload_n 186 rfl dL_law_185 rfl rfl ?_
  refine wm_irem 187 rfl dL_law_186 (nI_ne0 hm (by have := hC.2.1.2; omega)) ?_
  refine wm_iload 189 rfl dL_law_187 rfl ?_
  refine wm_bipush (v := 7) 191 rfl dL_law_189 (by decide) ?_
  refine wm_idiv 192 rfl dL_law_191 (by decide) ?_
  refine wm_bipush (v := 8) 194 rfl dL_law_192 (by decide) ?_
  refine wm_irem 195 rfl dL_law_194 (by decide) ?_
  refine wm_iconst (v := 3) 196 rfl dL_law_195 (by decide) ?_
  refine wm_icmp_le 203 199 rfl (by decide) dL_law_196 (fun c196 => ?_) (fun c196 => ?_)
  · refine wm_iload 205 rfl dL_law_203 rfl ?_
    refine wm_bipush (v := 7) 207 rfl dL_law_205 (by decide) ?_
    refine wm_idiv 208 rfl dL_law_207 (by decide) ?_
    refine wm_bipush (v := 8) 210 rfl dL_law_208 (by decide) ?_
    refine wm_irem 211 rfl dL_law_210 (by decide) ?_
    refine wm_iload 213 rfl dL_law_211 rfl ?_
    refine wm_bipush (v := 56) 215 rfl dL_law_213 (by decide) ?_
    refine wm_idiv 216 rfl dL_law_215 (by decide) ?_
    refine wm_bipush (v := 8) 218 rfl dL_law_216 (by decide) ?_
    refine wm_irem 219 rfl dL_law_218 (by decide) ?_
    refine wm_iconst (v := 5) 220 rfl dL_law_219 (by decide) ?_
    refine wm_icmp_le 227 223 rfl (by decide) dL_law_220 (fun c220 => ?_) (fun c220 => ?_)
    · refine wm_iload 229 rfl dL_law_227 rfl ?_
      refine wm_bipush (v := 56) 231 rfl dL_law_229 (by decide) ?_
      refine wm_idiv 232 rfl dL_law_231 (by decide) ?_
      refine wm_bipush (v := 8) 234 rfl dL_law_232 (by decide) ?_
      refine wm_irem 235 rfl dL_law_234 (by decide) ?_
      refine wm_iload 237 rfl dL_law_235 rfl ?_
      refine wm_sipush (v := 448) 240 rfl dL_law_237 (by decide) ?_
      refine wm_idiv 241 rfl dL_law_240 (by decide) ?_
      refine wm_bipush (v := 8) 243 rfl dL_law_241 (by decide) ?_
      refine wm_irem 244 rfl dL_law_243 (by decide) ?_
      refine wm_iconst (v := 1) 245 rfl dL_law_244 (by decide) ?_
      refine wm_isub 246 rfl dL_law_245 ?_
      refine wl_callWi 249 rfl dL_law_246 (h_record l _ _ _ _ (k_X4_addRecord l hst ((stb.rf σ).cIy hC.cI) (hC.2.1.1) (hC.2.1.2) _ _ _ _) (show ∀ E ∈ [eIO, eIA, eIA, eIA, eIS], E ∈ [eIO, eIA, eIS] by decide)) cw_L_record aw_17_6 aw_17_5 ⟨Nat.le_of_ble_eq_true rfl, Nat.le_of_ble_eq_true rfl⟩ (Nat.le_of_ble_eq_true rfl) (show _ ≤ 676585 ∧ _ ≤ 7071868 from ⟨by omega, by omega⟩) (fun r9 σ9 hp => ?_)
      obtain ⟨n9, sn9, hC9, hor⟩ := v_rec hC hp
      refine wm_istore (ls' := [(13, _), (0, _), (1, _), (2, _), (3, _), (4, _), (5, _), (7, _), (8, _), (9, _), (10, _), (11, _)]) 251 rfl dL_law_249 (by decide) rfl ?_
      refine wm_iload_n 252 rfl dL_law_251 rfl rfl ?_
      refine wm_iload 254 rfl dL_law_252 rfl ?_
      refine wm_if_lt 261 257 rfl (by decide) dL_law_254 (fun c254 => ?_) (fun c254 => ?_)
      · obtain ⟨em, hs9⟩ : n9 = n ∧ stb σ σ9 := hor.elim (fun q => q.2) (fun q => absurd c254 q.1)
        subst em
        refine wm_iconst (v := 0) 262 rfl dL_law_261 (by decide) ?_
        refine wm_iadd 263 rfl dL_law_262 ?_
        refine wm_istore_n (ls' := [(2, _), (13, _), (0, _), (1, _), (3, _), (4, _), (5, _), (7, _), (8, _), (9, _), (10, _), (11, _)]) 264 rfl dL_law_263 rfl (by decide) rfl ?_
        refine wm_goto 606 (by decide) dL_law_264 ?_
        refine wm_loc (ls2 := [(0, _), (1, _), (2, _), (3, _), (4, _), (5, _), (7, _), (10, _), (11, _), (13, _)]) [2, 3, 0, 4, 5, 6, 7, 10, 11, 1] rfl ?_
        first
          | rw [Int32.add_zero]
            exact wl_widen (k1 := kb + 30) (n1 := nb + 180) (by omega) (by omega) (kk _ _ _ _ _ _ _ _ hC9 hm (fun _ => hs9))
          | rw [← nI_succ]
            exact wl_widen (k1 := kb + 30) (n1 := nb + 180) (by omega) (by omega) (kk _ _ _ _ _ _ _ _ hC9 hm (fun q => absurd (lt_m1000 q) c254))
      · have em : n9 = n + 1 := hor.elim (fun q => absurd q.1 c254) (fun q => q.2)
        subst em
        refine wm_iconst (v := 1) 258 rfl dL_law_257 (by decide) ?_
        refine wm_goto 262 (by decide) dL_law_258 ?_
        refine wm_iadd 263 rfl dL_law_262 ?_
        refine wm_istore_n (ls' := [(2, _), (13, _), (0, _), (1, _), (3, _), (4, _), (5, _), (7, _), (8, _), (9, _), (10, _), (11, _)]) 264 rfl dL_law_263 rfl (by decide) rfl ?_
        refine wm_goto 606 (by decide) dL_law_264 ?_
        refine wm_loc (ls2 := [(0, _), (1, _), (2, _), (3, _), (4, _), (5, _), (7, _), (10, _), (11, _), (13, _)]) [2, 3, 0, 4, 5, 6, 7, 10, 11, 1] rfl ?_
        first
          | rw [Int32.add_zero]
            exact wl_widen (k1 := kb + 30) (n1 := nb + 180) (by omega) (by omega) (kk _ _ _ _ _ _ _ _ hC9 hm (fun _ => hs9))
          | rw [← nI_succ]
            exact wl_widen (k1 := kb + 30) (n1 := nb + 180) (by omega) (by omega) (kk _ _ _ _ _ _ _ _ hC9 hm (fun q => absurd (lt_m1000 q) c254))
    · refine wm_iconst (v := (-1)) 224 rfl dL_law_223 (by decide) ?_
      refine wm_goto 235 (by decide) dL_law_224 ?_
      refine wm_iload 237 rfl dL_law_235 rfl ?_
      refine wm_sipush (v := 448) 240 rfl dL_law_237 (by decide) ?_
      refine wm_idiv 241 rfl dL_law_240 (by decide) ?_
      refine wm_bipush (v := 8) 243 rfl dL_law_241 (by decide) ?_
      refine wm_irem 244 rfl dL_law_243 (by decide) ?_
      refine wm_iconst (v := 1) 245 rfl dL_law_244 (by decide) ?_
      refine wm_isub 246 rfl dL_law_245 ?_
      refine wl_callWi 249 rfl dL_law_246 (h_record l _ _ _ _ (k_X4_addRecord l hst ((stb.rf σ).cIy hC.cI) (hC.2.1.1) (hC.2.1.2) _ _ _ _) (show ∀ E ∈ [eIO, eIA, eIA, eIA, eIS], E ∈ [eIO, eIA, eIS] by decide)) cw_L_record aw_17_6 aw_17_5 ⟨Nat.le_of_ble_eq_true rfl, Nat.le_of_ble_eq_true rfl⟩ (Nat.le_of_ble_eq_true rfl) (show _ ≤ 676585 ∧ _ ≤ 7071868 from ⟨by omega, by omega⟩) (fun r9 σ9 hp => ?_)
      obtain ⟨n9, sn9, hC9, hor⟩ := v_rec hC hp
      refine wm_istore (ls' := [(13, _), (0, _), (1, _), (2, _), (3, _), (4, _), (5, _), (7, _), (8, _), (9, _), (10, _), (11, _)]) 251 rfl dL_law_249 (by decide) rfl ?_
      refine wm_iload_n 252 rfl dL_law_251 rfl rfl ?_
      refine wm_iload 254 rfl dL_law_252 rfl ?_
      refine wm_if_lt 261 257 rfl (by decide) dL_law_254 (fun c254 => ?_) (fun c254 => ?_)
      · obtain ⟨em, hs9⟩ : n9 = n ∧ stb σ σ9 := hor.elim (fun q => q.2) (fun q => absurd c254 q.1)
        subst em
        refine wm_iconst (v := 0) 262 rfl dL_law_261 (by decide) ?_
        refine wm_iadd 263 rfl dL_law_262 ?_
        refine wm_istore_n (ls' := [(2, _), (13, _), (0, _), (1, _), (3, _), (4, _), (5, _), (7, _), (8, _), (9, _), (10, _), (11, _)]) 264 rfl dL_law_263 rfl (by decide) rfl ?_
        refine wm_goto 606 (by decide) dL_law_264 ?_
        refine wm_loc (ls2 := [(0, _), (1, _), (2, _), (3, _), (4, _), (5, _), (7, _), (10, _), (11, _), (13, _)]) [2, 3, 0, 4, 5, 6, 7, 10, 11, 1] rfl ?_
        first
          | rw [Int32.add_zero]
            exact wl_widen (k1 := kb + 30) (n1 := nb + 180) (by omega) (by omega) (kk _ _ _ _ _ _ _ _ hC9 hm (fun _ => hs9))
          | rw [← nI_succ]
            exact wl_widen (k1 := kb + 30) (n1 := nb + 180) (by omega) (by omega) (kk _ _ _ _ _ _ _ _ hC9 hm (fun q => absurd (lt_m1000 q) c254))
      · have em : n9 = n + 1 := hor.elim (fun q => absurd q.1 c254) (fun q => q.2)
        subst em
        refine wm_iconst (v := 1) 258 rfl dL_law_257 (by decide) ?_
        refine wm_goto 262 (by decide) dL_law_258 ?_
        refine wm_iadd 263 rfl dL_law_262 ?_
        refine wm_istore_n (ls' := [(2, _), (13, _), (0, _), (1, _), (3, _), (4, _), (5, _), (7, _), (8, _), (9, _), (10, _), (11, _)]) 264 rfl dL_law_263 rfl (by decide) rfl ?_
        refine wm_goto 606 (by decide) dL_law_264 ?_
        refine wm_loc (ls2 := [(0, _), (1, _), (2, _), (3, _), (4, _), (5, _), (7, _), (10, _), (11, _), (13, _)]) [2, 3, 0, 4, 5, 6, 7, 10, 11, 1] rfl ?_
        first
          | rw [Int32.add_zero]
            exact wl_widen (k1 := kb + 30) (n1 := nb + 180) (by omega) (by omega) (kk _ _ _ _ _ _ _ _ hC9 hm (fun _ => hs9))
          | rw [← nI_succ]
            exact wl_widen (k1 := kb + 30) (n1 := nb + 180) (by omega) (by omega) (kk _ _ _ _ _ _ _ _ hC9 hm (fun q => absurd (lt_m1000 q) c254))
  · refine wm_iconst (v := (-1)) 200 rfl dL_law_199 (by decide) ?_
    refine wm_goto 211 (by decide) dL_law_200 ?_
    refine wm_iload 213 rfl dL_law_211 rfl ?_
    refine wm_bipush (v := 56) 215 rfl dL_law_213 (by decide) ?_
    refine wm_idiv 216 rfl dL_law_215 (by decide) ?_
    refine wm_bipush (v := 8) 218 rfl dL_law_216 (by decide) ?_
    refine wm_irem 219 rfl dL_law_218 (by decide) ?_
    refine wm_iconst (v := 5) 220 rfl dL_law_219 (by decide) ?_
    refine wm_icmp_le 227 223 rfl (by decide) dL_law_220 (fun c220 => ?_) (fun c220 => ?_)
    · refine wm_iload 229 rfl dL_law_227 rfl ?_
      refine wm_bipush (v := 56) 231 rfl dL_law_229 (by decide) ?_
      refine wm_idiv 232 rfl dL_law_231 (by decide) ?_
      refine wm_bipush (v := 8) 234 rfl dL_law_232 (by decide) ?_
      refine wm_irem 235 rfl dL_law_234 (by decide) ?_
      refine wm_iload 237 rfl dL_law_235 rfl ?_
      refine wm_sipush (v := 448) 240 rfl dL_law_237 (by decide) ?_
      refine wm_idiv 241 rfl dL_law_240 (by decide) ?_
      refine wm_bipush (v := 8) 243 rfl dL_law_241 (by decide) ?_
      refine wm_irem 244 rfl dL_law_243 (by decide) ?_
      refine wm_iconst (v := 1) 245 rfl dL_law_244 (by decide) ?_
      refine wm_isub 246 rfl dL_law_245 ?_
      refine wl_callWi 249 rfl dL_law_246 (h_record l _ _ _ _ (k_X4_addRecord l hst ((stb.rf σ).cIy hC.cI) (hC.2.1.1) (hC.2.1.2) _ _ _ _) (show ∀ E ∈ [eIO, eIA, eIA, eIA, eIS], E ∈ [eIO, eIA, eIS] by decide)) cw_L_record aw_17_6 aw_17_5 ⟨Nat.le_of_ble_eq_true rfl, Nat.le_of_ble_eq_true rfl⟩ (Nat.le_of_ble_eq_true rfl) (show _ ≤ 676585 ∧ _ ≤ 7071868 from ⟨by omega, by omega⟩) (fun r9 σ9 hp => ?_)
      obtain ⟨n9, sn9, hC9, hor⟩ := v_rec hC hp
      refine wm_istore (ls' := [(13, _), (0, _), (1, _), (2, _), (3, _), (4, _), (5, _), (7, _), (8, _), (9, _), (10, _), (11, _)]) 251 rfl dL_law_249 (by decide) rfl ?_
      refine wm_iload_n 252 rfl dL_law_251 rfl rfl ?_
      refine wm_iload 254 rfl dL_law_252 rfl ?_
      refine wm_if_lt 261 257 rfl (by decide) dL_law_254 (fun c254 => ?_) (fun c254 => ?_)
      · obtain ⟨em, hs9⟩ : n9 = n ∧ stb σ σ9 := hor.elim (fun q => q.2) (fun q => absurd c254 q.1)
        subst em
        refine wm_iconst (v := 0) 262 rfl dL_law_261 (by decide) ?_
        refine wm_iadd 263 rfl dL_law_262 ?_
        refine wm_istore_n (ls' := [(2, _), (13, _), (0, _), (1, _), (3, _), (4, _), (5, _), (7, _), (8, _), (9, _), (10, _), (11, _)]) 264 rfl dL_law_263 rfl (by decide) rfl ?_
        refine wm_goto 606 (by decide) dL_law_264 ?_
        refine wm_loc (ls2 := [(0, _), (1, _), (2, _), (3, _), (4, _), (5, _), (7, _), (10, _), (11, _), (13, _)]) [2, 3, 0, 4, 5, 6, 7, 10, 11, 1] rfl ?_
        first
          | rw [Int32.add_zero]
            exact wl_widen (k1 := kb + 30) (n1 := nb + 180) (by omega) (by omega) (kk _ _ _ _ _ _ _ _ hC9 hm (fun _ => hs9))
          | rw [← nI_succ]
            exact wl_widen (k1 := kb + 30) (n1 := nb + 180) (by omega) (by omega) (kk _ _ _ _ _ _ _ _ hC9 hm (fun q => absurd (lt_m1000 q) c254))
      · have em : n9 = n + 1 := hor.elim (fun q => absurd q.1 c254) (fun q => q.2)
        subst em
        refine wm_iconst (v := 1) 258 rfl dL_law_257 (by decide) ?_
        refine wm_goto 262 (by decide) dL_law_258 ?_
        refine wm_iadd 263 rfl dL_law_262 ?_
        refine wm_istore_n (ls' := [(2, _), (13, _), (0, _), (1, _), (3, _), (4, _), (5, _), (7, _), (8, _), (9, _), (10, _), (11, _)]) 264 rfl dL_law_263 rfl (by decide) rfl ?_
        refine wm_goto 606 (by decide) dL_law_264 ?_
        refine wm_loc (ls2 := [(0, _), (1, _), (2, _), (3, _), (4, _), (5, _), (7, _), (10, _), (11, _), (13, _)]) [2, 3, 0, 4, 5, 6, 7, 10, 11, 1] rfl ?_
        first
          | rw [Int32.add_zero]
            exact wl_widen (k1 := kb + 30) (n1 := nb + 180) (by omega) (by omega) (kk _ _ _ _ _ _ _ _ hC9 hm (fun _ => hs9))
          | rw [← nI_succ]
            exact wl_widen (k1 := kb + 30) (n1 := nb + 180) (by omega) (by omega) (kk _ _ _ _ _ _ _ _ hC9 hm (fun q => absurd (lt_m1000 q) c254))
    · refine wm_iconst (v := (-1)) 224 rfl dL_law_223 (by decide) ?_
      refine wm_goto 235 (by decide) dL_law_224 ?_
      refine wm_iload 237 rfl dL_law_235 rfl ?_
      refine wm_sipush (v := 448) 240 rfl dL_law_237 (by decide) ?_
      refine wm_idiv 241 rfl dL_law_240 (by decide) ?_
      refine wm_bipush (v := 8) 243 rfl dL_law_241 (by decide) ?_
      refine wm_irem 244 rfl dL_law_243 (by decide) ?_
      refine wm_iconst (v := 1) 245 rfl dL_law_244 (by decide) ?_
      refine wm_isub 246 rfl dL_law_245 ?_
      refine wl_callWi 249 rfl dL_law_246 (h_record l _ _ _ _ (k_X4_addRecord l hst ((stb.rf σ).cIy hC.cI) (hC.2.1.1) (hC.2.1.2) _ _ _ _) (show ∀ E ∈ [eIO, eIA, eIA, eIA, eIS], E ∈ [eIO, eIA, eIS] by decide)) cw_L_record aw_17_6 aw_17_5 ⟨Nat.le_of_ble_eq_true rfl, Nat.le_of_ble_eq_true rfl⟩ (Nat.le_of_ble_eq_true rfl) (show _ ≤ 676585 ∧ _ ≤ 7071868 from ⟨by omega, by omega⟩) (fun r9 σ9 hp => ?_)
      obtain ⟨n9, sn9, hC9, hor⟩ := v_rec hC hp
      refine wm_istore (ls' := [(13, _), (0, _), (1, _), (2, _), (3, _), (4, _), (5, _), (7, _), (8, _), (9, _), (10, _), (11, _)]) 251 rfl dL_law_249 (by decide) rfl ?_
      refine wm_iload_n 252 rfl dL_law_251 rfl rfl ?_
      refine wm_iload 254 rfl dL_law_252 rfl ?_
      refine wm_if_lt 261 257 rfl (by decide) dL_law_254 (fun c254 => ?_) (fun c254 => ?_)
      · obtain ⟨em, hs9⟩ : n9 = n ∧ stb σ σ9 := hor.elim (fun q => q.2) (fun q => absurd c254 q.1)
        subst em
        refine wm_iconst (v := 0) 262 rfl dL_law_261 (by decide) ?_
        refine wm_iadd 263 rfl dL_law_262 ?_
        refine wm_istore_n (ls' := [(2, _), (13, _), (0, _), (1, _), (3, _), (4, _), (5, _), (7, _), (8, _), (9, _), (10, _), (11, _)]) 264 rfl dL_law_263 rfl (by decide) rfl ?_
        refine wm_goto 606 (by decide) dL_law_264 ?_
        refine wm_loc (ls2 := [(0, _), (1, _), (2, _), (3, _), (4, _), (5, _), (7, _), (10, _), (11, _), (13, _)]) [2, 3, 0, 4, 5, 6, 7, 10, 11, 1] rfl ?_
        first
          | rw [Int32.add_zero]
            exact wl_widen (k1 := kb + 30) (n1 := nb + 180) (by omega) (by omega) (kk _ _ _ _ _ _ _ _ hC9 hm (fun _ => hs9))
          | rw [← nI_succ]
            exact wl_widen (k1 := kb + 30) (n1 := nb + 180) (by omega) (by omega) (kk _ _ _ _ _ _ _ _ hC9 hm (fun q => absurd (lt_m1000 q) c254))
      · have em : n9 = n + 1 := hor.elim (fun q => absurd q.1 c254) (fun q => q.2)
        subst em
        refine wm_iconst (v := 1) 258 rfl dL_law_257 (by decide) ?_
        refine wm_goto 262 (by decide) dL_law_258 ?_
        refine wm_iadd 263 rfl dL_law_262 ?_
        refine wm_istore_n (ls' := [(2, _), (13, _), (0, _), (1, _), (3, _), (4, _), (5, _), (7, _), (8, _), (9, _), (10, _), (11, _)]) 264 rfl dL_law_263 rfl (by decide) rfl ?_
        refine wm_goto 606 (by decide) dL_law_264 ?_
        refine wm_loc (ls2 := [(0, _), (1, _), (2, _), (3, _), (4, _), (5, _), (7, _), (10, _), (11, _), (13, _)]) [2, 3, 0, 4, 5, 6, 7, 10, 11, 1] rfl ?_
        first
          | rw [Int32.add_zero]
            exact wl_widen (k1 := kb + 30) (n1 := nb + 180) (by omega) (by omega) (kk _ _ _ _ _ _ _ _ hC9 hm (fun _ => hs9))
          | rw [← nI_succ]
            exact wl_widen (k1 := kb + 30) (n1 := nb + 180) (by omega) (by omega) (kk _ _ _ _ _ _ _ _ hC9 hm (fun q => absurd (lt_m1000 q) c254))
theorem cs_274 (l : Launch) (hst : l.stackTraces = false) {D : va_G} {cT ad : Nat → Nat} {b N sz : Nat} {xs : Nat → Int32} {σ : Sg} {n m p d L : Nat} {sn : Nat → Nat} (hC : CI σ n m p d L sn) {wn r o : Nat} (hw : wn < 2 ^ 31) (hr : r < 24) (ho : o < 24) (hm : 1 ≤ m) {y4 y5 y10 : Int32} {y11 : Int64} {kb nb : Nat} (hk : kb + 30 ≤ 676585 ∧ nb + 180 ≤ 7071868) (kk : kk606 l D cT ad b N sz xs σ y4 y5 (nI wn) y10 y11 kb nb) : Wl l D cT ad b N sz xs 274 [(0, .ref 27), (1, .ref 0), (2, .int (nI n)), (3, .int (nI m)), (4, .int y4), (5, .int y5), (7, .int (nI wn)), (8, .int (nI r)), (9, .int (nI o)), (10, .int y10), (11, .long y11)] [] σ kb nb := by
  have h24 := hC.n24
  refine wm_aload_n 275 rfl dL_law_274 rfl rfl ?_
  refine wm_iload 277 rfl dL_law_275 rfl ?_
  refine wm_iload 279 rfl dL_law_277 rfl ?_
  refine wm_bipush (v := 24) 281 rfl dL_law_279 (by decide) ?_
  refine wm_idiv 282 rfl dL_law_281 (by decide) ?_
  refine wm_iconst (v := 4) 283 rfl dL_law_282 (by decide) ?_
  refine wm_irem 284 rfl dL_law_283 (by decide) ?_
  refine wm_iload 286 rfl dL_law_284 rfl ?_
  refine wm_bipush (v := 96) 288 rfl dL_law_286 (by decide) ?_
  refine wm_idiv 289 rfl dL_law_288 (by decide) ?_
  refine wm_bipush (v := 102) 291 rfl dL_law_289 (by decide) ?_
  refine wm_irem 292 rfl dL_law_291 (by decide) ?_
  refine wm_iconst (v := 1) 293 rfl dL_law_292 (by decide) ?_
  refine wm_isub 294 rfl dL_law_293 ?_
  refine wm_iconst (v := 0) 295 rfl dL_law_294 (by decide) ?_
  refine wl_callWi 298 rfl dL_law_295 (h_sets0 l _ _ _ (k_X4_setKey l hst ((stb.rf σ).cIy hC.cI) _ _ _) (show ∀ E ∈ [eIO, eIO, eIA], E ∈ [eIO, eIA] by decide)) cw_L_sets aw_17_18 aw_17_17 ⟨Nat.le_of_ble_eq_true rfl, Nat.le_of_ble_eq_true rfl⟩ (Nat.le_of_ble_eq_true rfl) (show _ ≤ 676585 ∧ _ ≤ 7071868 from ⟨by omega, by omega⟩) (fun r9 σ9 hp => ?_)
  obtain ⟨hC9, hz9⟩ := v_key hC hp
  refine wm_istore (ls' := [(13, _), (0, _), (1, _), (2, _), (3, _), (4, _), (5, _), (7, _), (8, _), (9, _), (10, _), (11, _)]) 300 rfl dL_law_298 (by decide) rfl ?_
  refine wm_goto 606 (by decide) dL_law_300 ?_
  refine wm_loc (ls2 := [(0, _), (1, _), (2, _), (3, _), (4, _), (5, _), (7, _), (10, _), (11, _), (13, _)]) [1, 2, 3, 4, 5, 6, 7, 10, 11, 0] rfl ?_
  exact wl_widen (k1 := kb + 30) (n1 := nb + 180) (by omega) (by omega) (kk _ _ _ _ _ _ _ _ hC9 hm hz9)
theorem cs_310 (l : Launch) (hst : l.stackTraces = false) {D : va_G} {cT ad : Nat → Nat} {b N sz : Nat} {xs : Nat → Int32} {σ : Sg} {n m p d L : Nat} {sn : Nat → Nat} (hC : CI σ n m p d L sn) {wn r o : Nat} (hw : wn < 2 ^ 31) (hr : r < 24) (ho : o < 24) (hm : 1 ≤ m) {y4 y5 y10 : Int32} {y11 : Int64} {kb nb : Nat} (hk : kb + 30 ≤ 676585 ∧ nb + 180 ≤ 7071868) (kk : kk606 l D cT ad b N sz xs σ y4 y5 (nI wn) y10 y11 kb nb) : Wl l D cT ad b N sz xs 310 [(0, .ref 27), (1, .ref 0), (2, .int (nI n)), (3, .int (nI m)), (4, .int y4), (5, .int y5), (7, .int (nI wn)), (8, .int (nI r)), (9, .int (nI o)), (10, .int y10), (11, .long y11)] [] σ kb nb := by
  have h24 := hC.n24
  refine wm_aload_n 311 rfl dL_law_310 rfl rfl ?_
  refine wm_iload 313 rfl dL_law_311 rfl ?_
  refine wm_iload 315 rfl dL_law_313 rfl ?_
  refine wm_bipush (v := 24) 317 rfl dL_law_315 (by decide) ?_
  refine wm_idiv 318 rfl dL_law_317 (by decide) ?_
  refine wm_iconst (v := 4) 319 rfl dL_law_318 (by decide) ?_
  refine wm_irem 320 rfl dL_law_319 (by decide) ?_
  refine wm_iload 322 rfl dL_law_320 rfl ?_
  refine wm_bipush (v := 96) 324 rfl dL_law_322 (by decide) ?_
  refine wm_idiv 325 rfl dL_law_324 (by decide) ?_
  refine wm_iconst (v := 5) 326 rfl dL_law_325 (by decide) ?_
  refine wm_irem 327 rfl dL_law_326 (by decide) ?_
  refine wm_iconst (v := 1) 328 rfl dL_law_327 (by decide) ?_
  refine wm_isub 329 rfl dL_law_328 ?_
  refine wm_iconst (v := 1) 330 rfl dL_law_329 (by decide) ?_
  refine wl_callWi 333 rfl dL_law_330 (h_sets1 l _ _ _ (k_X4_setFact l hst ((stb.rf σ).cIy hC.cI) _ _ _) (show ∀ E ∈ [eIO, eIO, eIA], E ∈ [eIO, eIA] by decide)) cw_L_sets aw_17_18 aw_17_17 ⟨Nat.le_of_ble_eq_true rfl, Nat.le_of_ble_eq_true rfl⟩ (Nat.le_of_ble_eq_true rfl) (show _ ≤ 676585 ∧ _ ≤ 7071868 from ⟨by omega, by omega⟩) (fun r9 σ9 hp => ?_)
  obtain ⟨hC9, hz9⟩ := v_fct hC hp
  refine wm_istore (ls' := [(13, _), (0, _), (1, _), (2, _), (3, _), (4, _), (5, _), (7, _), (8, _), (9, _), (10, _), (11, _)]) 335 rfl dL_law_333 (by decide) rfl ?_
  refine wm_goto 606 (by decide) dL_law_335 ?_
  refine wm_loc (ls2 := [(0, _), (1, _), (2, _), (3, _), (4, _), (5, _), (7, _), (10, _), (11, _), (13, _)]) [1, 2, 3, 4, 5, 6, 7, 10, 11, 0] rfl ?_
  exact wl_widen (k1 := kb + 30) (n1 := nb + 180) (by omega) (by omega) (kk _ _ _ _ _ _ _ _ hC9 hm hz9)
theorem cs_345 (l : Launch) (hst : l.stackTraces = false) {D : va_G} {cT ad : Nat → Nat} {b N sz : Nat} {xs : Nat → Int32} {σ : Sg} {n m p d L : Nat} {sn : Nat → Nat} (hC : CI σ n m p d L sn) {wn r o : Nat} (hw : wn < 2 ^ 31) (hr : r < 24) (ho : o < 24) (hm : 1 ≤ m) {y4 y5 y10 : Int32} {y11 : Int64} {kb nb : Nat} (hk : kb + 30 ≤ 676585 ∧ nb + 180 ≤ 7071868) (kk : kk606 l D cT ad b N sz xs σ y4 y5 (nI wn) y10 y11 kb nb) : Wl l D cT ad b N sz xs 345 [(0, .ref 27), (1, .ref 0), (2, .int (nI n)), (3, .int (nI m)), (4, .int y4), (5, .int y5), (7, .int (nI wn)), (8, .int (nI r)), (9, .int (nI o)), (10, .int y10), (11, .long y11)] [] σ kb nb := by
  have h24 := hC.n24
  refine wm_aload_n 346 rfl dL_law_345 rfl rfl ?_
  refine wm_iload 348 rfl dL_law_346 rfl ?_
  refine wm_iconst (v := 0) 349 rfl dL_law_348 (by decide) ?_
  refine wl_callWi 352 rfl dL_law_349 (h_one0 l _ (k_X4_see l hst ((stb.rf σ).cIy hC.cI) _) (show ∀ E ∈ [eIO], E ∈ [eIO] by decide)) cw_L_one aw_10_7 aw_10_6 ⟨Nat.le_of_ble_eq_true rfl, Nat.le_of_ble_eq_true rfl⟩ (Nat.le_of_ble_eq_true rfl) (show _ ≤ 676585 ∧ _ ≤ 7071868 from ⟨by omega, by omega⟩) (fun r9 σ9 hp => ?_)
  obtain ⟨sn9, hC9, hz9⟩ := v_se hC hp
  refine wm_istore (ls' := [(13, _), (0, _), (1, _), (2, _), (3, _), (4, _), (5, _), (7, _), (8, _), (9, _), (10, _), (11, _)]) 354 rfl dL_law_352 (by decide) rfl ?_
  refine wm_goto 606 (by decide) dL_law_354 ?_
  refine wm_loc (ls2 := [(0, _), (1, _), (2, _), (3, _), (4, _), (5, _), (7, _), (10, _), (11, _), (13, _)]) [1, 2, 3, 4, 5, 6, 7, 10, 11, 0] rfl ?_
  exact wl_widen (k1 := kb + 30) (n1 := nb + 180) (by omega) (by omega) (kk _ _ _ _ _ _ _ _ hC9 hm hz9)
theorem cs_364 (l : Launch) (hst : l.stackTraces = false) {D : va_G} {cT ad : Nat → Nat} {b N sz : Nat} {xs : Nat → Int32} {σ : Sg} {n m p d L : Nat} {sn : Nat → Nat} (hC : CI σ n m p d L sn) {wn r o : Nat} (hw : wn < 2 ^ 31) (hr : r < 24) (ho : o < 24) (hm : 1 ≤ m) {y4 y5 y10 : Int32} {y11 : Int64} {kb nb : Nat} (hk : kb + 30 ≤ 676585 ∧ nb + 180 ≤ 7071868) (kk : kk606 l D cT ad b N sz xs σ y4 y5 (nI wn) y10 y11 kb nb) : Wl l D cT ad b N sz xs 364 [(0, .ref 27), (1, .ref 0), (2, .int (nI n)), (3, .int (nI m)), (4, .int y4), (5, .int y5), (7, .int (nI wn)), (8, .int (nI r)), (9, .int (nI o)), (10, .int y10), (11, .long y11)] [] σ kb nb := by
  have h24 := hC.n24
  refine wm_aload_n 365 rfl dL_law_364 rfl rfl ?_
  refine wm_iload 367 rfl dL_law_365 rfl ?_
  refine wm_bipush (v := 7) 369 rfl dL_law_367 (by decide) ?_
  refine wl_callWi 372 rfl dL_law_369 (h_one7 l _ (k_X4_thingsWithout l hst ((stb.rf σ).cIy hC.cI) _) (show ∀ E ∈ [eIO], E ∈ [eIO] by decide)) cw_L_one aw_10_7 aw_10_6 ⟨Nat.le_of_ble_eq_true rfl, Nat.le_of_ble_eq_true rfl⟩ (Nat.le_of_ble_eq_true rfl) (show _ ≤ 676585 ∧ _ ≤ 7071868 from ⟨by omega, by omega⟩) (fun u τ2 hp => ?_)
  have h7 := hp
  have hs2 : stb σ τ2 := hp.elim (fun ⟨_, _, _, q, _⟩ => q) (fun q => q.1)
  refine wm_istore (ls' := [(15, _), (0, _), (1, _), (2, _), (3, _), (4, _), (5, _), (7, _), (8, _), (9, _), (10, _), (11, _)]) 374 rfl dL_law_372 (by decide) rfl ?_
  refine wm_iload 376 rfl dL_law_374 rfl ?_
  refine wm_iconst (v := 2) 377 rfl dL_law_376 (by decide) ?_
  refine wm_irem 378 rfl dL_law_377 (by decide) ?_
  refine wm_if_ne 391 381 rfl (by decide) dL_law_378 (fun c378 => ?_) (fun c378 => ?_)
  · refine wm_iconst (v := 0) 392 rfl dL_law_391 (by decide) ?_
    refine wm_istore (ls' := [(13, _), (15, _), (0, _), (1, _), (2, _), (3, _), (4, _), (5, _), (7, _), (8, _), (9, _), (10, _), (11, _)]) 394 rfl dL_law_392 (by decide) rfl ?_
    refine wm_iload 396 rfl dL_law_394 rfl ?_
    refine wm_iconst (v := 2) 397 rfl dL_law_396 (by decide) ?_
    refine wm_irem 398 rfl dL_law_397 (by decide) ?_
    refine wm_if_ne 417 401 rfl (by decide) dL_law_398 (fun c398 => ?_) (fun c398 => ?_)
    · refine wm_goto 606 (by decide) dL_law_417 ?_
      refine wm_loc (ls2 := [(0, _), (1, _), (2, _), (3, _), (4, _), (5, _), (7, _), (10, _), (11, _), (13, _)]) [2, 3, 4, 5, 6, 7, 8, 11, 12, 0] rfl ?_
      first
        | exact wl_widen (k1 := kb + 30) (n1 := nb + 180) (by omega) (by omega) (kk _ _ _ _ _ _ _ _ (hC9.st hj8) hm (fun q => absurd (lt_m1000 q) c403))
        | exact wl_widen (k1 := kb + 30) (n1 := nb + 180) (by omega) (by omega) (kk _ _ _ _ _ _ _ _ hC9 hm hz9)
        | exact wl_widen (k1 := kb + 30) (n1 := nb + 180) (by omega) (by omega) (kk _ _ _ _ _ _ _ _ (hC.st hs2) hm (fun q => absurd q (by decide)))
    · exact absurd c398 c378
  · refine wm_aload_n 382 rfl dL_law_381 rfl rfl ?_
    refine wm_iload 384 rfl dL_law_382 rfl ?_
    refine wm_iconst (v := 1) 385 rfl dL_law_384 (by decide) ?_
    refine wl_callWi 388 rfl dL_law_385 (h_one1 l _ (k_X4_drop l hst (hs2.cIy hC.cI) _) (show ∀ E ∈ [eIO], E ∈ [eIO] by decide)) cw_L_one aw_10_7 aw_10_6 ⟨Nat.le_of_ble_eq_true rfl, Nat.le_of_ble_eq_true rfl⟩ (Nat.le_of_ble_eq_true rfl) (show _ ≤ 676585 ∧ _ ≤ 7071868 from ⟨by omega, by omega⟩) (fun r9 σ9 hp => ?_)
    obtain ⟨hC9, hz9, hq9⟩ := v_drp hC hr h7 hp
    refine wm_goto 392 (by decide) dL_law_388 ?_
    refine wm_istore (ls' := [(13, _), (15, _), (0, _), (1, _), (2, _), (3, _), (4, _), (5, _), (7, _), (8, _), (9, _), (10, _), (11, _)]) 394 rfl dL_law_392 (by decide) rfl ?_
    refine wm_iload 396 rfl dL_law_394 rfl ?_
    refine wm_iconst (v := 2) 397 rfl dL_law_396 (by decide) ?_
    refine wm_irem 398 rfl dL_law_397 (by decide) ?_
    refine wm_if_ne 417 401 rfl (by decide) dL_law_398 (fun c398 => ?_) (fun c398 => ?_)
    · exact absurd c378 c398
    · refine wm_iload 403 rfl dL_law_401 rfl ?_
      refine wm_if_lt 417 406 rfl (by decide) dL_law_403 (fun c403 => ?_) (fun c403 => ?_)
      · refine wm_goto 606 (by decide) dL_law_417 ?_
        refine wm_loc (ls2 := [(0, _), (1, _), (2, _), (3, _), (4, _), (5, _), (7, _), (10, _), (11, _), (13, _)]) [2, 3, 4, 5, 6, 7, 8, 11, 12, 0] rfl ?_
        first
          | exact wl_widen (k1 := kb + 30) (n1 := nb + 180) (by omega) (by omega) (kk _ _ _ _ _ _ _ _ (hC9.st hj8) hm (fun q => absurd (lt_m1000 q) c403))
          | exact wl_widen (k1 := kb + 30) (n1 := nb + 180) (by omega) (by omega) (kk _ _ _ _ _ _ _ _ hC9 hm hz9)
          | exact wl_widen (k1 := kb + 30) (n1 := nb + 180) (by omega) (by omega) (kk _ _ _ _ _ _ _ _ (hC.st hs2) hm (fun q => absurd q (by decide)))
      · obtain ⟨ρ, hρ, eu⟩ := hq9.resolve_left c403
        subst eu
        refine wm_aload_n 407 rfl dL_law_406 rfl rfl ?_
        refine wm_callVi (ty := .int) 410 rfl dL_law_407 (k_X4_things l hC9.cI) ca_X4_things cv_X4_things rfl aw_4_12 rfl rfl ⟨Nat.le_of_ble_eq_true rfl, Nat.le_of_ble_eq_true rfl⟩ (Nat.le_of_ble_eq_true rfl) (show _ ≤ 676585 ∧ _ ≤ 7071868 from ⟨by omega, by omega⟩) ?_
        intro r8 σ8 hp
        obtain ⟨hs8, -, e8⟩ := s_things hρ hp
        subst e8
        have hj8 := hp.1.1
        refine wm_iload 412 rfl dL_law_410 rfl ?_
        refine wm_icmp_eq 417 415 rfl (by decide) dL_law_412 (fun c412 => ?_) (fun c412 => ?_)
        · refine wm_goto 606 (by decide) dL_law_417 ?_
          refine wm_loc (ls2 := [(0, _), (1, _), (2, _), (3, _), (4, _), (5, _), (7, _), (10, _), (11, _), (13, _)]) [2, 3, 4, 5, 6, 7, 8, 11, 12, 0] rfl ?_
          first
            | exact wl_widen (k1 := kb + 30) (n1 := nb + 180) (by omega) (by omega) (kk _ _ _ _ _ _ _ _ (hC9.st hj8) hm (fun q => absurd (lt_m1000 q) c403))
            | exact wl_widen (k1 := kb + 30) (n1 := nb + 180) (by omega) (by omega) (kk _ _ _ _ _ _ _ _ hC9 hm hz9)
            | exact wl_widen (k1 := kb + 30) (n1 := nb + 180) (by omega) (by omega) (kk _ _ _ _ _ _ _ _ (hC.st hs2) hm (fun q => absurd q (by decide)))
        · exact absurd rfl c412
theorem cs_427 (l : Launch) (hst : l.stackTraces = false) {D : va_G} {cT ad : Nat → Nat} {b N sz : Nat} {xs : Nat → Int32} {σ : Sg} {n m p d L : Nat} {sn : Nat → Nat} (hC : CI σ n m p d L sn) {wn r o : Nat} (hw : wn < 2 ^ 31) (hr : r < 24) (ho : o < 24) (hm : 1 ≤ m) {y4 y5 y10 : Int32} {y11 : Int64} {kb nb : Nat} (hk : kb + 30 ≤ 676585 ∧ nb + 180 ≤ 7071868) (kk : kk606 l D cT ad b N sz xs σ y4 y5 (nI wn) y10 y11 kb nb) : Wl l D cT ad b N sz xs 427 [(0, .ref 27), (1, .ref 0), (2, .int (nI n)), (3, .int (nI m)), (4, .int y4), (5, .int y5), (7, .int (nI wn)), (8, .int (nI r)), (9, .int (nI o)), (10, .int y10), (11, .long y11)] [] σ kb nb := by
  have h24 := hC.n24
  refine wm_aload_n 428 rfl dL_law_427 rfl rfl ?_
  refine wm_iload 430 rfl dL_law_428 rfl ?_
  refine wm_iload 432 rfl dL_law_430 rfl ?_
  refine wm_iconst (v := 0) 433 rfl dL_law_432 (by decide) ?_
  refine wl_callWi 436 rfl dL_law_433 (h_pair0 l _ _ (k_X4_forbid l hst ((stb.rf σ).cIy hC.cI) (hC.2.2.1.1) (hC.2.2.1.2) _ _) (show ∀ E ∈ [eIO, eIO, eIA, eIS, eIS], E ∈ [eIO, eIA, eIS, eNS] by decide)) cw_L_pair aw_18_9 aw_18_8 ⟨Nat.le_of_ble_eq_true rfl, Nat.le_of_ble_eq_true rfl⟩ (Nat.le_of_ble_eq_true rfl) (show _ ≤ 676585 ∧ _ ≤ 7071868 from ⟨by omega, by omega⟩) (fun r9 σ9 hp => ?_)
  obtain ⟨p9, hC9, hz9, hq9⟩ := v_fbd hC hr ho hp
  refine wm_istore (ls' := [(13, _), (0, _), (1, _), (2, _), (3, _), (4, _), (5, _), (7, _), (8, _), (9, _), (10, _), (11, _)]) 438 rfl dL_law_436 (by decide) rfl ?_
  refine wm_iload 440 rfl dL_law_438 rfl ?_
  refine wm_if_lt 606 443 rfl (by decide) dL_law_440 (fun c440 => ?_) (fun c440 => ?_)
  · refine wm_loc (ls2 := [(0, _), (1, _), (2, _), (3, _), (4, _), (5, _), (7, _), (10, _), (11, _), (13, _)]) [1, 2, 3, 4, 5, 6, 7, 10, 11, 0] rfl ?_
    first
      | exact wl_widen (k1 := kb + 30) (n1 := nb + 180) (by omega) (by omega) (kk _ _ _ _ _ _ _ _ (hC9.st hs8) hm (fun q => absurd (lt_m1000 q) c440))
      | exact wl_widen (k1 := kb + 30) (n1 := nb + 180) (by omega) (by omega) (kk _ _ _ _ _ _ _ _ hC9 hm hz9)
  · obtain ⟨hr9, ho9, hne, hfb⟩ := hq9.resolve_left c440
    refine wm_aload_n 444 rfl dL_law_443 rfl rfl ?_
    refine wm_iload 446 rfl dL_law_444 rfl ?_
    refine wm_iload 448 rfl dL_law_446 rfl ?_
    refine wm_iconst (v := 2) 449 rfl dL_law_448 (by decide) ?_
    refine wl_callWi 452 rfl dL_law_449 (h_pair2 l _ _ (k_X4_areTogether l hst ((stb.rf σ9).cIy hC9.cI) _ _) (show ∀ E ∈ [eIO, eIO], E ∈ [eIO, eIA, eIS, eNS] by decide) (fun v σ1 h => by obtain ⟨x, y, -, -, -, -, -, rfl⟩ := h; exact zp_01)) cw_L_pair aw_18_9 aw_18_8 ⟨Nat.le_of_ble_eq_true rfl, Nat.le_of_ble_eq_true rfl⟩ (Nat.le_of_ble_eq_true rfl) (show _ ≤ 676585 ∧ _ ≤ 7071868 from ⟨by omega, by omega⟩) (fun r8 σ8 hp => ?_)
    obtain ⟨hs8, hg8, e8⟩ := s_tog hC9 (stb.rf σ9) hr9 ho9 hp
    subst e8
    refine wm_if_eq 606 455 rfl (by decide) dL_law_452 (fun c452 => ?_) (fun c452 => ?_)
    · refine wm_loc (ls2 := [(0, _), (1, _), (2, _), (3, _), (4, _), (5, _), (7, _), (10, _), (11, _), (13, _)]) [1, 2, 3, 4, 5, 6, 7, 10, 11, 0] rfl ?_
      first
        | exact wl_widen (k1 := kb + 30) (n1 := nb + 180) (by omega) (by omega) (kk _ _ _ _ _ _ _ _ (hC9.st hs8) hm (fun q => absurd (lt_m1000 q) c440))
        | exact wl_widen (k1 := kb + 30) (n1 := nb + 180) (by omega) (by omega) (kk _ _ _ _ _ _ _ _ hC9 hm hz9)
    · exact absurd hfb (grs_nofb hg8 hr9.1 ho9.1 hr9 ho9 hne (zp_n.mp c452))
theorem cs_464 (l : Launch) (hst : l.stackTraces = false) {D : va_G} {cT ad : Nat → Nat} {b N sz : Nat} {xs : Nat → Int32} {σ : Sg} {n m p d L : Nat} {sn : Nat → Nat} (hC : CI σ n m p d L sn) {wn r o : Nat} (hw : wn < 2 ^ 31) (hr : r < 24) (ho : o < 24) (hm : 1 ≤ m) {y4 y5 y10 : Int32} {y11 : Int64} {kb nb : Nat} (hk : kb + 30 ≤ 676585 ∧ nb + 180 ≤ 7071868) (kk : kk606 l D cT ad b N sz xs σ y4 y5 (nI wn) y10 y11 kb nb) : Wl l D cT ad b N sz xs 464 [(0, .ref 27), (1, .ref 0), (2, .int (nI n)), (3, .int (nI m)), (4, .int y4), (5, .int y5), (7, .int (nI wn)), (8, .int (nI r)), (9, .int (nI o)), (10, .int y10), (11, .long y11)] [] σ kb nb := by
  have h24 := hC.n24
  refine wm_aload_n 465 rfl dL_law_464 rfl rfl ?_
  refine wm_iload 467 rfl dL_law_465 rfl ?_
  refine wm_iload 469 rfl dL_law_467 rfl ?_
  refine wm_iconst (v := 4) 470 rfl dL_law_469 (by decide) ?_
  refine wl_callWi 473 rfl dL_law_470 (h_pair4 l _ _ (k_X4_thingsIfAllowed l hst ((stb.rf σ).cIy hC.cI) (hC.sy) _ _) (show ∀ E ∈ [eIO, eIO, eNS], E ∈ [eIO, eIA, eIS, eNS] by decide)) cw_L_pair aw_18_9 aw_18_8 ⟨Nat.le_of_ble_eq_true rfl, Nat.le_of_ble_eq_true rfl⟩ (Nat.le_of_ble_eq_true rfl) (show _ ≤ 676585 ∧ _ ≤ 7071868 from ⟨by omega, by omega⟩) (fun u τ2 hp => ?_)
  have h4 := hp
  have hs2 : stb σ τ2 := hp.elim (fun ⟨_, _, _, _, _, _, _, q, _⟩ => q) (fun q => q.1)
  refine wm_istore (ls' := [(15, _), (0, _), (1, _), (2, _), (3, _), (4, _), (5, _), (7, _), (8, _), (9, _), (10, _), (11, _)]) 475 rfl dL_law_473 (by decide) rfl ?_
  refine wm_aload_n 476 rfl dL_law_475 rfl rfl ?_
  refine wm_iload 478 rfl dL_law_476 rfl ?_
  refine wm_iload 480 rfl dL_law_478 rfl ?_
  refine wm_iconst (v := 1) 481 rfl dL_law_480 (by decide) ?_
  refine wl_callWi 484 rfl dL_law_481 (h_pair1 l _ _ (k_X4_allow l hst (hs2.cIy hC.cI) _ _) (show ∀ E ∈ [eIO, eIO, eNS], E ∈ [eIO, eIA, eIS, eNS] by decide)) cw_L_pair aw_18_9 aw_18_8 ⟨Nat.le_of_ble_eq_true rfl, Nat.le_of_ble_eq_true rfl⟩ (Nat.le_of_ble_eq_true rfl) (show _ ≤ 676585 ∧ _ ≤ 7071868 from ⟨by omega, by omega⟩) (fun r9 σ9 hp => ?_)
  obtain ⟨p9, hC9, hz9, hq9⟩ := v_alw hC h4 hp
  refine wm_istore (ls' := [(13, _), (15, _), (0, _), (1, _), (2, _), (3, _), (4, _), (5, _), (7, _), (8, _), (9, _), (10, _), (11, _)]) 486 rfl dL_law_484 (by decide) rfl ?_
  refine wm_iload 488 rfl dL_law_486 rfl ?_
  refine wm_if_lt 502 491 rfl (by decide) dL_law_488 (fun c488 => ?_) (fun c488 => ?_)
  · refine wm_goto 606 (by decide) dL_law_502 ?_
    refine wm_loc (ls2 := [(0, _), (1, _), (2, _), (3, _), (4, _), (5, _), (7, _), (10, _), (11, _), (13, _)]) [2, 3, 4, 5, 6, 7, 8, 11, 12, 0] rfl ?_
    first
      | exact wl_widen (k1 := kb + 30) (n1 := nb + 180) (by omega) (by omega) (kk _ _ _ _ _ _ _ _ (hC9.st hj8) hm (fun q => absurd (lt_m1000 q) c488))
      | exact wl_widen (k1 := kb + 30) (n1 := nb + 180) (by omega) (by omega) (kk _ _ _ _ _ _ _ _ hC9 hm hz9)
  · obtain ⟨ρ, hρ, eu⟩ := hq9.resolve_left c488
    subst eu
    refine wm_aload_n 492 rfl dL_law_491 rfl rfl ?_
    refine wm_callVi (ty := .int) 495 rfl dL_law_492 (k_X4_things l hC9.cI) ca_X4_things cv_X4_things rfl aw_4_12 rfl rfl ⟨Nat.le_of_ble_eq_true rfl, Nat.le_of_ble_eq_true rfl⟩ (Nat.le_of_ble_eq_true rfl) (show _ ≤ 676585 ∧ _ ≤ 7071868 from ⟨by omega, by omega⟩) ?_
    intro r8 σ8 hp
    obtain ⟨hs8, -, e8⟩ := s_things hρ hp
    subst e8
    have hj8 := hp.1.1
    refine wm_iload 497 rfl dL_law_495 rfl ?_
    refine wm_icmp_eq 502 500 rfl (by decide) dL_law_497 (fun c497 => ?_) (fun c497 => ?_)
    · refine wm_goto 606 (by decide) dL_law_502 ?_
      refine wm_loc (ls2 := [(0, _), (1, _), (2, _), (3, _), (4, _), (5, _), (7, _), (10, _), (11, _), (13, _)]) [2, 3, 4, 5, 6, 7, 8, 11, 12, 0] rfl ?_
      first
        | exact wl_widen (k1 := kb + 30) (n1 := nb + 180) (by omega) (by omega) (kk _ _ _ _ _ _ _ _ (hC9.st hj8) hm (fun q => absurd (lt_m1000 q) c488))
        | exact wl_widen (k1 := kb + 30) (n1 := nb + 180) (by omega) (by omega) (kk _ _ _ _ _ _ _ _ hC9 hm hz9)
    · exact absurd rfl c497
theorem cs_512 (l : Launch) (hst : l.stackTraces = false) {D : va_G} {cT ad : Nat → Nat} {b N sz : Nat} {xs : Nat → Int32} {σ : Sg} {n m p d L : Nat} {sn : Nat → Nat} (hC : CI σ n m p d L sn) {wn r o : Nat} (hw : wn < 2 ^ 31) (hr : r < 24) (ho : o < 24) (hm : 1 ≤ m) {y4 y5 y10 : Int32} {y11 : Int64} {kb nb : Nat} (hk : kb + 30 ≤ 676585 ∧ nb + 180 ≤ 7071868) (kk : kk606 l D cT ad b N sz xs σ y4 y5 (nI wn) y10 y11 kb nb) : Wl l D cT ad b N sz xs 512 [(0, .ref 27), (1, .ref 0), (2, .int (nI n)), (3, .int (nI m)), (4, .int y4), (5, .int y5), (7, .int (nI wn)), (8, .int (nI r)), (9, .int (nI o)), (10, .int y10), (11, .long y11)] [] σ kb nb := by
  have h24 := hC.n24
  refine wm_aload_n 513 rfl dL_law_512 rfl rfl ?_
  refine wm_iload 515 rfl dL_law_513 rfl ?_
  refine wm_bipush (v := 40) 517 rfl dL_law_515 (by decide) ?_
  refine wm_irem 518 rfl dL_law_517 (by decide) ?_
  rw [show nI wn - nI wn / 40 * 40 = nI (wn % 40) from pk_rem (d := 40) hw (by omega) (by omega)]
  refine wm_iconst (v := 1) 519 rfl dL_law_518 (by decide) ?_
  refine wl_callWi 522 rfl dL_law_519 (h_days1 l _ (k_X4_setLimit l hst _) (show ∀ E ∈ [eIA], E ∈ [eIA] by decide)) cw_L_days aw_20_12 aw_20_11 ⟨Nat.le_of_ble_eq_true rfl, Nat.le_of_ble_eq_true rfl⟩ (Nat.le_of_ble_eq_true rfl) (show _ ≤ 676585 ∧ _ ≤ 7071868 from ⟨by omega, by omega⟩) (fun r9 σ9 hp => ?_)
  obtain ⟨L9, hC9, hz9⟩ := v_lim hC (t := wn % 40) (by omega) hp
  refine wm_istore (ls' := [(13, _), (0, _), (1, _), (2, _), (3, _), (4, _), (5, _), (7, _), (8, _), (9, _), (10, _), (11, _)]) 524 rfl dL_law_522 (by decide) rfl ?_
  refine wm_goto 606 (by decide) dL_law_524 ?_
  refine wm_loc (ls2 := [(0, _), (1, _), (2, _), (3, _), (4, _), (5, _), (7, _), (10, _), (11, _), (13, _)]) [1, 2, 3, 4, 5, 6, 7, 10, 11, 0] rfl ?_
  exact wl_widen (k1 := kb + 30) (n1 := nb + 180) (by omega) (by omega) (kk _ _ _ _ _ _ _ _ hC9 hm hz9)
theorem cs_534 (l : Launch) (hst : l.stackTraces = false) {D : va_G} {cT ad : Nat → Nat} {b N sz : Nat} {xs : Nat → Int32} {σ : Sg} {n m p d L : Nat} {sn : Nat → Nat} (hC : CI σ n m p d L sn) {wn r o : Nat} (hw : wn < 2 ^ 31) (hr : r < 24) (ho : o < 24) (hm : 1 ≤ m) {y4 y5 y10 : Int32} {y11 : Int64} {kb nb : Nat} (hk : kb + 30 ≤ 676585 ∧ nb + 180 ≤ 7071868) (kk : kk606 l D cT ad b N sz xs σ y4 y5 (nI wn) y10 y11 kb nb) : Wl l D cT ad b N sz xs 534 [(0, .ref 27), (1, .ref 0), (2, .int (nI n)), (3, .int (nI m)), (4, .int y4), (5, .int y5), (7, .int (nI wn)), (8, .int (nI r)), (9, .int (nI o)), (10, .int y10), (11, .long y11)] [] σ kb nb := by
  have h24 := hC.n24
  refine wm_aload_n 535 rfl dL_law_534 rfl rfl ?_
  refine wm_iload 537 rfl dL_law_535 rfl ?_
  refine wm_iload 539 rfl dL_law_537 rfl ?_
  refine wm_iconst (v := 3) 540 rfl dL_law_539 (by decide) ?_
  refine wm_irem 541 rfl dL_law_540 (by decide) ?_
  refine wm_iload 543 rfl dL_law_541 rfl ?_
  refine wm_bipush (v := 9) 545 rfl dL_law_543 (by decide) ?_
  refine wm_idiv 546 rfl dL_law_545 (by decide) ?_
  refine wm_iconst (v := 5) 547 rfl dL_law_546 (by decide) ?_
  refine wm_irem 548 rfl dL_law_547 (by decide) ?_
  refine wm_iconst (v := 2) 549 rfl dL_law_548 (by decide) ?_
  refine wl_callWi 552 rfl dL_law_549 (h_sets2 l _ _ _ (k_X4_thingsIf l hst ((stb.rf σ).cIy hC.cI) _ _ _) (show ∀ E ∈ [eIO, eIO, eIA], E ∈ [eIO, eIA] by decide)) cw_L_sets aw_17_18 aw_17_17 ⟨Nat.le_of_ble_eq_true rfl, Nat.le_of_ble_eq_true rfl⟩ (Nat.le_of_ble_eq_true rfl) (show _ ≤ 676585 ∧ _ ≤ 7071868 from ⟨by omega, by omega⟩) (fun u τ2 hp => ?_)
  have h2 := hp
  have hs2 : stb σ τ2 := hp.elim (fun ⟨_, _, _, _, _, _, _, q, _⟩ => q) (fun q => q.1)
  refine wm_istore (ls' := [(15, _), (0, _), (1, _), (2, _), (3, _), (4, _), (5, _), (7, _), (8, _), (9, _), (10, _), (11, _)]) 554 rfl dL_law_552 (by decide) rfl ?_
  refine wm_aload_n 555 rfl dL_law_554 rfl rfl ?_
  refine wm_iload 557 rfl dL_law_555 rfl ?_
  refine wm_iload 559 rfl dL_law_557 rfl ?_
  refine wm_iconst (v := 3) 560 rfl dL_law_559 (by decide) ?_
  refine wm_irem 561 rfl dL_law_560 (by decide) ?_
  refine wm_iload 563 rfl dL_law_561 rfl ?_
  refine wm_bipush (v := 9) 565 rfl dL_law_563 (by decide) ?_
  refine wm_idiv 566 rfl dL_law_565 (by decide) ?_
  refine wm_iconst (v := 5) 567 rfl dL_law_566 (by decide) ?_
  refine wm_irem 568 rfl dL_law_567 (by decide) ?_
  refine wm_iconst (v := 0) 569 rfl dL_law_568 (by decide) ?_
  refine wl_callWi 572 rfl dL_law_569 (h_sets0 l _ _ _ (k_X4_setKey l hst (hs2.cIy hC.cI) _ _ _) (show ∀ E ∈ [eIO, eIO, eIA], E ∈ [eIO, eIA] by decide)) cw_L_sets aw_17_18 aw_17_17 ⟨Nat.le_of_ble_eq_true rfl, Nat.le_of_ble_eq_true rfl⟩ (Nat.le_of_ble_eq_true rfl) (show _ ≤ 676585 ∧ _ ≤ 7071868 from ⟨by omega, by omega⟩) (fun r9 σ9 hp => ?_)
  obtain ⟨hC9, hz9, hq9⟩ := v_tif hC h2 hp
  refine wm_istore (ls' := [(13, _), (15, _), (0, _), (1, _), (2, _), (3, _), (4, _), (5, _), (7, _), (8, _), (9, _), (10, _), (11, _)]) 574 rfl dL_law_572 (by decide) rfl ?_
  refine wm_iload 576 rfl dL_law_574 rfl ?_
  refine wm_iconst (v := (-1)) 577 rfl dL_law_576 (by decide) ?_
  refine wm_icmp_lt 591 580 rfl (by decide) dL_law_577 (fun c577 => ?_) (fun c577 => ?_)
  · refine wm_goto 606 (by decide) dL_law_591 ?_
    refine wm_loc (ls2 := [(0, _), (1, _), (2, _), (3, _), (4, _), (5, _), (7, _), (10, _), (11, _), (13, _)]) [2, 3, 4, 5, 6, 7, 8, 11, 12, 0] rfl ?_
    first
      | exact wl_widen (k1 := kb + 30) (n1 := nb + 180) (by omega) (by omega) (kk _ _ _ _ _ _ _ _ (hC9.st hj8) hm (fun q => absurd (Int32.lt_trans q (by decide)) c577))
      | exact wl_widen (k1 := kb + 30) (n1 := nb + 180) (by omega) (by omega) (kk _ _ _ _ _ _ _ _ hC9 hm hz9)
  · obtain ⟨ρ, hρ, eu⟩ := hq9.resolve_left c577
    subst eu
    refine wm_aload_n 581 rfl dL_law_580 rfl rfl ?_
    refine wm_callVi (ty := .int) 584 rfl dL_law_581 (k_X4_things l hC9.cI) ca_X4_things cv_X4_things rfl aw_4_12 rfl rfl ⟨Nat.le_of_ble_eq_true rfl, Nat.le_of_ble_eq_true rfl⟩ (Nat.le_of_ble_eq_true rfl) (show _ ≤ 676585 ∧ _ ≤ 7071868 from ⟨by omega, by omega⟩) ?_
    intro r8 σ8 hp
    obtain ⟨hs8, -, e8⟩ := s_things hρ hp
    subst e8
    have hj8 := hp.1.1
    refine wm_iload 586 rfl dL_law_584 rfl ?_
    refine wm_icmp_eq 591 589 rfl (by decide) dL_law_586 (fun c586 => ?_) (fun c586 => ?_)
    · refine wm_goto 606 (by decide) dL_law_591 ?_
      refine wm_loc (ls2 := [(0, _), (1, _), (2, _), (3, _), (4, _), (5, _), (7, _), (10, _), (11, _), (13, _)]) [2, 3, 4, 5, 6, 7, 8, 11, 12, 0] rfl ?_
      first
        | exact wl_widen (k1 := kb + 30) (n1 := nb + 180) (by omega) (by omega) (kk _ _ _ _ _ _ _ _ (hC9.st hj8) hm (fun q => absurd (Int32.lt_trans q (by decide)) c577))
        | exact wl_widen (k1 := kb + 30) (n1 := nb + 180) (by omega) (by omega) (kk _ _ _ _ _ _ _ _ hC9 hm hz9)
    · exact absurd rfl c586
theorem cs_594 (l : Launch) (hst : l.stackTraces = false) {D : va_G} {cT ad : Nat → Nat} {b N sz : Nat} {xs : Nat → Int32} {σ : Sg} {n m p d L : Nat} {sn : Nat → Nat} (hC : CI σ n m p d L sn) {wn r o : Nat} (hw : wn < 2 ^ 31) (hr : r < 24) (ho : o < 24) (hm : 1 ≤ m) {y4 y5 y10 : Int32} {y11 : Int64} {kb nb : Nat} (hk : kb + 30 ≤ 676585 ∧ nb + 180 ≤ 7071868) (kk : kk606 l D cT ad b N sz xs σ y4 y5 (nI wn) y10 y11 kb nb) : Wl l D cT ad b N sz xs 594 [(0, .ref 27), (1, .ref 0), (2, .int (nI n)), (3, .int (nI m)), (4, .int y4), (5, .int y5), (7, .int (nI wn)), (8, .int (nI r)), (9, .int (nI o)), (10, .int y10), (11, .long y11)] [] σ kb nb := by
  have h24 := hC.n24
  refine wm_aload_n 595 rfl dL_law_594 rfl rfl ?_
  refine wm_iload 597 rfl dL_law_595 rfl ?_
  refine wm_bipush (v := 20) 599 rfl dL_law_597 (by decide) ?_
  refine wm_irem 600 rfl dL_law_599 (by decide) ?_
  rw [show nI wn - nI wn / 20 * 20 = nI (wn % 20) from pk_rem (d := 20) hw (by omega) (by omega)]
  refine wm_iconst (v := 0) 601 rfl dL_law_600 (by decide) ?_
  refine wl_callWi 604 rfl dL_law_601 (h_days0 l _ (k_X4_pass l hst _) (show ∀ E ∈ [eIA, eIA], E ∈ [eIA] by decide)) cw_L_days aw_20_12 aw_20_11 ⟨Nat.le_of_ble_eq_true rfl, Nat.le_of_ble_eq_true rfl⟩ (Nat.le_of_ble_eq_true rfl) (show _ ≤ 676585 ∧ _ ≤ 7071868 from ⟨by omega, by omega⟩) (fun r9 σ9 hp => ?_)
  obtain ⟨d9, hC9, hz9⟩ := v_pas hC (t := wn % 20) (by omega) hp
  refine wm_istore (ls' := [(13, _), (0, _), (1, _), (2, _), (3, _), (4, _), (5, _), (7, _), (8, _), (9, _), (10, _), (11, _)]) 606 rfl dL_law_604 (by decide) rfl ?_
  refine wm_loc (ls2 := [(0, _), (1, _), (2, _), (3, _), (4, _), (5, _), (7, _), (10, _), (11, _), (13, _)]) [1, 2, 3, 4, 5, 6, 7, 10, 11, 0] rfl ?_
  exact wl_widen (k1 := kb + 30) (n1 := nb + 180) (by omega) (by omega) (kk _ _ _ _ _ _ _ _ hC9 hm hz9)
