/-! THE START: the tables' words, the classes, what is known of the machine -/
/-- a private method of an abstract class: an object of a class below it selects it -/
theorem sel_priv {y y0 : MethodName} {C : String} {s : State} {args : Array Value} (hy : y.cls ≠ "java/lang/invoke/MethodHandle" ∧ y.cls ≠ "java/lang/invoke/VarHandle") (hc0 : y0.cls = y.cls) {x0 : MethodName} (hsel : (Cond.selects C x0 y0).before args s = true) (hpriv : (Cond.privateMethod y).before args s = true) (hinst : (Cond.instanceMethod y).before args s = true) : (Cond.selects C y y).before args s = true := by
  obtain ⟨c, r0, m0, hc, -, hm0, -, k, hk, hni⟩ := Cond.selects_spec hsel
  obtain ⟨mk, methM, hnamed, hmethM, -, -⟩ := Cond.instanceMethod_spec hinst
  have hfound : s.methodFound? y.cls y.name y.desc = some mk := State.methodFound?_of_named hnamed hy
  have h0 := findClass_of_methodNamed hm0
  rw [hc0] at h0
  have hcls : mk.cls = m0.cls := Option.some.inj ((findClass_of_methodNamed hnamed).symm.trans h0)
  have hsl : selectMethod {} s.vm c mk = .method mk := selectMethod_private hmethM (Cond.privateMethod_at hpriv mk methM hnamed hmethM)
  simp only [Cond.before, Cond.holds, Cond.value, hc, hfound, hnamed, hsl, hcls, hk]
  simp
  exact hni
def zSel4 : List Cond := [Cond.selects RX2 ⟨"Assetmerge$Finder", "joinClusters", "(LAssetmerge$Inventory;I)V"⟩ yX0_joinClusters, Cond.selects RX2 ⟨"Assetmerge$Finder", "membersOf", "(ILAssetmerge$Inventory;)I"⟩ yX0_membersOf, Cond.selects RX3 ⟨"Assetmerge$Finder", "joinClusters", "(LAssetmerge$Inventory;I)V"⟩ yX0_joinClusters, Cond.selects RX3 ⟨"Assetmerge$Finder", "membersOf", "(ILAssetmerge$Inventory;)I"⟩ yX0_membersOf]
def zTb : List Cond := lw_tbl ++ zSel4
theorem tS2 : Cond.selects RX2 ⟨"Assetmerge$Finder", "groupBefore", "(II)I"⟩ yX0_groupBefore ∈ lw_tbl := by decide +kernel
theorem tS3 : Cond.selects RX3 ⟨"Assetmerge$Finder", "groupBefore", "(II)I"⟩ yX0_groupBefore ∈ lw_tbl := by decide +kernel
theorem tPj : Cond.privateMethod yX0_joinClusters ∈ lw_tbl := by decide +kernel
theorem tPm : Cond.privateMethod yX0_membersOf ∈ lw_tbl := by decide +kernel
theorem tIj : Cond.instanceMethod yX0_joinClusters ∈ lw_tbl := by decide +kernel
theorem tIm : Cond.instanceMethod yX0_membersOf ∈ lw_tbl := by decide +kernel
theorem zTb_hts {args : Array Value} {s : State} (hts : ∀ w ∈ lw_tbl, w.before args s = true) : ∀ w ∈ zTb, w.before args s = true := by
  intro w h
  rcases List.mem_append.mp h with h | h
  · exact hts w h
  · simp only [zSel4, List.mem_cons, List.not_mem_nil, or_false] at h
    rcases h with rfl | rfl | rfl | rfl
    · exact sel_priv ⟨by decide +kernel, by decide +kernel⟩ (y0 := yX0_groupBefore) rfl (hts _ tS2) (hts _ tPj) (hts _ tIj)
    · exact sel_priv ⟨by decide +kernel, by decide +kernel⟩ (y0 := yX0_groupBefore) rfl (hts _ tS2) (hts _ tPm) (hts _ tIm)
    · exact sel_priv ⟨by decide +kernel, by decide +kernel⟩ (y0 := yX0_groupBefore) rfl (hts _ tS3) (hts _ tPj) (hts _ tIj)
    · exact sel_priv ⟨by decide +kernel, by decide +kernel⟩ (y0 := yX0_groupBefore) rfl (hts _ tS3) (hts _ tPm) (hts _ tIm)
theorem zTb_in (ws : List Cond) (ps : List Nat) (hp : ws = ps.filterMap (fun i => zTb[i]?)) : ∀ w ∈ ws, w ∈ zTb := by
  intro w hw
  rw [hp] at hw
  obtain ⟨i, -, hi⟩ := List.mem_filterMap.mp hw
  exact List.mem_of_getElem? hi
set_option maxRecDepth 20000 in
theorem zi_1 : ∀ w ∈ wsL_law0_r1, w ∈ zTb := zTb_in wsL_law0_r1 [41, 42, 27, 713, 712, 193, 32, 194, 653, 43, 44, 45, 46, 47, 48, 49, 50, 28, 132, 98, 99, 30, 133, 123] (by decide +kernel)
set_option maxRecDepth 20000 in
theorem zi_2 : ∀ w ∈ wsL_law0_r2, w ∈ zTb := zTb_in wsL_law0_r2 [124, 31, 134, 97, 135, 137, 52, 53, 54, 57, 59, 60, 55, 62, 64, 66, 101, 102, 104, 29, 105, 106, 107, 108] (by decide +kernel)
set_option maxRecDepth 20000 in
theorem zi_3 : ∀ w ∈ wsL_law0_r3, w ∈ zTb := zTb_in wsL_law0_r3 [113, 126, 127, 244, 245, 26, 246, 247, 248, 249, 666, 667, 668, 673, 674, 683, 688, 693, 698, 699, 669, 670, 671, 672] (by decide +kernel)
set_option maxRecDepth 20000 in
theorem zi_4 : ∀ w ∈ wsL_law0_r4, w ∈ zTb := zTb_in wsL_law0_r4 [435, 436, 437, 438, 67, 439, 440, 33, 441, 442, 443, 444, 151, 152, 153, 154, 155, 157, 0, 158, 74, 159, 160, 162] (by decide +kernel)
set_option maxRecDepth 20000 in
theorem zi_5 : ∀ w ∈ wsL_law0_r5, w ∈ zTb := zTb_in wsL_law0_r5 [163, 164, 73, 165, 167, 168, 166, 170, 169, 171, 173, 174, 175, 176, 70, 114, 115, 177, 178, 179, 180, 181, 182, 183] (by decide +kernel)
set_option maxRecDepth 20000 in
theorem zi_6 : ∀ w ∈ wsL_law0_r6, w ∈ zTb := zTb_in wsL_law0_r6 [184, 71, 185, 187, 1, 188, 189, 190, 191, 192, 195, 196, 197, 198, 200, 2, 201, 72, 116, 117, 202, 204, 3, 205] (by decide +kernel)
set_option maxRecDepth 20000 in
theorem zi_7 : ∀ w ∈ wsL_law0_r7, w ∈ zTb := zTb_in wsL_law0_r7 [206, 207, 209, 210, 211, 714, 727, 213, 214, 215, 715, 728, 217, 218, 219, 730, 220, 221, 222, 223, 224, 226, 4, 227] (by decide +kernel)
set_option maxRecDepth 20000 in
theorem zi_8 : ∀ w ∈ wsL_law0_r8, w ∈ zTb := zTb_in wsL_law0_r8 [228, 229, 230, 231, 233, 5, 234, 729, 235, 237, 6, 238, 239, 241, 7, 242, 111, 112, 243, 675, 676, 677, 678, 468] (by decide +kernel)
set_option maxRecDepth 20000 in
theorem zi_9 : ∀ w ∈ wsL_law0_r9, w ∈ zTb := zTb_in wsL_law0_r9 [470, 12, 471, 679, 681, 24, 682, 684, 685, 686, 687, 136, 689, 690, 691, 692, 489, 491, 13, 492, 493, 495, 14, 496] (by decide +kernel)
set_option maxRecDepth 20000 in
theorem zi_10 : ∀ w ∈ wsL_law0_r10, w ∈ zTb := zTb_in wsL_law0_r10 [61, 497, 694, 695, 696, 697, 420, 421, 422, 253, 423, 424, 425, 426, 399, 401, 10, 402, 360, 37, 427, 428, 429, 430] (by decide +kernel)
set_option maxRecDepth 20000 in
theorem zi_11 : ∀ w ∈ wsL_law0_r11, w ∈ zTb := zTb_in wsL_law0_r11 [431, 432, 433, 434, 445, 446, 447, 448, 449, 450, 451, 452, 453, 455, 11, 456, 457, 458, 459, 460, 109, 110, 461, 462] (by decide +kernel)
set_option maxRecDepth 20000 in
theorem zi_12 : ∀ w ∈ wsL_law0_r12, w ∈ zTb := zTb_in wsL_law0_r12 [463, 464, 465, 466, 467, 472, 473, 474, 475, 476, 477, 478, 479, 480, 481, 482, 483, 484, 389, 390, 391, 485, 486, 487] (by decide +kernel)
set_option maxRecDepth 20000 in
theorem zi_13 : ∀ w ∈ wsL_law0_r13, w ∈ zTb := zTb_in wsL_law0_r13 [488, 569, 570, 571, 501, 572, 573, 574, 575, 532, 38, 576, 578, 17, 579, 581, 582, 583, 584, 63, 404, 405, 406, 602] (by decide +kernel)
set_option maxRecDepth 20000 in
theorem zi_14 : ∀ w ∈ wsL_law0_r14, w ∈ zTb := zTb_in wsL_law0_r14 [603, 604, 605, 606, 607, 608, 65, 412, 413, 414, 609, 611, 19, 612, 613, 615, 20, 616, 617, 618, 619, 620, 621, 622] (by decide +kernel)
set_option maxRecDepth 20000 in
theorem zi_15 : ∀ w ∈ wsL_law0_r15, w ∈ zTb := zTb_in wsL_law0_r15 [623, 624, 626, 627, 628, 629, 630, 632, 21, 633, 634, 636, 22, 637, 638, 640, 23, 641, 642, 643, 644, 645, 250, 251] (by decide +kernel)
set_option maxRecDepth 20000 in
theorem zi_16 : ∀ w ∈ wsL_law0_r16, w ∈ zTb := zTb_in wsL_law0_r16 [252, 254, 255, 256, 257, 258, 259, 332, 40, 69, 260, 261, 262, 263, 39, 348, 349, 350, 351, 68, 352, 353, 354, 355] (by decide +kernel)
set_option maxRecDepth 20000 in
theorem zi_17 : ∀ w ∈ wsL_law0_r17, w ∈ zTb := zTb_in wsL_law0_r17 [58, 356, 358, 9, 359, 376, 377, 378, 379, 380, 381, 382, 384, 385, 386, 387, 388, 392, 393, 394, 395, 396, 397, 398] (by decide +kernel)
set_option maxRecDepth 20000 in
theorem zi_18 : ∀ w ∈ wsL_law0_r18, w ∈ zTb := zTb_in wsL_law0_r18 [408, 409, 410, 411, 416, 417, 418, 419, 498, 499, 500, 502, 503, 504, 505, 75, 506, 507, 508, 510, 511, 512, 513, 516] (by decide +kernel)
set_option maxRecDepth 20000 in
theorem zi_19 : ∀ w ∈ wsL_law0_r19, w ∈ zTb := zTb_in wsL_law0_r19 [517, 518, 519, 520, 521, 522, 523, 524, 525, 526, 527, 528, 530, 15, 531, 548, 549, 550, 551, 552, 553, 554, 555, 556] (by decide +kernel)
set_option maxRecDepth 20000 in
theorem zi_20 : ∀ w ∈ wsL_law0_r20, w ∈ zTb := zTb_in wsL_law0_r20 [557, 558, 559, 560, 562, 16, 563, 565, 566, 567, 568, 655, 656, 657, 658, 659, 660, 661, 662, 663, 664, 665, 700, 701] (by decide +kernel)
set_option maxRecDepth 20000 in
theorem zi_21 : ∀ w ∈ wsL_law0_r21, w ∈ zTb := zTb_in wsL_law0_r21 [702, 646, 647, 648, 654, 649, 650, 651, 652, 703, 704, 705, 706, 707, 708, 710, 25, 711, 585, 586, 587, 588, 589, 590] (by decide +kernel)
set_option maxRecDepth 20000 in
theorem zi_22 : ∀ w ∈ wsL_law0_r22, w ∈ zTb := zTb_in wsL_law0_r22 [591, 592, 593, 594, 595, 596, 597, 599, 18, 600, 601] (by decide +kernel)
theorem zin_law0 : ∀ w ∈ zR, w ∈ zTb := by
  intro w h
  rcases List.mem_append.mp h with h | h
  · exact zi_1 w h
  rcases List.mem_append.mp h with h | h
  · exact zi_2 w h
  rcases List.mem_append.mp h with h | h
  · exact zi_3 w h
  rcases List.mem_append.mp h with h | h
  · exact zi_4 w h
  rcases List.mem_append.mp h with h | h
  · exact zi_5 w h
  rcases List.mem_append.mp h with h | h
  · exact zi_6 w h
  rcases List.mem_append.mp h with h | h
  · exact zi_7 w h
  rcases List.mem_append.mp h with h | h
  · exact zi_8 w h
  rcases List.mem_append.mp h with h | h
  · exact zi_9 w h
  rcases List.mem_append.mp h with h | h
  · exact zi_10 w h
  rcases List.mem_append.mp h with h | h
  · exact zi_11 w h
  rcases List.mem_append.mp h with h | h
  · exact zi_12 w h
  rcases List.mem_append.mp h with h | h
  · exact zi_13 w h
  rcases List.mem_append.mp h with h | h
  · exact zi_14 w h
  rcases List.mem_append.mp h with h | h
  · exact zi_15 w h
  rcases List.mem_append.mp h with h | h
  · exact zi_16 w h
  rcases List.mem_append.mp h with h | h
  · exact zi_17 w h
  rcases List.mem_append.mp h with h | h
  · exact zi_18 w h
  rcases List.mem_append.mp h with h | h
  · exact zi_19 w h
  rcases List.mem_append.mp h with h | h
  · exact zi_20 w h
  rcases List.mem_append.mp h with h | h
  · exact zi_21 w h
  exact zi_22 w h
theorem tX1 : ∀ w ∈ wsX10, w ∈ lw_tbl := by decide +kernel
theorem tX2 : ∀ w ∈ wsX20, w ∈ lw_tbl := by decide +kernel
theorem tX3 : ∀ w ∈ wsX30, w ∈ lw_tbl := by decide +kernel
theorem tX4 : ∀ w ∈ wsX40, w ∈ lw_tbl := by decide +kernel
theorem tT1 : ∀ w ∈ zT1 "java/lang/IllegalStateException" 49 7 zSix, w ∈ lw_tbl := by decide +kernel
theorem tT2 : ∀ w ∈ zT1 "java/lang/IllegalArgumentException" 223 7 zSix, w ∈ lw_tbl := by decide +kernel
theorem tT3 : ∀ w ∈ zT1 "java/lang/IndexOutOfBoundsException" 209 7 zSix, w ∈ lw_tbl := by decide +kernel
theorem tT4 : ∀ w ∈ zT1 "java/util/NoSuchElementException" 151 13 zRx, w ∈ lw_tbl := by decide +kernel
theorem zin_tbl : ∀ w ∈ zAll, w ∈ zTb := by
  intro w h
  rcases List.mem_append.mp h with h | h
  · exact zin_law0 w h
  rcases List.mem_append.mp h with h | h
  · exact List.mem_append_left _ (tX4 w h)
  rcases List.mem_append.mp h with h | h
  · exact List.mem_append_left _ (tX1 w h)
  rcases List.mem_append.mp h with h | h
  · exact List.mem_append_left _ (tX2 w h)
  rcases List.mem_append.mp h with h | h
  · exact List.mem_append_left _ (tX3 w h)
  rcases List.mem_append.mp h with h | h
  · exact List.mem_append_left _ (tT1 w h)
  rcases List.mem_append.mp h with h | h
  · exact List.mem_append_left _ (tT2 w h)
  rcases List.mem_append.mp h with h | h
  · exact List.mem_append_left _ (tT3 w h)
  · exact List.mem_append_left _ (tT4 w h)
theorem zBad_tbl : ∀ w ∈ zBad, w ∈ lw_tbl := by decide +kernel
theorem zStr_tbl : ∀ q ∈ zStr, Cond.stringRef RX4 q.1 q.2 ∈ lw_tbl := by decide +kernel
theorem zStr_giv : ∀ q ∈ zStr, Cond.exactly (.string RX4 q.1) "java/lang/String" ∈ flatC (Jvm.Cond.and given_1 narrow_1) := by decide +kernel
theorem zNW_tbl : ∀ q ∈ zNWl, Cond.methodLinkNest q.1 q.2.1 q.2.2 RX4 ∈ lw_tbl := by decide +kernel
theorem zNC_giv : ∀ q ∈ zNCl, Cond.not (.castable q.1 q.2) ∈ flatC (Jvm.Cond.and given_1 narrow_1) := by decide +kernel
theorem zAO_tbl : Cond.arrayOver (.array .int) ∈ lw_tbl := by decide +kernel
theorem zU_tbl : Cond.laysStatic Bundle.tN "UNASSIGNED_STACK" Bundle.steD ∈ lw_tbl := by decide +kernel
theorem zN_tbl : Cond.laysStatic Bundle.tN "SUPPRESSED_SENTINEL" Bundle.listD ∈ lw_tbl := by decide +kernel
theorem zI_tbl : Cond.initialized Bundle.tN ∈ lw_tbl := by decide +kernel
theorem zU_giv : Cond.isRef (.static Bundle.tN "UNASSIGNED_STACK" Bundle.steD) ∈ flatC (Jvm.Cond.and given_1 narrow_1) := by decide +kernel
theorem zN_giv : Cond.isRef (.static Bundle.tN "SUPPRESSED_SENTINEL" Bundle.listD) ∈ flatC (Jvm.Cond.and given_1 narrow_1) := by decide +kernel
theorem zE_start {b : Nat} {s : State} {A : Nat → Prop} (hts : ∀ w ∈ lw_tbl, w.before #[Value.ref b] s = true) (hgv : (Jvm.Cond.and given_1 narrow_1).before #[Value.ref b] s = true) (hA : ∀ a : Nat, a < s.heap.size → ¬ A a) : zE A s := by
  have hg := flat_of_before _ hgv
  refine ⟨fun w hw => va_tabs (zBad_ok w hw).1 (rfl : s.vm = s.vm) (hts w (zBad_tbl w hw)), fun q hq => ?_, vx_Zqof (hts _ zU_tbl) (hts _ zI_tbl) (hg _ zU_giv) hA, vx_Zqof (hts _ zN_tbl) (hts _ zI_tbl) (hg _ zN_giv) hA, over_moved (Vm.Alike.refl s.vm) (hts _ zAO_tbl), fun q hq => va_Nw.of rfl (hts _ (zNW_tbl q hq)), fun q hq => va_Nc.of (hg _ (zNC_giv q hq))⟩
  obtain ⟨a, c, cA, kA, q1, q2, q3, q4, q5, q6, -⟩ := Cond.exactly_spec (args := #[Value.ref b]) (first := s) (o := none) (s := s) (idx := []) (t := .string RX4 q.1) (cls := "java/lang/String") (hg _ (zStr_giv q hq))
  exact ⟨a, vk_R.of (hts _ (zStr_tbl q hq)) q1⟩
theorem arr_start {b : Nat} {s : State} {ty : FieldType} (h : (Cond.arrayClass ty).before #[Value.ref b] s = true) : ∃ cA, ArrOfT s cA ty ∧ s.vm.findClass ("[" ++ ty.toString) = some cA := by
  obtain ⟨c, k, comp, h1, h2, h3⟩ := Cond.arrayClass_spec h
  exact ⟨c, fun n z => ⟨fun k h => (by cases h), k, h2, comp, h3⟩, h1⟩
theorem arr2_start {b : Nat} {s : State} {t : FieldType} (h : (Cond.arrayOver (.array t)).before #[Value.ref b] s = true) : ∃ cA, ArrOfT s cA (.array t) ∧ s.vm.findClass ("[" ++ (FieldType.array t).toString) = some cA := by
  have h : (Cond.arrayOver (.array t)).holds #[Value.ref b] s none s [] = true := h
  simp only [Cond.holds, Cond.value, beq_iff_eq] at h
  cases hc : s.vm.findClass (FieldType.array t).toString with
  | none => simp [hc] at h
  | some comp =>
    simp only [hc, Option.bind_some, Option.bind_eq_some_iff, Option.map_eq_some_iff] at h
    obtain ⟨c, hi, k, hk, hb⟩ := h
    obtain ⟨hlt, hp, -⟩ := Array.findIdx?_eq_some_iff_getElem.mp hi
    have hkk : s.vm.classes[c] = k := (Array.getElem?_eq_some_iff.mp hk).2
    rw [hkk] at hp
    cases hkind : k.kind with
    | array component ty =>
      rw [hkind] at hb hp
      simp at hb hp
      exact ⟨c, fun n z => ⟨fun k h => (by cases h), k, hk, comp, by rw [hkind, hp, hb.1]⟩, hb.2⟩
    | _ => rw [hkind] at hb; simp at hb
theorem zK_start {b : Nat} {s : State} (hts : ∀ w ∈ lw_tbl, w.before #[Value.ref b] s = true) : ∃ (D : va_G) (cT : Nat → Nat), va_K D vwCl (ztys cT) s := by
  obtain ⟨c0, i0, h0⟩ := u_known (C := RX1) (T := TX1) (N := 10) (n := 10) hts tX1 (zTb_hts hts _ (zin_tbl _ (aw_1_16)))
  obtain ⟨c1, i1, h1⟩ := u_known (C := RX2) (T := TX2) (N := 2) (n := 2) hts tX2 (zTb_hts hts _ (zin_tbl _ (aw_1_20)))
  obtain ⟨c2, i2, h2⟩ := u_known (C := RX3) (T := TX3) (N := 2) (n := 2) hts tX3 (zTb_hts hts _ (zin_tbl _ (aw_2_0)))
  obtain ⟨c3, i3, h3⟩ := u_known (C := RX4) (T := TX4) (N := 6) (n := 6) hts tX4 (zTb_hts hts _ (zin_tbl _ (aw_1_1)))
  obtain ⟨a0, b0, e0⟩ := arr_start (ty := .int) (zTb_hts hts _ (zin_tbl _ aw_2_3))
  obtain ⟨a1, b1, e1⟩ := arr2_start (t := .int) (hts _ zAO_tbl)
  refine ⟨(fun k => match k with | 0 => c0 | 1 => c1 | 2 => c2 | _ => c3, fun k => match k with | 0 => i0 | 1 => i1 | 2 => i2 | _ => i3), fun k => match k with | 0 => a0 | _ => a1, fun k q hq => ?_, fun k q hq => ?_⟩
  · match k, hq with
    | 0, hq => cases hq; exact h0
    | 1, hq => cases hq; exact h1
    | 2, hq => cases hq; exact h2
    | 3, hq => cases hq; exact h3
    | k + 4, hq => simp [vwCl] at hq
  · match k, hq with
    | 0, hq => cases hq; exact ⟨b0, e0⟩
    | 1, hq => cases hq; exact ⟨b1, e1⟩
    | k + 2, hq => simp [ztys] at hq
theorem st_off {l : Launch} (h : l.flags = flags0) : l.stackTraces = false := by
  unfold Launch.stackTraces
  rw [h]
  decide +kernel
