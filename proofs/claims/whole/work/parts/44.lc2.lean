theorem lc_thing (l : Launch) (hst : l.stackTraces = false) {D : va_G} {cT ac am : Nat → Nat} {aD b N sz : Nat} {xs : Nat → Int32} {σ μ : Sg} {o : Nat → Int64} {u : Nat → UInt64} {k n : Nat} {x5 : Int32} (hC : CP σ μ) (hv : ∀ c : Int32, c = 1 ∨ c = 2 ∨ c = 3 ∨ c = 4 → vp_in (x5 + c) N) (hk : k + 5 ≤ 646177 ∧ n + 30 ≤ 7157572) (kk : ∀ (σ1 μ1 : Sg) (o1 : Nat → Int64) (u1 : Nat → UInt64), CP σ1 μ1 → Wl l D cT ac am aD b N sz xs 2208 x5 σ1 μ1 o1 u1 (k + 5) (n + 30)) : Wl l D cT ac am aD b N sz xs 965 x5 σ μ o u k n := by
  obtain ⟨n9, m9, p9, d9, L9, sn9, hC⟩ := hC
  refine wm_aload_n 966 rfl dL_law_965 rfl rfl ?_
  refine wm_aload_n 967 rfl dL_law_966 rfl rfl ?_
  refine wm_iload 969 rfl dL_law_967 rfl ?_
  refine wm_iconst (v := 1) 970 rfl dL_law_969 (by decide) ?_
  refine wm_iadd 971 rfl dL_law_970 ?_
  refine wl_sld 972 rfl dL_law_971 (hv 1 (Or.inl rfl)) ?_
  refine wm_aload_n 973 rfl dL_law_972 rfl rfl ?_
  refine wl_callW (ad := ac) 976 rfl dL_law_973 (w_thing l _ (k_X4_thing l hst hC.cI _) (show ∀ E ∈ [eIO], E ∈ [eIO] by decide) o) aw_15_2 aw_3_23 ⟨by decide +kernel, by decide +kernel, (show (parseMethodDescriptor yL_thing.desc).map (fun d => d.parameters.length) = some 3 by decide +kernel)⟩ aw_15_1 aw_15_0 ⟨Nat.le_of_ble_eq_true rfl, Nat.le_of_ble_eq_true rfl⟩ (Nat.le_of_ble_eq_true rfl) ⟨Nat.le_trans (Nat.add_le_add_left (show 1 ≤ 5 by decide) k) hk.1, Nat.le_trans (Nat.add_le_add_left (show 6 ≤ 30 by decide) n) hk.2⟩ (zImp.perm (List.Perm.refl _)) (fun σ1 o1 => lX cT ac am aD σ1 μ o1 u) (fun _ _ => zImp.perm (List.Perm.refl _)) rfl (fun k6 σ1 o1 hw => ?_)
  refine wm_istore (ls' := [(6, _), (0, _), (1, _), (2, _), (3, _), (4, _), (5, _)]) 978 rfl dL_law_976 (by decide) rfl ?_
  refine wm_aload_n 979 rfl dL_law_978 rfl rfl ?_
  refine wm_aload_n 980 rfl dL_law_979 rfl rfl ?_
  refine wm_iload 982 rfl dL_law_980 rfl ?_
  refine wm_iconst (v := 1) 983 rfl dL_law_982 (by decide) ?_
  refine wm_iadd 984 rfl dL_law_983 ?_
  refine wl_sld 985 rfl dL_law_984 (hv 1 (Or.inl rfl)) ?_
  refine wl_callVi (ad := am) 988 rfl dL_law_985 (k_X5_thing l hC.mI hC.mP hC.mQ _) ca_X5_thing cv_X5_thing rfl aw_18_19 rfl rfl ⟨Nat.le_of_ble_eq_true rfl, Nat.le_of_ble_eq_true rfl⟩ (Nat.le_of_ble_eq_true rfl) ⟨Nat.le_trans (Nat.add_le_add_left (show 1 ≤ 5 by decide) k) hk.1, Nat.le_trans (Nat.add_le_add_left (show 6 ≤ 30 by decide) n) hk.2⟩ lX_M (fun μ1 => lX cT ac am aD σ1 μ1 o1 u) (fun _ => lX_M.symm) rfl (fun w μ1 hm => ?_)
  refine wm_istore (ls' := [(7, _), (6, _), (0, _), (1, _), (2, _), (3, _), (4, _), (5, _)]) 990 rfl dL_law_988 (by decide) rfl ?_
  refine wm_aload_n 991 rfl dL_law_990 rfl rfl ?_
  refine wl_callVi (ad := am) 994 rfl dL_law_991 (k_X5_thrown l) ca_X5_thrown cv_X5_thrown rfl aw_5_5 rfl rfl ⟨Nat.le_of_ble_eq_true rfl, Nat.le_of_ble_eq_true rfl⟩ (Nat.le_of_ble_eq_true rfl) ⟨Nat.le_trans (Nat.add_le_add_left (show 1 ≤ 5 by decide) k) hk.1, Nat.le_trans (Nat.add_le_add_left (show 6 ≤ 30 by decide) n) hk.2⟩ lX_M (fun μ2 => lX cT ac am aD σ1 μ2 o1 u) (fun _ => lX_M.symm) rfl (fun r9 μ2 h9 => ?_)
  obtain ⟨rfl, rfl⟩ := h9
  obtain ⟨v9, hc9, hf9⟩ := hw
  have ha := q_thing hC hc9 hm
  refine wm_iload 996 rfl dL_law_994 rfl ?_
  refine wm_icmp_eq 1001 999 rfl (by decide) dL_law_996 (fun _ => ?_) (fun c9 => absurd ha.1 c9)
  refine wm_iload 1003 rfl dL_law_1001 rfl ?_
  refine wm_if_ne 1018 1006 rfl (by decide) dL_law_1003 (fun _ => ?_) (fun c6 => ?_)
  · refine wm_goto 2208 (by decide) dL_law_1018 ?_
    refine wm_loc (ls2 := [(0, .ref b), (1, .ref (ac 0)), (2, .ref (am 0)), (3, .ref (ac 27)), (4, .ref aD), (5, .int x5)]) [2, 3, 4, 5, 6, 7] rfl ?_
    refine wl_widen (k1 := k + 5) (n1 := n + 30) (by omega) (by omega) ?_
    exact kk _ _ _ _ ha.2.2
  · obtain hv9 := ha.2.1 c6
    have hf9 := hf9 c6
    subst hv9
    refine wm_aload_n 1007 rfl dL_law_1006 rfl rfl ?_
    refine wm_iconst (v := 0) 1008 rfl dL_law_1007 (by decide) ?_
    refine wl_lald 1009 rfl dL_law_1008 vin01 ?_
    refine wm_iload 1011 rfl dL_law_1009 rfl ?_
    refine wm_i2l 1012 rfl dL_law_1011 ?_
    refine wm_lcmp 1013 rfl dL_law_1012 ?_
    refine wm_if_eq 1018 1016 rfl (by decide) dL_law_1013 (fun _ => ?_) (fun c8 => absurd ((lg_cmp_eq _ _).mpr hf9) c8)
    refine wm_goto 2208 (by decide) dL_law_1018 ?_
    refine wm_loc (ls2 := [(0, .ref b), (1, .ref (ac 0)), (2, .ref (am 0)), (3, .ref (ac 27)), (4, .ref aD), (5, .int x5)]) [2, 3, 4, 5, 6, 7] rfl ?_
    refine wl_widen (k1 := k + 5) (n1 := n + 30) (by omega) (by omega) ?_
    exact kk _ _ _ _ ha.2.2
theorem lc_thingByRounds (l : Launch) (hst : l.stackTraces = false) {D : va_G} {cT ac am : Nat → Nat} {aD b N sz : Nat} {xs : Nat → Int32} {σ μ : Sg} {o : Nat → Int64} {u : Nat → UInt64} {k n : Nat} {x5 : Int32} (hC : CP σ μ) (hv : ∀ c : Int32, c = 1 ∨ c = 2 ∨ c = 3 ∨ c = 4 → vp_in (x5 + c) N) (hk : k + 5 ≤ 646177 ∧ n + 30 ≤ 7157572) (kk : ∀ (σ1 μ1 : Sg) (o1 : Nat → Int64) (u1 : Nat → UInt64), CP σ1 μ1 → Wl l D cT ac am aD b N sz xs 2208 x5 σ1 μ1 o1 u1 (k + 5) (n + 30)) : Wl l D cT ac am aD b N sz xs 1021 x5 σ μ o u k n := by
  obtain ⟨n9, m9, p9, d9, L9, sn9, hC⟩ := hC
  refine wm_aload_n 1022 rfl dL_law_1021 rfl rfl ?_
  refine wm_aload_n 1023 rfl dL_law_1022 rfl rfl ?_
  refine wm_iload 1025 rfl dL_law_1023 rfl ?_
  refine wm_iconst (v := 1) 1026 rfl dL_law_1025 (by decide) ?_
  refine wm_iadd 1027 rfl dL_law_1026 ?_
  refine wl_sld 1028 rfl dL_law_1027 (hv 1 (Or.inl rfl)) ?_
  refine wm_aload_n 1029 rfl dL_law_1028 rfl rfl ?_
  refine wl_callW (ad := ac) 1032 rfl dL_law_1029 (w_thingByRounds l _ (k_X4_thingByRounds l hst hC.cI _) (show ∀ E ∈ [eIO], E ∈ [eIO] by decide) o) aw_20_1 aw_3_23 ⟨by decide +kernel, by decide +kernel, (show (parseMethodDescriptor yL_thingByRounds.desc).map (fun d => d.parameters.length) = some 3 by decide +kernel)⟩ aw_20_0 aw_19_23 ⟨Nat.le_of_ble_eq_true rfl, Nat.le_of_ble_eq_true rfl⟩ (Nat.le_of_ble_eq_true rfl) ⟨Nat.le_trans (Nat.add_le_add_left (show 1 ≤ 5 by decide) k) hk.1, Nat.le_trans (Nat.add_le_add_left (show 6 ≤ 30 by decide) n) hk.2⟩ (zImp.perm (List.Perm.refl _)) (fun σ1 o1 => lX cT ac am aD σ1 μ o1 u) (fun _ _ => zImp.perm (List.Perm.refl _)) rfl (fun k6 σ1 o1 hw => ?_)
  refine wm_istore (ls' := [(6, _), (0, _), (1, _), (2, _), (3, _), (4, _), (5, _)]) 1034 rfl dL_law_1032 (by decide) rfl ?_
  refine wm_aload_n 1035 rfl dL_law_1034 rfl rfl ?_
  refine wm_aload_n 1036 rfl dL_law_1035 rfl rfl ?_
  refine wm_iload 1038 rfl dL_law_1036 rfl ?_
  refine wm_iconst (v := 1) 1039 rfl dL_law_1038 (by decide) ?_
  refine wm_iadd 1040 rfl dL_law_1039 ?_
  refine wl_sld 1041 rfl dL_law_1040 (hv 1 (Or.inl rfl)) ?_
  refine wl_callVi (ad := am) 1044 rfl dL_law_1041 (k_X5_thingByRounds l hC.mI hC.mP hC.mQ _) ca_X5_thingByRounds cv_X5_thingByRounds rfl aw_20_11 rfl rfl ⟨Nat.le_of_ble_eq_true rfl, Nat.le_of_ble_eq_true rfl⟩ (Nat.le_of_ble_eq_true rfl) ⟨Nat.le_trans (Nat.add_le_add_left (show 1 ≤ 5 by decide) k) hk.1, Nat.le_trans (Nat.add_le_add_left (show 6 ≤ 30 by decide) n) hk.2⟩ lX_M (fun μ1 => lX cT ac am aD σ1 μ1 o1 u) (fun _ => lX_M.symm) rfl (fun w μ1 hm => ?_)
  refine wm_istore (ls' := [(7, _), (6, _), (0, _), (1, _), (2, _), (3, _), (4, _), (5, _)]) 1046 rfl dL_law_1044 (by decide) rfl ?_
  refine wm_aload_n 1047 rfl dL_law_1046 rfl rfl ?_
  refine wl_callVi (ad := am) 1050 rfl dL_law_1047 (k_X5_thrown l) ca_X5_thrown cv_X5_thrown rfl aw_5_5 rfl rfl ⟨Nat.le_of_ble_eq_true rfl, Nat.le_of_ble_eq_true rfl⟩ (Nat.le_of_ble_eq_true rfl) ⟨Nat.le_trans (Nat.add_le_add_left (show 1 ≤ 5 by decide) k) hk.1, Nat.le_trans (Nat.add_le_add_left (show 6 ≤ 30 by decide) n) hk.2⟩ lX_M (fun μ2 => lX cT ac am aD σ1 μ2 o1 u) (fun _ => lX_M.symm) rfl (fun r9 μ2 h9 => ?_)
  obtain ⟨rfl, rfl⟩ := h9
  obtain ⟨v9, hc9, hf9⟩ := hw
  have ha := q_thingByRounds hC hc9 hm
  refine wm_iload 1052 rfl dL_law_1050 rfl ?_
  refine wm_icmp_eq 1057 1055 rfl (by decide) dL_law_1052 (fun _ => ?_) (fun c9 => absurd ha.1 c9)
  refine wm_iload 1059 rfl dL_law_1057 rfl ?_
  refine wm_if_ne 1074 1062 rfl (by decide) dL_law_1059 (fun _ => ?_) (fun c6 => ?_)
  · refine wm_goto 2208 (by decide) dL_law_1074 ?_
    refine wm_loc (ls2 := [(0, .ref b), (1, .ref (ac 0)), (2, .ref (am 0)), (3, .ref (ac 27)), (4, .ref aD), (5, .int x5)]) [2, 3, 4, 5, 6, 7] rfl ?_
    refine wl_widen (k1 := k + 5) (n1 := n + 30) (by omega) (by omega) ?_
    exact kk _ _ _ _ ha.2.2
  · obtain hv9 := ha.2.1 c6
    have hf9 := hf9 c6
    subst hv9
    refine wm_aload_n 1063 rfl dL_law_1062 rfl rfl ?_
    refine wm_iconst (v := 0) 1064 rfl dL_law_1063 (by decide) ?_
    refine wl_lald 1065 rfl dL_law_1064 vin01 ?_
    refine wm_iload 1067 rfl dL_law_1065 rfl ?_
    refine wm_i2l 1068 rfl dL_law_1067 ?_
    refine wm_lcmp 1069 rfl dL_law_1068 ?_
    refine wm_if_eq 1074 1072 rfl (by decide) dL_law_1069 (fun _ => ?_) (fun c8 => absurd ((lg_cmp_eq _ _).mpr hf9) c8)
    refine wm_goto 2208 (by decide) dL_law_1074 ?_
    refine wm_loc (ls2 := [(0, .ref b), (1, .ref (ac 0)), (2, .ref (am 0)), (3, .ref (ac 27)), (4, .ref aD), (5, .int x5)]) [2, 3, 4, 5, 6, 7] rfl ?_
    refine wl_widen (k1 := k + 5) (n1 := n + 30) (by omega) (by omega) ?_
    exact kk _ _ _ _ ha.2.2
theorem lc_things (l : Launch) (hst : l.stackTraces = false) {D : va_G} {cT ac am : Nat → Nat} {aD b N sz : Nat} {xs : Nat → Int32} {σ μ : Sg} {o : Nat → Int64} {u : Nat → UInt64} {k n : Nat} {x5 : Int32} (hC : CP σ μ) (hv : ∀ c : Int32, c = 1 ∨ c = 2 ∨ c = 3 ∨ c = 4 → vp_in (x5 + c) N) (hk : k + 5 ≤ 646177 ∧ n + 30 ≤ 7157572) (kk : ∀ (σ1 μ1 : Sg) (o1 : Nat → Int64) (u1 : Nat → UInt64), CP σ1 μ1 → Wl l D cT ac am aD b N sz xs 2208 x5 σ1 μ1 o1 u1 (k + 5) (n + 30)) : Wl l D cT ac am aD b N sz xs 1077 x5 σ μ o u k n := by
  obtain ⟨n9, m9, p9, d9, L9, sn9, hC⟩ := hC
  refine wm_aload_n 1078 rfl dL_law_1077 rfl rfl ?_
  refine wl_callVi (ad := ac) 1081 rfl dL_law_1078 (k_X4_things l hC.cI) ca_X4_things cv_X4_things rfl aw_20_16 rfl rfl ⟨Nat.le_of_ble_eq_true rfl, Nat.le_of_ble_eq_true rfl⟩ (Nat.le_of_ble_eq_true rfl) ⟨Nat.le_trans (Nat.le_add_right k 5) hk.1, Nat.le_trans (Nat.le_add_right n 30) hk.2⟩ lX_C (fun σ1 => lX cT ac am aD σ1 μ o u) (fun _ => lX_C.symm) rfl (fun v9 σ1 hp9 => ?_)
  refine wm_aload_n 1082 rfl dL_law_1081 rfl rfl ?_
  refine wl_callVi (ad := am) 1085 rfl dL_law_1082 (k_X5_things l hC.mI hC.mP hC.mQ) ca_X5_things cv_X5_things rfl aw_21_8 rfl rfl ⟨Nat.le_of_ble_eq_true rfl, Nat.le_of_ble_eq_true rfl⟩ (Nat.le_of_ble_eq_true rfl) ⟨Nat.le_trans (Nat.le_add_right k 5) hk.1, Nat.le_trans (Nat.le_add_right n 30) hk.2⟩ lX_M (fun μ1 => lX cT ac am aD σ1 μ1 o u) (fun _ => lX_M.symm) rfl (fun w μ1 hm => ?_)
  have ha := q_things hC hp9 hm
  refine wm_icmp_eq 2208 1088 rfl (by decide) dL_law_1085 (fun _ => ?_) (fun c9 => absurd ha.1 c9)
  refine wl_widen (k1 := k + 5) (n1 := n + 30) (by omega) (by omega) ?_
  exact kk _ _ _ _ ha.2
theorem lc_size (l : Launch) (hst : l.stackTraces = false) {D : va_G} {cT ac am : Nat → Nat} {aD b N sz : Nat} {xs : Nat → Int32} {σ μ : Sg} {o : Nat → Int64} {u : Nat → UInt64} {k n : Nat} {x5 : Int32} (hC : CP σ μ) (hv : ∀ c : Int32, c = 1 ∨ c = 2 ∨ c = 3 ∨ c = 4 → vp_in (x5 + c) N) (hk : k + 5 ≤ 646177 ∧ n + 30 ≤ 7157572) (kk : ∀ (σ1 μ1 : Sg) (o1 : Nat → Int64) (u1 : Nat → UInt64), CP σ1 μ1 → Wl l D cT ac am aD b N sz xs 2208 x5 σ1 μ1 o1 u1 (k + 5) (n + 30)) : Wl l D cT ac am aD b N sz xs 1090 x5 σ μ o u k n := by
  obtain ⟨n9, m9, p9, d9, L9, sn9, hC⟩ := hC
  refine wm_aload_n 1091 rfl dL_law_1090 rfl rfl ?_
  refine wm_aload_n 1092 rfl dL_law_1091 rfl rfl ?_
  refine wm_iload 1094 rfl dL_law_1092 rfl ?_
  refine wm_iconst (v := 1) 1095 rfl dL_law_1094 (by decide) ?_
  refine wm_iadd 1096 rfl dL_law_1095 ?_
  refine wl_sld 1097 rfl dL_law_1096 (hv 1 (Or.inl rfl)) ?_
  refine wm_aload_n 1098 rfl dL_law_1097 rfl rfl ?_
  refine wl_callW (ad := ac) 1101 rfl dL_law_1098 (w_size l _ (k_X4_size l hst hC.cI _) (show ∀ E ∈ [eIO], E ∈ [eIO] by decide) o) aw_21_18 aw_3_23 ⟨by decide +kernel, by decide +kernel, (show (parseMethodDescriptor yL_size.desc).map (fun d => d.parameters.length) = some 3 by decide +kernel)⟩ aw_21_17 aw_21_16 ⟨Nat.le_of_ble_eq_true rfl, Nat.le_of_ble_eq_true rfl⟩ (Nat.le_of_ble_eq_true rfl) ⟨Nat.le_trans (Nat.add_le_add_left (show 1 ≤ 5 by decide) k) hk.1, Nat.le_trans (Nat.add_le_add_left (show 6 ≤ 30 by decide) n) hk.2⟩ (zImp.perm (List.Perm.refl _)) (fun σ1 o1 => lX cT ac am aD σ1 μ o1 u) (fun _ _ => zImp.perm (List.Perm.refl _)) rfl (fun k6 σ1 o1 hw => ?_)
  refine wm_istore (ls' := [(6, _), (0, _), (1, _), (2, _), (3, _), (4, _), (5, _)]) 1103 rfl dL_law_1101 (by decide) rfl ?_
  refine wm_aload_n 1104 rfl dL_law_1103 rfl rfl ?_
  refine wm_aload_n 1105 rfl dL_law_1104 rfl rfl ?_
  refine wm_iload 1107 rfl dL_law_1105 rfl ?_
  refine wm_iconst (v := 1) 1108 rfl dL_law_1107 (by decide) ?_
  refine wm_iadd 1109 rfl dL_law_1108 ?_
  refine wl_sld 1110 rfl dL_law_1109 (hv 1 (Or.inl rfl)) ?_
  refine wl_callVi (ad := am) 1113 rfl dL_law_1110 (k_X5_size l hC.mI hC.mP hC.mQ _) ca_X5_size cv_X5_size rfl aw_22_3 rfl rfl ⟨Nat.le_of_ble_eq_true rfl, Nat.le_of_ble_eq_true rfl⟩ (Nat.le_of_ble_eq_true rfl) ⟨Nat.le_trans (Nat.add_le_add_left (show 1 ≤ 5 by decide) k) hk.1, Nat.le_trans (Nat.add_le_add_left (show 6 ≤ 30 by decide) n) hk.2⟩ lX_M (fun μ1 => lX cT ac am aD σ1 μ1 o1 u) (fun _ => lX_M.symm) rfl (fun w μ1 hm => ?_)
  refine wm_istore (ls' := [(7, _), (6, _), (0, _), (1, _), (2, _), (3, _), (4, _), (5, _)]) 1115 rfl dL_law_1113 (by decide) rfl ?_
  refine wm_aload_n 1116 rfl dL_law_1115 rfl rfl ?_
  refine wl_callVi (ad := am) 1119 rfl dL_law_1116 (k_X5_thrown l) ca_X5_thrown cv_X5_thrown rfl aw_5_5 rfl rfl ⟨Nat.le_of_ble_eq_true rfl, Nat.le_of_ble_eq_true rfl⟩ (Nat.le_of_ble_eq_true rfl) ⟨Nat.le_trans (Nat.add_le_add_left (show 1 ≤ 5 by decide) k) hk.1, Nat.le_trans (Nat.add_le_add_left (show 6 ≤ 30 by decide) n) hk.2⟩ lX_M (fun μ2 => lX cT ac am aD σ1 μ2 o1 u) (fun _ => lX_M.symm) rfl (fun r9 μ2 h9 => ?_)
  obtain ⟨rfl, rfl⟩ := h9
  obtain ⟨v9, hc9, hf9⟩ := hw
  have ha := q_size hC hc9 hm
  refine wm_iload 1121 rfl dL_law_1119 rfl ?_
  refine wm_icmp_eq 1126 1124 rfl (by decide) dL_law_1121 (fun _ => ?_) (fun c9 => absurd ha.1 c9)
  refine wm_iload 1128 rfl dL_law_1126 rfl ?_
  refine wm_if_ne 1143 1131 rfl (by decide) dL_law_1128 (fun _ => ?_) (fun c6 => ?_)
  · refine wm_goto 2208 (by decide) dL_law_1143 ?_
    refine wm_loc (ls2 := [(0, .ref b), (1, .ref (ac 0)), (2, .ref (am 0)), (3, .ref (ac 27)), (4, .ref aD), (5, .int x5)]) [2, 3, 4, 5, 6, 7] rfl ?_
    refine wl_widen (k1 := k + 5) (n1 := n + 30) (by omega) (by omega) ?_
    exact kk _ _ _ _ ha.2.2
  · obtain hv9 := ha.2.1 c6
    have hf9 := hf9 c6
    subst hv9
    refine wm_aload_n 1132 rfl dL_law_1131 rfl rfl ?_
    refine wm_iconst (v := 0) 1133 rfl dL_law_1132 (by decide) ?_
    refine wl_lald 1134 rfl dL_law_1133 vin01 ?_
    refine wm_iload 1136 rfl dL_law_1134 rfl ?_
    refine wm_i2l 1137 rfl dL_law_1136 ?_
    refine wm_lcmp 1138 rfl dL_law_1137 ?_
    refine wm_if_eq 1143 1141 rfl (by decide) dL_law_1138 (fun _ => ?_) (fun c8 => absurd ((lg_cmp_eq _ _).mpr hf9) c8)
    refine wm_goto 2208 (by decide) dL_law_1143 ?_
    refine wm_loc (ls2 := [(0, .ref b), (1, .ref (ac 0)), (2, .ref (am 0)), (3, .ref (ac 27)), (4, .ref aD), (5, .int x5)]) [2, 3, 4, 5, 6, 7] rfl ?_
    refine wl_widen (k1 := k + 5) (n1 := n + 30) (by omega) (by omega) ?_
    exact kk _ _ _ _ ha.2.2
theorem lc_member (l : Launch) (hst : l.stackTraces = false) {D : va_G} {cT ac am : Nat → Nat} {aD b N sz : Nat} {xs : Nat → Int32} {σ μ : Sg} {o : Nat → Int64} {u : Nat → UInt64} {k n : Nat} {x5 : Int32} (hC : CP σ μ) (hv : ∀ c : Int32, c = 1 ∨ c = 2 ∨ c = 3 ∨ c = 4 → vp_in (x5 + c) N) (hk : k + 5 ≤ 646177 ∧ n + 30 ≤ 7157572) (kk : ∀ (σ1 μ1 : Sg) (o1 : Nat → Int64) (u1 : Nat → UInt64), CP σ1 μ1 → Wl l D cT ac am aD b N sz xs 2208 x5 σ1 μ1 o1 u1 (k + 5) (n + 30)) : Wl l D cT ac am aD b N sz xs 1146 x5 σ μ o u k n := by
  obtain ⟨n9, m9, p9, d9, L9, sn9, hC⟩ := hC
  refine wm_aload_n 1147 rfl dL_law_1146 rfl rfl ?_
  refine wm_aload_n 1148 rfl dL_law_1147 rfl rfl ?_
  refine wm_iload 1150 rfl dL_law_1148 rfl ?_
  refine wm_iconst (v := 1) 1151 rfl dL_law_1150 (by decide) ?_
  refine wm_iadd 1152 rfl dL_law_1151 ?_
  refine wl_sld 1153 rfl dL_law_1152 (hv 1 (Or.inl rfl)) ?_
  refine wm_aload_n 1154 rfl dL_law_1153 rfl rfl ?_
  refine wm_iload 1156 rfl dL_law_1154 rfl ?_
  refine wm_iconst (v := 2) 1157 rfl dL_law_1156 (by decide) ?_
  refine wm_iadd 1158 rfl dL_law_1157 ?_
  refine wl_sld 1159 rfl dL_law_1158 (hv 2 (Or.inr (Or.inl rfl))) ?_
  refine wm_aload_n 1160 rfl dL_law_1159 rfl rfl ?_
  refine wl_callW (ad := ac) 1163 rfl dL_law_1160 (w_member l _ _ (k_X4_member l hst hC.cI _ _) (show ∀ E ∈ [eIO, eNS], E ∈ [eIO, eNS] by decide) o) aw_22_13 aw_3_23 ⟨by decide +kernel, by decide +kernel, (show (parseMethodDescriptor yL_member.desc).map (fun d => d.parameters.length) = some 4 by decide +kernel)⟩ aw_22_12 aw_22_11 ⟨Nat.le_of_ble_eq_true rfl, Nat.le_of_ble_eq_true rfl⟩ (Nat.le_of_ble_eq_true rfl) ⟨Nat.le_trans (Nat.add_le_add_left (show 2 ≤ 5 by decide) k) hk.1, Nat.le_trans (Nat.add_le_add_left (show 12 ≤ 30 by decide) n) hk.2⟩ (zImp.perm (List.Perm.refl _)) (fun σ1 o1 => lX cT ac am aD σ1 μ o1 u) (fun _ _ => zImp.perm (List.Perm.refl _)) rfl (fun k6 σ1 o1 hw => ?_)
  refine wm_istore (ls' := [(6, _), (0, _), (1, _), (2, _), (3, _), (4, _), (5, _)]) 1165 rfl dL_law_1163 (by decide) rfl ?_
  refine wm_aload_n 1166 rfl dL_law_1165 rfl rfl ?_
  refine wm_aload_n 1167 rfl dL_law_1166 rfl rfl ?_
  refine wm_iload 1169 rfl dL_law_1167 rfl ?_
  refine wm_iconst (v := 1) 1170 rfl dL_law_1169 (by decide) ?_
  refine wm_iadd 1171 rfl dL_law_1170 ?_
  refine wl_sld 1172 rfl dL_law_1171 (hv 1 (Or.inl rfl)) ?_
  refine wm_aload_n 1173 rfl dL_law_1172 rfl rfl ?_
  refine wm_iload 1175 rfl dL_law_1173 rfl ?_
  refine wm_iconst (v := 2) 1176 rfl dL_law_1175 (by decide) ?_
  refine wm_iadd 1177 rfl dL_law_1176 ?_
  refine wl_sld 1178 rfl dL_law_1177 (hv 2 (Or.inr (Or.inl rfl))) ?_
  refine wl_callVi (ad := am) 1181 rfl dL_law_1178 (k_X5_member l hC.mI hC.mP hC.mQ _ _) ca_X5_member cv_X5_member rfl aw_22_22 rfl rfl ⟨Nat.le_of_ble_eq_true rfl, Nat.le_of_ble_eq_true rfl⟩ (Nat.le_of_ble_eq_true rfl) ⟨Nat.le_trans (Nat.add_le_add_left (show 2 ≤ 5 by decide) k) hk.1, Nat.le_trans (Nat.add_le_add_left (show 12 ≤ 30 by decide) n) hk.2⟩ lX_M (fun μ1 => lX cT ac am aD σ1 μ1 o1 u) (fun _ => lX_M.symm) rfl (fun w μ1 hm => ?_)
  refine wm_istore (ls' := [(7, _), (6, _), (0, _), (1, _), (2, _), (3, _), (4, _), (5, _)]) 1183 rfl dL_law_1181 (by decide) rfl ?_
  refine wm_aload_n 1184 rfl dL_law_1183 rfl rfl ?_
  refine wl_callVi (ad := am) 1187 rfl dL_law_1184 (k_X5_thrown l) ca_X5_thrown cv_X5_thrown rfl aw_5_5 rfl rfl ⟨Nat.le_of_ble_eq_true rfl, Nat.le_of_ble_eq_true rfl⟩ (Nat.le_of_ble_eq_true rfl) ⟨Nat.le_trans (Nat.add_le_add_left (show 2 ≤ 5 by decide) k) hk.1, Nat.le_trans (Nat.add_le_add_left (show 12 ≤ 30 by decide) n) hk.2⟩ lX_M (fun μ2 => lX cT ac am aD σ1 μ2 o1 u) (fun _ => lX_M.symm) rfl (fun r9 μ2 h9 => ?_)
  obtain ⟨rfl, rfl⟩ := h9
  obtain ⟨v9, hc9, hf9⟩ := hw
  have ha := q_member hC hc9 hm
  refine wm_iload 1189 rfl dL_law_1187 rfl ?_
  refine wm_icmp_eq 1194 1192 rfl (by decide) dL_law_1189 (fun _ => ?_) (fun c9 => absurd ha.1 c9)
  refine wm_iload 1196 rfl dL_law_1194 rfl ?_
  refine wm_if_ne 1211 1199 rfl (by decide) dL_law_1196 (fun _ => ?_) (fun c6 => ?_)
  · refine wm_goto 2208 (by decide) dL_law_1211 ?_
    refine wm_loc (ls2 := [(0, .ref b), (1, .ref (ac 0)), (2, .ref (am 0)), (3, .ref (ac 27)), (4, .ref aD), (5, .int x5)]) [2, 3, 4, 5, 6, 7] rfl ?_
    refine wl_widen (k1 := k + 5) (n1 := n + 30) (by omega) (by omega) ?_
    exact kk _ _ _ _ ha.2.2
  · obtain hv9 := ha.2.1 c6
    have hf9 := hf9 c6
    subst hv9
    refine wm_aload_n 1200 rfl dL_law_1199 rfl rfl ?_
    refine wm_iconst (v := 0) 1201 rfl dL_law_1200 (by decide) ?_
    refine wl_lald 1202 rfl dL_law_1201 vin01 ?_
    refine wm_iload 1204 rfl dL_law_1202 rfl ?_
    refine wm_i2l 1205 rfl dL_law_1204 ?_
    refine wm_lcmp 1206 rfl dL_law_1205 ?_
    refine wm_if_eq 1211 1209 rfl (by decide) dL_law_1206 (fun _ => ?_) (fun c8 => absurd ((lg_cmp_eq _ _).mpr hf9) c8)
    refine wm_goto 2208 (by decide) dL_law_1211 ?_
    refine wm_loc (ls2 := [(0, .ref b), (1, .ref (ac 0)), (2, .ref (am 0)), (3, .ref (ac 27)), (4, .ref aD), (5, .int x5)]) [2, 3, 4, 5, 6, 7] rfl ?_
    refine wl_widen (k1 := k + 5) (n1 := n + 30) (by omega) (by omega) ?_
    exact kk _ _ _ _ ha.2.2
theorem lc_areTogether (l : Launch) (hst : l.stackTraces = false) {D : va_G} {cT ac am : Nat → Nat} {aD b N sz : Nat} {xs : Nat → Int32} {σ μ : Sg} {o : Nat → Int64} {u : Nat → UInt64} {k n : Nat} {x5 : Int32} (hC : CP σ μ) (hv : ∀ c : Int32, c = 1 ∨ c = 2 ∨ c = 3 ∨ c = 4 → vp_in (x5 + c) N) (hk : k + 5 ≤ 646177 ∧ n + 30 ≤ 7157572) (kk : ∀ (σ1 μ1 : Sg) (o1 : Nat → Int64) (u1 : Nat → UInt64), CP σ1 μ1 → Wl l D cT ac am aD b N sz xs 2208 x5 σ1 μ1 o1 u1 (k + 5) (n + 30)) : Wl l D cT ac am aD b N sz xs 1214 x5 σ μ o u k n := by
  obtain ⟨n9, m9, p9, d9, L9, sn9, hC⟩ := hC
  refine wm_aload_n 1215 rfl dL_law_1214 rfl rfl ?_
  refine wm_aload_n 1216 rfl dL_law_1215 rfl rfl ?_
  refine wm_iload 1218 rfl dL_law_1216 rfl ?_
  refine wm_iconst (v := 1) 1219 rfl dL_law_1218 (by decide) ?_
  refine wm_iadd 1220 rfl dL_law_1219 ?_
  refine wl_sld 1221 rfl dL_law_1220 (hv 1 (Or.inl rfl)) ?_
  refine wm_aload_n 1222 rfl dL_law_1221 rfl rfl ?_
  refine wm_iload 1224 rfl dL_law_1222 rfl ?_
  refine wm_iconst (v := 2) 1225 rfl dL_law_1224 (by decide) ?_
  refine wm_iadd 1226 rfl dL_law_1225 ?_
  refine wl_sld 1227 rfl dL_law_1226 (hv 2 (Or.inr (Or.inl rfl))) ?_
  refine wm_aload_n 1228 rfl dL_law_1227 rfl rfl ?_
  refine wl_callW (ad := ac) 1231 rfl dL_law_1228 (w_areTogether l _ _ (k_X4_areTogether l hst hC.cI _ _) (show ∀ E ∈ [eIO, eIO], E ∈ [eIO] by decide) (fun v σ1 h => by obtain ⟨a, b, _, _, _, _, _, rfl⟩ := h; exact zp_01) o) aw_23_4 aw_3_23 ⟨by decide +kernel, by decide +kernel, (show (parseMethodDescriptor yL_areTogether.desc).map (fun d => d.parameters.length) = some 4 by decide +kernel)⟩ aw_23_3 aw_23_2 ⟨Nat.le_of_ble_eq_true rfl, Nat.le_of_ble_eq_true rfl⟩ (Nat.le_of_ble_eq_true rfl) ⟨Nat.le_trans (Nat.add_le_add_left (show 2 ≤ 5 by decide) k) hk.1, Nat.le_trans (Nat.add_le_add_left (show 12 ≤ 30 by decide) n) hk.2⟩ (zImp.perm (List.Perm.refl _)) (fun σ1 o1 => lX cT ac am aD σ1 μ o1 u) (fun _ _ => zImp.perm (List.Perm.refl _)) rfl (fun k6 σ1 o1 hw => ?_)
  refine wm_istore (ls' := [(6, _), (0, _), (1, _), (2, _), (3, _), (4, _), (5, _)]) 1233 rfl dL_law_1231 (by decide) rfl ?_
  refine wm_aload_n 1234 rfl dL_law_1233 rfl rfl ?_
  refine wm_aload_n 1235 rfl dL_law_1234 rfl rfl ?_
  refine wm_iload 1237 rfl dL_law_1235 rfl ?_
  refine wm_iconst (v := 1) 1238 rfl dL_law_1237 (by decide) ?_
  refine wm_iadd 1239 rfl dL_law_1238 ?_
  refine wl_sld 1240 rfl dL_law_1239 (hv 1 (Or.inl rfl)) ?_
  refine wm_aload_n 1241 rfl dL_law_1240 rfl rfl ?_
  refine wm_iload 1243 rfl dL_law_1241 rfl ?_
  refine wm_iconst (v := 2) 1244 rfl dL_law_1243 (by decide) ?_
  refine wm_iadd 1245 rfl dL_law_1244 ?_
  refine wl_sld 1246 rfl dL_law_1245 (hv 2 (Or.inr (Or.inl rfl))) ?_
  refine wl_callVi (ad := am) 1249 rfl dL_law_1246 (k_X5_areTogether l hC.mI hC.mP hC.mQ _ _) ca_X5_areTogether cv_X5_areTogether rfl aw_23_9 rfl rfl ⟨Nat.le_of_ble_eq_true rfl, Nat.le_of_ble_eq_true rfl⟩ (Nat.le_of_ble_eq_true rfl) ⟨Nat.le_trans (Nat.add_le_add_left (show 2 ≤ 5 by decide) k) hk.1, Nat.le_trans (Nat.add_le_add_left (show 12 ≤ 30 by decide) n) hk.2⟩ lX_M (fun μ1 => lX cT ac am aD σ1 μ1 o1 u) (fun _ => lX_M.symm) rfl (fun w μ1 hm => ?_)
  refine wm_istore (ls' := [(7, _), (6, _), (0, _), (1, _), (2, _), (3, _), (4, _), (5, _)]) 1251 rfl dL_law_1249 (by decide) rfl ?_
  refine wm_aload_n 1252 rfl dL_law_1251 rfl rfl ?_
  refine wl_callVi (ad := am) 1255 rfl dL_law_1252 (k_X5_thrown l) ca_X5_thrown cv_X5_thrown rfl aw_5_5 rfl rfl ⟨Nat.le_of_ble_eq_true rfl, Nat.le_of_ble_eq_true rfl⟩ (Nat.le_of_ble_eq_true rfl) ⟨Nat.le_trans (Nat.add_le_add_left (show 2 ≤ 5 by decide) k) hk.1, Nat.le_trans (Nat.add_le_add_left (show 12 ≤ 30 by decide) n) hk.2⟩ lX_M (fun μ2 => lX cT ac am aD σ1 μ2 o1 u) (fun _ => lX_M.symm) rfl (fun r9 μ2 h9 => ?_)
  obtain ⟨rfl, rfl⟩ := h9
  obtain ⟨v9, hc9, hf9⟩ := hw
  have ha := q_areTogether hC hc9 hm
  refine wm_iload 1257 rfl dL_law_1255 rfl ?_
  refine wm_icmp_eq 1262 1260 rfl (by decide) dL_law_1257 (fun _ => ?_) (fun c9 => absurd ha.1 c9)
  refine wm_iload 1264 rfl dL_law_1262 rfl ?_
  refine wm_if_ne 1286 1267 rfl (by decide) dL_law_1264 (fun _ => ?_) (fun c6 => ?_)
  · refine wm_goto 2208 (by decide) dL_law_1286 ?_
    refine wm_loc (ls2 := [(0, .ref b), (1, .ref (ac 0)), (2, .ref (am 0)), (3, .ref (ac 27)), (4, .ref aD), (5, .int x5)]) [2, 3, 4, 5, 6, 7] rfl ?_
    refine wl_widen (k1 := k + 5) (n1 := n + 30) (by omega) (by omega) ?_
    exact kk _ _ _ _ ha.2.2
  · obtain hv9 := ha.2.1 c6
    have hf9 := hf9 c6
    subst hv9
    refine wm_aload_n 1268 rfl dL_law_1267 rfl rfl ?_
    refine wm_iconst (v := 0) 1269 rfl dL_law_1268 (by decide) ?_
    refine wl_lald 1270 rfl dL_law_1269 vin01 ?_
    refine wm_iload 1272 rfl dL_law_1270 rfl ?_
    refine wm_if_eq 1279 1275 rfl (by decide) dL_law_1272 (fun c7 => ?_) (fun c7 => ?_)
    · refine wm_lconst (v := 0) 1280 rfl dL_law_1279 (by decide) ?_
      refine wm_lcmp 1281 rfl dL_law_1280 ?_
      refine wm_if_eq 1286 1284 rfl (by decide) dL_law_1281 (fun _ => ?_) (fun c8 => absurd ((lg_cmp_eq _ _).mpr (show o1 0 = 0 from hf9.2.trans (by rw [show v9 = 0 from c7]; rfl))) c8)
      refine wm_goto 2208 (by decide) dL_law_1286 ?_
      refine wm_loc (ls2 := [(0, .ref b), (1, .ref (ac 0)), (2, .ref (am 0)), (3, .ref (ac 27)), (4, .ref aD), (5, .int x5)]) [2, 3, 4, 5, 6, 7] rfl ?_
      refine wl_widen (k1 := k + 5) (n1 := n + 30) (by omega) (by omega) ?_
      exact kk _ _ _ _ ha.2.2
    · refine wm_lconst (v := 1) 1276 rfl dL_law_1275 (by decide) ?_
      refine wm_goto 1280 (by decide) dL_law_1276 ?_
      refine wm_lcmp 1281 rfl dL_law_1280 ?_
      refine wm_if_eq 1286 1284 rfl (by decide) dL_law_1281 (fun _ => ?_) (fun c8 => absurd ((lg_cmp_eq _ _).mpr (show o1 0 = 1 from hf9.2.trans (by rw [hf9.1.resolve_left c7]; rfl))) c8)
      refine wm_goto 2208 (by decide) dL_law_1286 ?_
      refine wm_loc (ls2 := [(0, .ref b), (1, .ref (ac 0)), (2, .ref (am 0)), (3, .ref (ac 27)), (4, .ref aD), (5, .int x5)]) [2, 3, 4, 5, 6, 7] rfl ?_
      refine wl_widen (k1 := k + 5) (n1 := n + 30) (by omega) (by omega) ?_
      exact kk _ _ _ _ ha.2.2
theorem lc_step (l : Launch) (hst : l.stackTraces = false) {D : va_G} {cT ac am : Nat → Nat} {aD b N sz : Nat} {xs : Nat → Int32} {σ μ : Sg} {o : Nat → Int64} {u : Nat → UInt64} {k n : Nat} {x5 : Int32} (hC : CP σ μ) (hv : ∀ c : Int32, c = 1 ∨ c = 2 ∨ c = 3 ∨ c = 4 → vp_in (x5 + c) N) (hk : k + 5 ≤ 646177 ∧ n + 30 ≤ 7157572) (kk : ∀ (σ1 μ1 : Sg) (o1 : Nat → Int64) (u1 : Nat → UInt64), CP σ1 μ1 → Wl l D cT ac am aD b N sz xs 2208 x5 σ1 μ1 o1 u1 (k + 5) (n + 30)) : Wl l D cT ac am aD b N sz xs 1289 x5 σ μ o u k n := by
  obtain ⟨n9, m9, p9, d9, L9, sn9, hC⟩ := hC
  refine wm_aload_n 1290 rfl dL_law_1289 rfl rfl ?_
  refine wm_aload_n 1291 rfl dL_law_1290 rfl rfl ?_
  refine wm_iload 1293 rfl dL_law_1291 rfl ?_
  refine wm_iconst (v := 1) 1294 rfl dL_law_1293 (by decide) ?_
  refine wm_iadd 1295 rfl dL_law_1294 ?_
  refine wl_sld 1296 rfl dL_law_1295 (hv 1 (Or.inl rfl)) ?_
  refine wm_aload_n 1297 rfl dL_law_1296 rfl rfl ?_
  refine wm_iload 1299 rfl dL_law_1297 rfl ?_
  refine wm_iconst (v := 2) 1300 rfl dL_law_1299 (by decide) ?_
  refine wm_iadd 1301 rfl dL_law_1300 ?_
  refine wl_sld 1302 rfl dL_law_1301 (hv 2 (Or.inr (Or.inl rfl))) ?_
  refine wm_aload_n 1303 rfl dL_law_1302 rfl rfl ?_
  refine wl_callW (ad := ac) 1306 rfl dL_law_1303 (w_step l _ _ (k_X4_step l hst hC.cI _ _) (show ∀ E ∈ [eIO, eIO, eIA, eNS], E ∈ [eIO, eIA, eNS] by decide) o) aw_23_15 aw_3_23 ⟨by decide +kernel, by decide +kernel, (show (parseMethodDescriptor yL_step.desc).map (fun d => d.parameters.length) = some 4 by decide +kernel)⟩ aw_23_14 aw_23_13 ⟨Nat.le_of_ble_eq_true rfl, Nat.le_of_ble_eq_true rfl⟩ (Nat.le_of_ble_eq_true rfl) ⟨Nat.le_trans (Nat.add_le_add_left (show 4 ≤ 5 by decide) k) hk.1, Nat.le_trans (Nat.add_le_add_left (show 24 ≤ 30 by decide) n) hk.2⟩ (zImp.perm (List.Perm.refl _)) (fun σ1 o1 => lX cT ac am aD σ1 μ o1 u) (fun _ _ => zImp.perm (List.Perm.refl _)) rfl (fun k6 σ1 o1 hw => ?_)
  refine wm_istore (ls' := [(6, _), (0, _), (1, _), (2, _), (3, _), (4, _), (5, _)]) 1308 rfl dL_law_1306 (by decide) rfl ?_
  refine wm_aload_n 1309 rfl dL_law_1308 rfl rfl ?_
  refine wm_aload_n 1310 rfl dL_law_1309 rfl rfl ?_
  refine wm_iload 1312 rfl dL_law_1310 rfl ?_
  refine wm_iconst (v := 1) 1313 rfl dL_law_1312 (by decide) ?_
  refine wm_iadd 1314 rfl dL_law_1313 ?_
  refine wl_sld 1315 rfl dL_law_1314 (hv 1 (Or.inl rfl)) ?_
  refine wm_aload_n 1316 rfl dL_law_1315 rfl rfl ?_
  refine wm_iload 1318 rfl dL_law_1316 rfl ?_
  refine wm_iconst (v := 2) 1319 rfl dL_law_1318 (by decide) ?_
  refine wm_iadd 1320 rfl dL_law_1319 ?_
  refine wl_sld 1321 rfl dL_law_1320 (hv 2 (Or.inr (Or.inl rfl))) ?_
  refine wl_callVi (ad := am) 1324 rfl dL_law_1321 (k_X5_step l hC.mI hC.mP hC.mQ _ _) ca_X5_step cv_X5_step rfl aw_24_0 rfl rfl ⟨Nat.le_of_ble_eq_true rfl, Nat.le_of_ble_eq_true rfl⟩ (Nat.le_of_ble_eq_true rfl) ⟨Nat.le_trans (Nat.add_le_add_left (show 4 ≤ 5 by decide) k) hk.1, Nat.le_trans (Nat.add_le_add_left (show 24 ≤ 30 by decide) n) hk.2⟩ lX_M (fun μ1 => lX cT ac am aD σ1 μ1 o1 u) (fun _ => lX_M.symm) rfl (fun w μ1 hm => ?_)
  refine wm_istore (ls' := [(7, _), (6, _), (0, _), (1, _), (2, _), (3, _), (4, _), (5, _)]) 1326 rfl dL_law_1324 (by decide) rfl ?_
  refine wm_aload_n 1327 rfl dL_law_1326 rfl rfl ?_
  refine wl_callVi (ad := am) 1330 rfl dL_law_1327 (k_X5_thrown l) ca_X5_thrown cv_X5_thrown rfl aw_5_5 rfl rfl ⟨Nat.le_of_ble_eq_true rfl, Nat.le_of_ble_eq_true rfl⟩ (Nat.le_of_ble_eq_true rfl) ⟨Nat.le_trans (Nat.add_le_add_left (show 4 ≤ 5 by decide) k) hk.1, Nat.le_trans (Nat.add_le_add_left (show 24 ≤ 30 by decide) n) hk.2⟩ lX_M (fun μ2 => lX cT ac am aD σ1 μ2 o1 u) (fun _ => lX_M.symm) rfl (fun r9 μ2 h9 => ?_)
  obtain ⟨rfl, rfl⟩ := h9
  obtain ⟨v9, hc9, hf9⟩ := hw
  have ha := q_step hC hc9 hm
  refine wm_iload 1332 rfl dL_law_1330 rfl ?_
  refine wm_icmp_eq 1337 1335 rfl (by decide) dL_law_1332 (fun _ => ?_) (fun c9 => absurd ha.1 c9)
  refine wm_iload 1339 rfl dL_law_1337 rfl ?_
  refine wm_if_ne 1354 1342 rfl (by decide) dL_law_1339 (fun _ => ?_) (fun c6 => ?_)
  · refine wm_goto 2208 (by decide) dL_law_1354 ?_
    refine wm_loc (ls2 := [(0, .ref b), (1, .ref (ac 0)), (2, .ref (am 0)), (3, .ref (ac 27)), (4, .ref aD), (5, .int x5)]) [2, 3, 4, 5, 6, 7] rfl ?_
    refine wl_widen (k1 := k + 5) (n1 := n + 30) (by omega) (by omega) ?_
    exact kk _ _ _ _ ha.2.2
  · obtain hv9 := ha.2.1 c6
    have hf9 := hf9 c6
    subst hv9
    refine wm_aload_n 1343 rfl dL_law_1342 rfl rfl ?_
    refine wm_iconst (v := 0) 1344 rfl dL_law_1343 (by decide) ?_
    refine wl_lald 1345 rfl dL_law_1344 vin01 ?_
    refine wm_iload 1347 rfl dL_law_1345 rfl ?_
    refine wm_i2l 1348 rfl dL_law_1347 ?_
    refine wm_lcmp 1349 rfl dL_law_1348 ?_
    refine wm_if_eq 1354 1352 rfl (by decide) dL_law_1349 (fun _ => ?_) (fun c8 => absurd ((lg_cmp_eq _ _).mpr hf9) c8)
    refine wm_goto 2208 (by decide) dL_law_1354 ?_
    refine wm_loc (ls2 := [(0, .ref b), (1, .ref (ac 0)), (2, .ref (am 0)), (3, .ref (ac 27)), (4, .ref aD), (5, .int x5)]) [2, 3, 4, 5, 6, 7] rfl ?_
    refine wl_widen (k1 := k + 5) (n1 := n + 30) (by omega) (by omega) ?_
    exact kk _ _ _ _ ha.2.2
theorem lc_shared (l : Launch) (hst : l.stackTraces = false) {D : va_G} {cT ac am : Nat → Nat} {aD b N sz : Nat} {xs : Nat → Int32} {σ μ : Sg} {o : Nat → Int64} {u : Nat → UInt64} {k n : Nat} {x5 : Int32} (hC : CP σ μ) (hv : ∀ c : Int32, c = 1 ∨ c = 2 ∨ c = 3 ∨ c = 4 → vp_in (x5 + c) N) (hk : k + 5 ≤ 646177 ∧ n + 30 ≤ 7157572) (kk : ∀ (σ1 μ1 : Sg) (o1 : Nat → Int64) (u1 : Nat → UInt64), CP σ1 μ1 → Wl l D cT ac am aD b N sz xs 2208 x5 σ1 μ1 o1 u1 (k + 5) (n + 30)) : Wl l D cT ac am aD b N sz xs 1357 x5 σ μ o u k n := by
  obtain ⟨n9, m9, p9, d9, L9, sn9, hC⟩ := hC
  refine wm_aload_n 1358 rfl dL_law_1357 rfl rfl ?_
  refine wm_aload_n 1359 rfl dL_law_1358 rfl rfl ?_
  refine wm_iload 1361 rfl dL_law_1359 rfl ?_
  refine wm_iconst (v := 1) 1362 rfl dL_law_1361 (by decide) ?_
  refine wm_iadd 1363 rfl dL_law_1362 ?_
  refine wl_sld 1364 rfl dL_law_1363 (hv 1 (Or.inl rfl)) ?_
  refine wm_aload_n 1365 rfl dL_law_1364 rfl rfl ?_
  refine wl_callW (ad := ac) 1368 rfl dL_law_1365 (w_shared l _ (k_X4_shared l hst hC.cI _) (show ∀ E ∈ [eIO], E ∈ [eIO] by decide) o) aw_24_6 aw_3_23 ⟨by decide +kernel, by decide +kernel, (show (parseMethodDescriptor yL_shared.desc).map (fun d => d.parameters.length) = some 3 by decide +kernel)⟩ aw_24_5 aw_24_4 ⟨Nat.le_of_ble_eq_true rfl, Nat.le_of_ble_eq_true rfl⟩ (Nat.le_of_ble_eq_true rfl) ⟨Nat.le_trans (Nat.add_le_add_left (show 1 ≤ 5 by decide) k) hk.1, Nat.le_trans (Nat.add_le_add_left (show 6 ≤ 30 by decide) n) hk.2⟩ (zImp.perm (List.Perm.refl _)) (fun σ1 o1 => lX cT ac am aD σ1 μ o1 u) (fun _ _ => zImp.perm (List.Perm.refl _)) rfl (fun k6 σ1 o1 hw => ?_)
  refine wm_istore (ls' := [(6, _), (0, _), (1, _), (2, _), (3, _), (4, _), (5, _)]) 1370 rfl dL_law_1368 (by decide) rfl ?_
  refine wm_aload_n 1371 rfl dL_law_1370 rfl rfl ?_
  refine wm_aload_n 1372 rfl dL_law_1371 rfl rfl ?_
  refine wm_iload 1374 rfl dL_law_1372 rfl ?_
  refine wm_iconst (v := 1) 1375 rfl dL_law_1374 (by decide) ?_
  refine wm_iadd 1376 rfl dL_law_1375 ?_
  refine wl_sld 1377 rfl dL_law_1376 (hv 1 (Or.inl rfl)) ?_
  refine wl_callVi (ad := am) 1380 rfl dL_law_1377 (k_X5_shared l hC.mI hC.mP hC.mQ _) ca_X5_shared cv_X5_shared rfl aw_24_21 rfl rfl ⟨Nat.le_of_ble_eq_true rfl, Nat.le_of_ble_eq_true rfl⟩ (Nat.le_of_ble_eq_true rfl) ⟨Nat.le_trans (Nat.add_le_add_left (show 1 ≤ 5 by decide) k) hk.1, Nat.le_trans (Nat.add_le_add_left (show 6 ≤ 30 by decide) n) hk.2⟩ lX_M (fun μ1 => lX cT ac am aD σ1 μ1 o1 u) (fun _ => lX_M.symm) rfl (fun w μ1 hm => ?_)
  refine wm_istore (ls' := [(7, _), (6, _), (0, _), (1, _), (2, _), (3, _), (4, _), (5, _)]) 1382 rfl dL_law_1380 (by decide) rfl ?_
  refine wm_aload_n 1383 rfl dL_law_1382 rfl rfl ?_
  refine wl_callVi (ad := am) 1386 rfl dL_law_1383 (k_X5_thrown l) ca_X5_thrown cv_X5_thrown rfl aw_5_5 rfl rfl ⟨Nat.le_of_ble_eq_true rfl, Nat.le_of_ble_eq_true rfl⟩ (Nat.le_of_ble_eq_true rfl) ⟨Nat.le_trans (Nat.add_le_add_left (show 1 ≤ 5 by decide) k) hk.1, Nat.le_trans (Nat.add_le_add_left (show 6 ≤ 30 by decide) n) hk.2⟩ lX_M (fun μ2 => lX cT ac am aD σ1 μ2 o1 u) (fun _ => lX_M.symm) rfl (fun r9 μ2 h9 => ?_)
  obtain ⟨rfl, rfl⟩ := h9
  obtain ⟨v9, hc9, hf9⟩ := hw
  have ha := q_shared hC hc9 hm
  refine wm_iload 1388 rfl dL_law_1386 rfl ?_
  refine wm_icmp_eq 1393 1391 rfl (by decide) dL_law_1388 (fun _ => ?_) (fun c9 => absurd ha.1 c9)
  refine wm_iload 1395 rfl dL_law_1393 rfl ?_
  refine wm_if_ne 1410 1398 rfl (by decide) dL_law_1395 (fun _ => ?_) (fun c6 => ?_)
  · refine wm_goto 2208 (by decide) dL_law_1410 ?_
    refine wm_loc (ls2 := [(0, .ref b), (1, .ref (ac 0)), (2, .ref (am 0)), (3, .ref (ac 27)), (4, .ref aD), (5, .int x5)]) [2, 3, 4, 5, 6, 7] rfl ?_
    refine wl_widen (k1 := k + 5) (n1 := n + 30) (by omega) (by omega) ?_
    exact kk _ _ _ _ ha.2.2
  · obtain hv9 := ha.2.1 c6
    have hf9 := hf9 c6
    subst hv9
    refine wm_aload_n 1399 rfl dL_law_1398 rfl rfl ?_
    refine wm_iconst (v := 0) 1400 rfl dL_law_1399 (by decide) ?_
    refine wl_lald 1401 rfl dL_law_1400 vin01 ?_
    refine wm_iload 1403 rfl dL_law_1401 rfl ?_
    refine wm_i2l 1404 rfl dL_law_1403 ?_
    refine wm_lcmp 1405 rfl dL_law_1404 ?_
    refine wm_if_eq 1410 1408 rfl (by decide) dL_law_1405 (fun _ => ?_) (fun c8 => absurd ((lg_cmp_eq _ _).mpr hf9) c8)
    refine wm_goto 2208 (by decide) dL_law_1410 ?_
    refine wm_loc (ls2 := [(0, .ref b), (1, .ref (ac 0)), (2, .ref (am 0)), (3, .ref (ac 27)), (4, .ref aD), (5, .int x5)]) [2, 3, 4, 5, 6, 7] rfl ?_
    refine wl_widen (k1 := k + 5) (n1 := n + 30) (by omega) (by omega) ?_
    exact kk _ _ _ _ ha.2.2
theorem lc_thingsWithout (l : Launch) (hst : l.stackTraces = false) {D : va_G} {cT ac am : Nat → Nat} {aD b N sz : Nat} {xs : Nat → Int32} {σ μ : Sg} {o : Nat → Int64} {u : Nat → UInt64} {k n : Nat} {x5 : Int32} (hC : CP σ μ) (hv : ∀ c : Int32, c = 1 ∨ c = 2 ∨ c = 3 ∨ c = 4 → vp_in (x5 + c) N) (hk : k + 5 ≤ 646177 ∧ n + 30 ≤ 7157572) (kk : ∀ (σ1 μ1 : Sg) (o1 : Nat → Int64) (u1 : Nat → UInt64), CP σ1 μ1 → Wl l D cT ac am aD b N sz xs 2208 x5 σ1 μ1 o1 u1 (k + 5) (n + 30)) : Wl l D cT ac am aD b N sz xs 1413 x5 σ μ o u k n := by
  obtain ⟨n9, m9, p9, d9, L9, sn9, hC⟩ := hC
  refine wm_aload_n 1414 rfl dL_law_1413 rfl rfl ?_
  refine wm_aload_n 1415 rfl dL_law_1414 rfl rfl ?_
  refine wm_iload 1417 rfl dL_law_1415 rfl ?_
  refine wm_iconst (v := 1) 1418 rfl dL_law_1417 (by decide) ?_
  refine wm_iadd 1419 rfl dL_law_1418 ?_
  refine wl_sld 1420 rfl dL_law_1419 (hv 1 (Or.inl rfl)) ?_
  refine wm_aload_n 1421 rfl dL_law_1420 rfl rfl ?_
  refine wl_callW (ad := ac) 1424 rfl dL_law_1421 (w_thingsWithout l _ (k_X4_thingsWithout l hst hC.cI _) (show ∀ E ∈ [eIO], E ∈ [eIO] by decide) o) aw_25_7 aw_3_23 ⟨by decide +kernel, by decide +kernel, (show (parseMethodDescriptor yL_thingsWithout.desc).map (fun d => d.parameters.length) = some 3 by decide +kernel)⟩ aw_25_6 aw_25_5 ⟨Nat.le_of_ble_eq_true rfl, Nat.le_of_ble_eq_true rfl⟩ (Nat.le_of_ble_eq_true rfl) ⟨Nat.le_trans (Nat.add_le_add_left (show 1 ≤ 5 by decide) k) hk.1, Nat.le_trans (Nat.add_le_add_left (show 6 ≤ 30 by decide) n) hk.2⟩ (zImp.perm (List.Perm.refl _)) (fun σ1 o1 => lX cT ac am aD σ1 μ o1 u) (fun _ _ => zImp.perm (List.Perm.refl _)) rfl (fun k6 σ1 o1 hw => ?_)
  refine wm_istore (ls' := [(6, _), (0, _), (1, _), (2, _), (3, _), (4, _), (5, _)]) 1426 rfl dL_law_1424 (by decide) rfl ?_
  refine wm_aload_n 1427 rfl dL_law_1426 rfl rfl ?_
  refine wm_aload_n 1428 rfl dL_law_1427 rfl rfl ?_
  refine wm_iload 1430 rfl dL_law_1428 rfl ?_
  refine wm_iconst (v := 1) 1431 rfl dL_law_1430 (by decide) ?_
  refine wm_iadd 1432 rfl dL_law_1431 ?_
  refine wl_sld 1433 rfl dL_law_1432 (hv 1 (Or.inl rfl)) ?_
  refine wl_callVi (ad := am) 1436 rfl dL_law_1433 (k_X5_thingsWithout l hC.mI hC.mP hC.mQ hC.2.2.2.2.2.2.2.2.1 _) ca_X5_thingsWithout cv_X5_thingsWithout rfl aw_25_13 rfl rfl ⟨Nat.le_of_ble_eq_true rfl, Nat.le_of_ble_eq_true rfl⟩ (Nat.le_of_ble_eq_true rfl) ⟨Nat.le_trans (Nat.add_le_add_left (show 1 ≤ 5 by decide) k) hk.1, Nat.le_trans (Nat.add_le_add_left (show 6 ≤ 30 by decide) n) hk.2⟩ lX_M (fun μ1 => lX cT ac am aD σ1 μ1 o1 u) (fun _ => lX_M.symm) rfl (fun w μ1 hm => ?_)
  refine wm_istore (ls' := [(7, _), (6, _), (0, _), (1, _), (2, _), (3, _), (4, _), (5, _)]) 1438 rfl dL_law_1436 (by decide) rfl ?_
  refine wm_aload_n 1439 rfl dL_law_1438 rfl rfl ?_
  refine wl_callVi (ad := am) 1442 rfl dL_law_1439 (k_X5_thrown l) ca_X5_thrown cv_X5_thrown rfl aw_5_5 rfl rfl ⟨Nat.le_of_ble_eq_true rfl, Nat.le_of_ble_eq_true rfl⟩ (Nat.le_of_ble_eq_true rfl) ⟨Nat.le_trans (Nat.add_le_add_left (show 1 ≤ 5 by decide) k) hk.1, Nat.le_trans (Nat.add_le_add_left (show 6 ≤ 30 by decide) n) hk.2⟩ lX_M (fun μ2 => lX cT ac am aD σ1 μ2 o1 u) (fun _ => lX_M.symm) rfl (fun r9 μ2 h9 => ?_)
  obtain ⟨rfl, rfl⟩ := h9
  obtain ⟨v9, hc9, hf9⟩ := hw
  have ha := q_thingsWithout hC hc9 hm
  refine wm_iload 1444 rfl dL_law_1442 rfl ?_
  refine wm_icmp_eq 1449 1447 rfl (by decide) dL_law_1444 (fun _ => ?_) (fun c9 => absurd ha.1 c9)
  refine wm_iload 1451 rfl dL_law_1449 rfl ?_
  refine wm_if_ne 1466 1454 rfl (by decide) dL_law_1451 (fun _ => ?_) (fun c6 => ?_)
  · refine wm_goto 2208 (by decide) dL_law_1466 ?_
    refine wm_loc (ls2 := [(0, .ref b), (1, .ref (ac 0)), (2, .ref (am 0)), (3, .ref (ac 27)), (4, .ref aD), (5, .int x5)]) [2, 3, 4, 5, 6, 7] rfl ?_
    refine wl_widen (k1 := k + 5) (n1 := n + 30) (by omega) (by omega) ?_
    exact kk _ _ _ _ ha.2.2
  · obtain hv9 := ha.2.1 c6
    have hf9 := hf9 c6
    subst hv9
    refine wm_aload_n 1455 rfl dL_law_1454 rfl rfl ?_
    refine wm_iconst (v := 0) 1456 rfl dL_law_1455 (by decide) ?_
    refine wl_lald 1457 rfl dL_law_1456 vin01 ?_
    refine wm_iload 1459 rfl dL_law_1457 rfl ?_
    refine wm_i2l 1460 rfl dL_law_1459 ?_
    refine wm_lcmp 1461 rfl dL_law_1460 ?_
    refine wm_if_eq 1466 1464 rfl (by decide) dL_law_1461 (fun _ => ?_) (fun c8 => absurd ((lg_cmp_eq _ _).mpr hf9) c8)
    refine wm_goto 2208 (by decide) dL_law_1466 ?_
    refine wm_loc (ls2 := [(0, .ref b), (1, .ref (ac 0)), (2, .ref (am 0)), (3, .ref (ac 27)), (4, .ref aD), (5, .int x5)]) [2, 3, 4, 5, 6, 7] rfl ?_
    refine wl_widen (k1 := k + 5) (n1 := n + 30) (by omega) (by omega) ?_
    exact kk _ _ _ _ ha.2.2
theorem lc_thingsIf (l : Launch) (hst : l.stackTraces = false) {D : va_G} {cT ac am : Nat → Nat} {aD b N sz : Nat} {xs : Nat → Int32} {σ μ : Sg} {o : Nat → Int64} {u : Nat → UInt64} {k n : Nat} {x5 : Int32} (hC : CP σ μ) (hv : ∀ c : Int32, c = 1 ∨ c = 2 ∨ c = 3 ∨ c = 4 → vp_in (x5 + c) N) (hk : k + 5 ≤ 646177 ∧ n + 30 ≤ 7157572) (kk : ∀ (σ1 μ1 : Sg) (o1 : Nat → Int64) (u1 : Nat → UInt64), CP σ1 μ1 → Wl l D cT ac am aD b N sz xs 2208 x5 σ1 μ1 o1 u1 (k + 5) (n + 30)) : Wl l D cT ac am aD b N sz xs 1469 x5 σ μ o u k n := by
  obtain ⟨n9, m9, p9, d9, L9, sn9, hC⟩ := hC
  refine wm_aload_n 1470 rfl dL_law_1469 rfl rfl ?_
  refine wm_aload_n 1471 rfl dL_law_1470 rfl rfl ?_
  refine wm_iload 1473 rfl dL_law_1471 rfl ?_
  refine wm_iconst (v := 1) 1474 rfl dL_law_1473 (by decide) ?_
  refine wm_iadd 1475 rfl dL_law_1474 ?_
  refine wl_sld 1476 rfl dL_law_1475 (hv 1 (Or.inl rfl)) ?_
  refine wm_aload_n 1477 rfl dL_law_1476 rfl rfl ?_
  refine wm_iload 1479 rfl dL_law_1477 rfl ?_
  refine wm_iconst (v := 2) 1480 rfl dL_law_1479 (by decide) ?_
  refine wm_iadd 1481 rfl dL_law_1480 ?_
  refine wl_sld 1482 rfl dL_law_1481 (hv 2 (Or.inr (Or.inl rfl))) ?_
  refine wm_aload_n 1483 rfl dL_law_1482 rfl rfl ?_
  refine wm_iload 1485 rfl dL_law_1483 rfl ?_
  refine wm_iconst (v := 3) 1486 rfl dL_law_1485 (by decide) ?_
  refine wm_iadd 1487 rfl dL_law_1486 ?_
  refine wl_sld 1488 rfl dL_law_1487 (hv 3 (Or.inr (Or.inr (Or.inl rfl)))) ?_
  refine wm_aload_n 1489 rfl dL_law_1488 rfl rfl ?_
  refine wl_callW (ad := ac) 1492 rfl dL_law_1489 (w_thingsIf l _ _ _ (k_X4_thingsIf l hst hC.cI _ _ _) (show ∀ E ∈ [eIO, eIO, eIA], E ∈ [eIO, eIA] by decide) o) aw_25_19 aw_3_23 ⟨by decide +kernel, by decide +kernel, (show (parseMethodDescriptor yL_thingsIf.desc).map (fun d => d.parameters.length) = some 5 by decide +kernel)⟩ aw_25_18 aw_25_17 ⟨Nat.le_of_ble_eq_true rfl, Nat.le_of_ble_eq_true rfl⟩ (Nat.le_of_ble_eq_true rfl) ⟨Nat.le_trans (Nat.add_le_add_left (show 3 ≤ 5 by decide) k) hk.1, Nat.le_trans (Nat.add_le_add_left (show 18 ≤ 30 by decide) n) hk.2⟩ (zImp.perm (List.Perm.refl _)) (fun σ1 o1 => lX cT ac am aD σ1 μ o1 u) (fun _ _ => zImp.perm (List.Perm.refl _)) rfl (fun k6 σ1 o1 hw => ?_)
  refine wm_istore (ls' := [(6, _), (0, _), (1, _), (2, _), (3, _), (4, _), (5, _)]) 1494 rfl dL_law_1492 (by decide) rfl ?_
  refine wm_aload_n 1495 rfl dL_law_1494 rfl rfl ?_
  refine wm_aload_n 1496 rfl dL_law_1495 rfl rfl ?_
  refine wm_iload 1498 rfl dL_law_1496 rfl ?_
  refine wm_iconst (v := 1) 1499 rfl dL_law_1498 (by decide) ?_
  refine wm_iadd 1500 rfl dL_law_1499 ?_
  refine wl_sld 1501 rfl dL_law_1500 (hv 1 (Or.inl rfl)) ?_
  refine wm_aload_n 1502 rfl dL_law_1501 rfl rfl ?_
  refine wm_iload 1504 rfl dL_law_1502 rfl ?_
  refine wm_iconst (v := 2) 1505 rfl dL_law_1504 (by decide) ?_
  refine wm_iadd 1506 rfl dL_law_1505 ?_
  refine wl_sld 1507 rfl dL_law_1506 (hv 2 (Or.inr (Or.inl rfl))) ?_
  refine wm_aload_n 1508 rfl dL_law_1507 rfl rfl ?_
  refine wm_iload 1510 rfl dL_law_1508 rfl ?_
  refine wm_iconst (v := 3) 1511 rfl dL_law_1510 (by decide) ?_
  refine wm_iadd 1512 rfl dL_law_1511 ?_
  refine wl_sld 1513 rfl dL_law_1512 (hv 3 (Or.inr (Or.inr (Or.inl rfl)))) ?_
  refine wl_callVi (ad := am) 1516 rfl dL_law_1513 (k_X5_thingsIf l hC.mI hC.mP hC.mQ _ _ _) ca_X5_thingsIf cv_X5_thingsIf rfl aw_26_0 rfl rfl ⟨Nat.le_of_ble_eq_true rfl, Nat.le_of_ble_eq_true rfl⟩ (Nat.le_of_ble_eq_true rfl) ⟨Nat.le_trans (Nat.add_le_add_left (show 3 ≤ 5 by decide) k) hk.1, Nat.le_trans (Nat.add_le_add_left (show 18 ≤ 30 by decide) n) hk.2⟩ lX_M (fun μ1 => lX cT ac am aD σ1 μ1 o1 u) (fun _ => lX_M.symm) rfl (fun w μ1 hm => ?_)
  refine wm_istore (ls' := [(7, _), (6, _), (0, _), (1, _), (2, _), (3, _), (4, _), (5, _)]) 1518 rfl dL_law_1516 (by decide) rfl ?_
  refine wm_aload_n 1519 rfl dL_law_1518 rfl rfl ?_
  refine wl_callVi (ad := am) 1522 rfl dL_law_1519 (k_X5_thrown l) ca_X5_thrown cv_X5_thrown rfl aw_5_5 rfl rfl ⟨Nat.le_of_ble_eq_true rfl, Nat.le_of_ble_eq_true rfl⟩ (Nat.le_of_ble_eq_true rfl) ⟨Nat.le_trans (Nat.add_le_add_left (show 3 ≤ 5 by decide) k) hk.1, Nat.le_trans (Nat.add_le_add_left (show 18 ≤ 30 by decide) n) hk.2⟩ lX_M (fun μ2 => lX cT ac am aD σ1 μ2 o1 u) (fun _ => lX_M.symm) rfl (fun r9 μ2 h9 => ?_)
  obtain ⟨rfl, rfl⟩ := h9
  obtain ⟨v9, hc9, hf9⟩ := hw
  have ha := q_thingsIf hC hc9 hm
  refine wm_iload 1524 rfl dL_law_1522 rfl ?_
  refine wm_icmp_eq 1529 1527 rfl (by decide) dL_law_1524 (fun _ => ?_) (fun c9 => absurd ha.1 c9)
  refine wm_iload 1531 rfl dL_law_1529 rfl ?_
  refine wm_if_ne 1546 1534 rfl (by decide) dL_law_1531 (fun _ => ?_) (fun c6 => ?_)
  · refine wm_goto 2208 (by decide) dL_law_1546 ?_
    refine wm_loc (ls2 := [(0, .ref b), (1, .ref (ac 0)), (2, .ref (am 0)), (3, .ref (ac 27)), (4, .ref aD), (5, .int x5)]) [2, 3, 4, 5, 6, 7] rfl ?_
    refine wl_widen (k1 := k + 5) (n1 := n + 30) (by omega) (by omega) ?_
    exact kk _ _ _ _ ha.2.2
  · obtain hv9 := ha.2.1 c6
    have hf9 := hf9 c6
    subst hv9
    refine wm_aload_n 1535 rfl dL_law_1534 rfl rfl ?_
    refine wm_iconst (v := 0) 1536 rfl dL_law_1535 (by decide) ?_
    refine wl_lald 1537 rfl dL_law_1536 vin01 ?_
    refine wm_iload 1539 rfl dL_law_1537 rfl ?_
    refine wm_i2l 1540 rfl dL_law_1539 ?_
    refine wm_lcmp 1541 rfl dL_law_1540 ?_
    refine wm_if_eq 1546 1544 rfl (by decide) dL_law_1541 (fun _ => ?_) (fun c8 => absurd ((lg_cmp_eq _ _).mpr hf9) c8)
    refine wm_goto 2208 (by decide) dL_law_1546 ?_
    refine wm_loc (ls2 := [(0, .ref b), (1, .ref (ac 0)), (2, .ref (am 0)), (3, .ref (ac 27)), (4, .ref aD), (5, .int x5)]) [2, 3, 4, 5, 6, 7] rfl ?_
    refine wl_widen (k1 := k + 5) (n1 := n + 30) (by omega) (by omega) ?_
    exact kk _ _ _ _ ha.2.2
theorem lc_thingsIfAllowed (l : Launch) (hst : l.stackTraces = false) {D : va_G} {cT ac am : Nat → Nat} {aD b N sz : Nat} {xs : Nat → Int32} {σ μ : Sg} {o : Nat → Int64} {u : Nat → UInt64} {k n : Nat} {x5 : Int32} (hC : CP σ μ) (hv : ∀ c : Int32, c = 1 ∨ c = 2 ∨ c = 3 ∨ c = 4 → vp_in (x5 + c) N) (hk : k + 5 ≤ 646177 ∧ n + 30 ≤ 7157572) (kk : ∀ (σ1 μ1 : Sg) (o1 : Nat → Int64) (u1 : Nat → UInt64), CP σ1 μ1 → Wl l D cT ac am aD b N sz xs 2208 x5 σ1 μ1 o1 u1 (k + 5) (n + 30)) : Wl l D cT ac am aD b N sz xs 1549 x5 σ μ o u k n := by
  obtain ⟨n9, m9, p9, d9, L9, sn9, hC⟩ := hC
  refine wm_aload_n 1550 rfl dL_law_1549 rfl rfl ?_
  refine wm_aload_n 1551 rfl dL_law_1550 rfl rfl ?_
  refine wm_iload 1553 rfl dL_law_1551 rfl ?_
  refine wm_iconst (v := 1) 1554 rfl dL_law_1553 (by decide) ?_
  refine wm_iadd 1555 rfl dL_law_1554 ?_
  refine wl_sld 1556 rfl dL_law_1555 (hv 1 (Or.inl rfl)) ?_
  refine wm_aload_n 1557 rfl dL_law_1556 rfl rfl ?_
  refine wm_iload 1559 rfl dL_law_1557 rfl ?_
  refine wm_iconst (v := 2) 1560 rfl dL_law_1559 (by decide) ?_
  refine wm_iadd 1561 rfl dL_law_1560 ?_
  refine wl_sld 1562 rfl dL_law_1561 (hv 2 (Or.inr (Or.inl rfl))) ?_
  refine wm_aload_n 1563 rfl dL_law_1562 rfl rfl ?_
  refine wl_callW (ad := ac) 1566 rfl dL_law_1563 (w_thingsIfAllowed l _ _ (k_X4_thingsIfAllowed l hst hC.cI hC.sy _ _) (show ∀ E ∈ [eIO, eIO, eNS], E ∈ [eIO, eNS] by decide) o) aw_26_7 aw_3_23 ⟨by decide +kernel, by decide +kernel, (show (parseMethodDescriptor yL_thingsIfAllowed.desc).map (fun d => d.parameters.length) = some 4 by decide +kernel)⟩ aw_26_6 aw_26_5 ⟨Nat.le_of_ble_eq_true rfl, Nat.le_of_ble_eq_true rfl⟩ (Nat.le_of_ble_eq_true rfl) ⟨Nat.le_trans (Nat.add_le_add_left (show 3 ≤ 5 by decide) k) hk.1, Nat.le_trans (Nat.add_le_add_left (show 18 ≤ 30 by decide) n) hk.2⟩ (zImp.perm (List.Perm.refl _)) (fun σ1 o1 => lX cT ac am aD σ1 μ o1 u) (fun _ _ => zImp.perm (List.Perm.refl _)) rfl (fun k6 σ1 o1 hw => ?_)
  refine wm_istore (ls' := [(6, _), (0, _), (1, _), (2, _), (3, _), (4, _), (5, _)]) 1568 rfl dL_law_1566 (by decide) rfl ?_
  refine wm_aload_n 1569 rfl dL_law_1568 rfl rfl ?_
  refine wm_aload_n 1570 rfl dL_law_1569 rfl rfl ?_
  refine wm_iload 1572 rfl dL_law_1570 rfl ?_
  refine wm_iconst (v := 1) 1573 rfl dL_law_1572 (by decide) ?_
  refine wm_iadd 1574 rfl dL_law_1573 ?_
  refine wl_sld 1575 rfl dL_law_1574 (hv 1 (Or.inl rfl)) ?_
  refine wm_aload_n 1576 rfl dL_law_1575 rfl rfl ?_
  refine wm_iload 1578 rfl dL_law_1576 rfl ?_
  refine wm_iconst (v := 2) 1579 rfl dL_law_1578 (by decide) ?_
  refine wm_iadd 1580 rfl dL_law_1579 ?_
  refine wl_sld 1581 rfl dL_law_1580 (hv 2 (Or.inr (Or.inl rfl))) ?_
  refine wl_callVi (ad := am) 1584 rfl dL_law_1581 (k_X5_thingsIfAllowed l hC.mI hC.mP hC.mQ hC.2.2.2.2.2.2.2.2.2 _ _) ca_X5_thingsIfAllowed cv_X5_thingsIfAllowed rfl aw_26_12 rfl rfl ⟨Nat.le_of_ble_eq_true rfl, Nat.le_of_ble_eq_true rfl⟩ (Nat.le_of_ble_eq_true rfl) ⟨Nat.le_trans (Nat.add_le_add_left (show 3 ≤ 5 by decide) k) hk.1, Nat.le_trans (Nat.add_le_add_left (show 18 ≤ 30 by decide) n) hk.2⟩ lX_M (fun μ1 => lX cT ac am aD σ1 μ1 o1 u) (fun _ => lX_M.symm) rfl (fun w μ1 hm => ?_)
  refine wm_istore (ls' := [(7, _), (6, _), (0, _), (1, _), (2, _), (3, _), (4, _), (5, _)]) 1586 rfl dL_law_1584 (by decide) rfl ?_
  refine wm_aload_n 1587 rfl dL_law_1586 rfl rfl ?_
  refine wl_callVi (ad := am) 1590 rfl dL_law_1587 (k_X5_thrown l) ca_X5_thrown cv_X5_thrown rfl aw_5_5 rfl rfl ⟨Nat.le_of_ble_eq_true rfl, Nat.le_of_ble_eq_true rfl⟩ (Nat.le_of_ble_eq_true rfl) ⟨Nat.le_trans (Nat.add_le_add_left (show 3 ≤ 5 by decide) k) hk.1, Nat.le_trans (Nat.add_le_add_left (show 18 ≤ 30 by decide) n) hk.2⟩ lX_M (fun μ2 => lX cT ac am aD σ1 μ2 o1 u) (fun _ => lX_M.symm) rfl (fun r9 μ2 h9 => ?_)
  obtain ⟨rfl, rfl⟩ := h9
  obtain ⟨v9, hc9, hf9⟩ := hw
  have ha := q_thingsIfAllowed hC hc9 hm
  refine wm_iload 1592 rfl dL_law_1590 rfl ?_
  refine wm_icmp_eq 1597 1595 rfl (by decide) dL_law_1592 (fun _ => ?_) (fun c9 => absurd ha.1 c9)
  refine wm_iload 1599 rfl dL_law_1597 rfl ?_
  refine wm_if_ne 1614 1602 rfl (by decide) dL_law_1599 (fun _ => ?_) (fun c6 => ?_)
  · refine wm_goto 2208 (by decide) dL_law_1614 ?_
    refine wm_loc (ls2 := [(0, .ref b), (1, .ref (ac 0)), (2, .ref (am 0)), (3, .ref (ac 27)), (4, .ref aD), (5, .int x5)]) [2, 3, 4, 5, 6, 7] rfl ?_
    refine wl_widen (k1 := k + 5) (n1 := n + 30) (by omega) (by omega) ?_
    exact kk _ _ _ _ ha.2.2
  · obtain hv9 := ha.2.1 c6
    have hf9 := hf9 c6
    subst hv9
    refine wm_aload_n 1603 rfl dL_law_1602 rfl rfl ?_
    refine wm_iconst (v := 0) 1604 rfl dL_law_1603 (by decide) ?_
    refine wl_lald 1605 rfl dL_law_1604 vin01 ?_
    refine wm_iload 1607 rfl dL_law_1605 rfl ?_
    refine wm_i2l 1608 rfl dL_law_1607 ?_
    refine wm_lcmp 1609 rfl dL_law_1608 ?_
    refine wm_if_eq 1614 1612 rfl (by decide) dL_law_1609 (fun _ => ?_) (fun c8 => absurd ((lg_cmp_eq _ _).mpr hf9) c8)
    refine wm_goto 2208 (by decide) dL_law_1614 ?_
    refine wm_loc (ls2 := [(0, .ref b), (1, .ref (ac 0)), (2, .ref (am 0)), (3, .ref (ac 27)), (4, .ref aD), (5, .int x5)]) [2, 3, 4, 5, 6, 7] rfl ?_
    refine wl_widen (k1 := k + 5) (n1 := n + 30) (by omega) (by omega) ?_
    exact kk _ _ _ _ ha.2.2
theorem lc_weight (l : Launch) (hst : l.stackTraces = false) {D : va_G} {cT ac am : Nat → Nat} {aD b N sz : Nat} {xs : Nat → Int32} {σ μ : Sg} {o : Nat → Int64} {u : Nat → UInt64} {k n : Nat} {x5 : Int32} (hC : CP σ μ) (hv : ∀ c : Int32, c = 1 ∨ c = 2 ∨ c = 3 ∨ c = 4 → vp_in (x5 + c) N) (hk : k + 5 ≤ 646177 ∧ n + 30 ≤ 7157572) (kk : ∀ (σ1 μ1 : Sg) (o1 : Nat → Int64) (u1 : Nat → UInt64), CP σ1 μ1 → Wl l D cT ac am aD b N sz xs 2208 x5 σ1 μ1 o1 u1 (k + 5) (n + 30)) : Wl l D cT ac am aD b N sz xs 1617 x5 σ μ o u k n := by
  obtain ⟨n9, m9, p9, d9, L9, sn9, hC⟩ := hC
  refine wm_aload_n 1618 rfl dL_law_1617 rfl rfl ?_
  refine wm_aload_n 1619 rfl dL_law_1618 rfl rfl ?_
  refine wm_iload 1621 rfl dL_law_1619 rfl ?_
  refine wm_iconst (v := 1) 1622 rfl dL_law_1621 (by decide) ?_
  refine wm_iadd 1623 rfl dL_law_1622 ?_
  refine wl_sld 1624 rfl dL_law_1623 (hv 1 (Or.inl rfl)) ?_
  refine wm_aload_n 1625 rfl dL_law_1624 rfl rfl ?_
  refine wl_callW (ad := ac) 1628 rfl dL_law_1625 (w_weight l _ (k_X4_weight l hst hC.cI hC.cS _) (show ∀ E ∈ [eIO], E ∈ [eIO] by decide) o) aw_26_18 aw_3_23 ⟨by decide +kernel, by decide +kernel, (show (parseMethodDescriptor yL_weight.desc).map (fun d => d.parameters.length) = some 3 by decide +kernel)⟩ aw_26_17 aw_26_16 ⟨Nat.le_of_ble_eq_true rfl, Nat.le_of_ble_eq_true rfl⟩ (Nat.le_of_ble_eq_true rfl) ⟨Nat.le_trans (Nat.add_le_add_left (show 1 ≤ 5 by decide) k) hk.1, Nat.le_trans (Nat.add_le_add_left (show 6 ≤ 30 by decide) n) hk.2⟩ (zImp.perm (List.Perm.refl _)) (fun σ1 o1 => lX cT ac am aD σ1 μ o1 u) (fun _ _ => zImp.perm (List.Perm.refl _)) rfl (fun k6 σ1 o1 hw => ?_)
  refine wm_istore (ls' := [(6, _), (0, _), (1, _), (2, _), (3, _), (4, _), (5, _)]) 1630 rfl dL_law_1628 (by decide) rfl ?_
  refine wm_aload_n 1631 rfl dL_law_1630 rfl rfl ?_
  refine wm_aload_n 1632 rfl dL_law_1631 rfl rfl ?_
  refine wm_iload 1634 rfl dL_law_1632 rfl ?_
  refine wm_iconst (v := 1) 1635 rfl dL_law_1634 (by decide) ?_
  refine wm_iadd 1636 rfl dL_law_1635 ?_
  refine wl_sld 1637 rfl dL_law_1636 (hv 1 (Or.inl rfl)) ?_
  refine wl_callVi (ad := am) 1640 rfl dL_law_1637 (k_X5_weight l hC.mI hC.sM _) ca_X5_weight cv_X5_weight rfl aw_27_3 rfl rfl ⟨Nat.le_of_ble_eq_true rfl, Nat.le_of_ble_eq_true rfl⟩ (Nat.le_of_ble_eq_true rfl) ⟨Nat.le_trans (Nat.add_le_add_left (show 1 ≤ 5 by decide) k) hk.1, Nat.le_trans (Nat.add_le_add_left (show 6 ≤ 30 by decide) n) hk.2⟩ lX_M (fun μ1 => lX cT ac am aD σ1 μ1 o1 u) (fun _ => lX_M.symm) rfl (fun w μ1 hm => ?_)
  refine wm_istore (ls' := [(7, _), (6, _), (0, _), (1, _), (2, _), (3, _), (4, _), (5, _)]) 1642 rfl dL_law_1640 (by decide) rfl ?_
  refine wm_aload_n 1643 rfl dL_law_1642 rfl rfl ?_
  refine wl_callVi (ad := am) 1646 rfl dL_law_1643 (k_X5_thrown l) ca_X5_thrown cv_X5_thrown rfl aw_5_5 rfl rfl ⟨Nat.le_of_ble_eq_true rfl, Nat.le_of_ble_eq_true rfl⟩ (Nat.le_of_ble_eq_true rfl) ⟨Nat.le_trans (Nat.add_le_add_left (show 1 ≤ 5 by decide) k) hk.1, Nat.le_trans (Nat.add_le_add_left (show 6 ≤ 30 by decide) n) hk.2⟩ lX_M (fun μ2 => lX cT ac am aD σ1 μ2 o1 u) (fun _ => lX_M.symm) rfl (fun r9 μ2 h9 => ?_)
  obtain ⟨rfl, rfl⟩ := h9
  obtain ⟨v9, hc9, hf9⟩ := hw
  have ha := q_weight hC hc9 hm
  refine wm_iload 1648 rfl dL_law_1646 rfl ?_
  refine wm_icmp_eq 1653 1651 rfl (by decide) dL_law_1648 (fun _ => ?_) (fun c9 => absurd ha.1 c9)
  refine wm_iload 1655 rfl dL_law_1653 rfl ?_
  refine wm_if_ne 1670 1658 rfl (by decide) dL_law_1655 (fun _ => ?_) (fun c6 => ?_)
  · refine wm_goto 2208 (by decide) dL_law_1670 ?_
    refine wm_loc (ls2 := [(0, .ref b), (1, .ref (ac 0)), (2, .ref (am 0)), (3, .ref (ac 27)), (4, .ref aD), (5, .int x5)]) [2, 3, 4, 5, 6, 7] rfl ?_
    refine wl_widen (k1 := k + 5) (n1 := n + 30) (by omega) (by omega) ?_
    exact kk _ _ _ _ ha.2.2
  · obtain hv9 := ha.2.1 c6
    have hf9 := hf9 c6
    subst hv9
    refine wm_aload_n 1659 rfl dL_law_1658 rfl rfl ?_
    refine wm_iconst (v := 0) 1660 rfl dL_law_1659 (by decide) ?_
    refine wl_lald 1661 rfl dL_law_1660 vin01 ?_
    refine wm_iload 1663 rfl dL_law_1661 rfl ?_
    refine wm_i2l 1664 rfl dL_law_1663 ?_
    refine wm_lcmp 1665 rfl dL_law_1664 ?_
    refine wm_if_eq 1670 1668 rfl (by decide) dL_law_1665 (fun _ => ?_) (fun c8 => absurd ((lg_cmp_eq _ _).mpr hf9) c8)
    refine wm_goto 2208 (by decide) dL_law_1670 ?_
    refine wm_loc (ls2 := [(0, .ref b), (1, .ref (ac 0)), (2, .ref (am 0)), (3, .ref (ac 27)), (4, .ref aD), (5, .int x5)]) [2, 3, 4, 5, 6, 7] rfl ?_
    refine wl_widen (k1 := k + 5) (n1 := n + 30) (by omega) (by omega) ?_
    exact kk _ _ _ _ ha.2.2
