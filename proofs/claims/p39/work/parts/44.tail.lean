theorem cw_L_shared : zCalW yL_shared (Cond.codeWith yL_shared cL_shared 3 (some .int) [(0, 5, 6, 17)]) 2 := ⟨aw_21_20, aw_3_5, by decide +kernel, by decide +kernel, by decide +kernel⟩
theorem cw_L_sum : zCalW yL_sum (Cond.code yL_sum cL_sum 5 (some .long)) 1 := ⟨aw_3_12, aw_3_5, by decide +kernel, by decide +kernel, by decide +kernel⟩
theorem cw_L_isSound : zCalW yL_isSound (Cond.code yL_isSound cL_isSound 11 (some .boolean)) 2 := ⟨aw_21_0, aw_3_5, by decide +kernel, by decide +kernel, by decide +kernel⟩
/-! BEHIND THE LOOP: sound at the end; every wrong call refused with its own number; nothing changed -/
theorem no24 {τ : Sg} {n : Nat} (hn : n ≤ 24) : ¬ hdR τ n 24 := by
  rintro ⟨i, e, h⟩
  have h1 := h.1
  have := eq_of_nI (a := 24) e (by omega) (by omega)
  omega
theorem non {τ : Sg} {n : Nat} (hn : n ≤ 24) : ¬ hdR τ n (nI n) := by
  rintro ⟨i, e, h⟩
  have h1 := h.1
  have := eq_of_nI e (by omega) (by omega)
  omega
theorem no_1 {τ : Sg} {n : Nat} (hn : n ≤ 24) : ¬ hdR τ n (-1) := by
  rintro ⟨i, e, h⟩
  have h1 := h.1
  exact nI_ne_m1 (a := i) (by omega) e.symm
theorem nR_self {m : Nat} (hm : m ≤ 4) : ¬ nR m (nI m) := by
  rintro ⟨i, e, h⟩
  have := eq_of_nI e (by omega) (by omega)
  omega
theorem nR33 : ¬ nR 3 3 := nR_self (m := 3) (by omega)
theorem nR3_1 : ¬ nR 3 (-1) := by
  rintro ⟨i, e, h⟩
  exact nI_ne_m1 (a := i) (by omega) e.symm
theorem lg_self (x : Int64) : lg_cmp x x = 0 := by simp [lg_cmp]
theorem law_tail (l : Launch) (hst : l.stackTraces = false) {D : va_G} {cT ad : Nat → Nat} {b N sz : Nat} {xs : Nat → Int32} {σ : Sg} {n m p d L : Nat} {sn : Nat → Nat} (hC : CI σ n m p d L sn) {S : Nat} (hS : S < 2 ^ 31) {kb nb : Nat} (hk : kb + 4000 ≤ 676585 ∧ nb + 24000 ≤ 7071868) : Wl l D cT ad b N sz xs 656 [(1, .ref 0), (2, .int (nI n)), (3, .int (nI m)), (4, .int (nI S))] [] σ kb nb := by
  have h24 := hC.n24
  have hm4 := hC.2.1.2
  generalize hB : dgR σ n sn d L 24 = B
  have t780 : ∀ (τ : Sg) (k1 n1 : Nat), stb σ τ → k1 + 1200 ≤ 676585 → n1 + 7200 ≤ 7071868 → Wl l D cT ad b N sz xs 780 [(1, .ref 0), (2, .int (nI n)), (3, .int (nI m)), (5, .long B)] [] τ k1 n1 := by
    intro τ k1 n1 hs0 hk1 hn1
    refine wm_aload_n 781 rfl dL_law_780 rfl rfl ?_
    refine wm_bipush (v := 24) 783 rfl dL_law_781 (by decide) ?_
    refine wm_iconst (v := 0) 784 rfl dL_law_783 (by decide) ?_
    refine wm_bipush (v := 100) 786 rfl dL_law_784 (by decide) ?_
    refine wm_iconst (v := 0) 787 rfl dL_law_786 (by decide) ?_
    refine wl_callWi 790 rfl dL_law_787 (h_sets0 l 24 0 100 (k_X4_setKey l hst ((stb.rf _).cIy (hC.st hs0).cI) 24 0 100) (show ∀ E ∈ [eIO, eIO, eIA], E ∈ [eIO, eIA] by decide)) cw_L_sets aw_17_18 aw_17_17 ⟨Nat.le_of_ble_eq_true rfl, Nat.le_of_ble_eq_true rfl⟩ (Nat.le_of_ble_eq_true rfl) (show _ ≤ 676585 ∧ _ ≤ 7071868 from ⟨by omega, by omega⟩) (fun r787 σ787 hp => ?_)
    have e787 : stb σ σ787 ∧ r787 = (-1001) := by
      rcases hp with h | ⟨h1, h2⟩
      · exfalso
        exact absurd h.1 (by unfold rg; decide)
      · exact ⟨hs0.tr h1, exq_no h2 (by decide) (no24 h24)⟩
    obtain ⟨hs787, rfl⟩ := e787
    refine wm_sipush (v := (-1001)) 793 rfl dL_law_790 (by decide) ?_
    refine wm_icmp_ne 865 796 rfl (by decide) dL_law_793 (fun c793 => ?_) (fun c793 => ?_)
    · exact absurd rfl c793
    · refine wm_aload_n 797 rfl dL_law_796 rfl rfl ?_
      refine wm_iconst (v := 0) 798 rfl dL_law_797 (by decide) ?_
      refine wm_iconst (v := 3) 799 rfl dL_law_798 (by decide) ?_
      refine wm_sipush (v := 1000) 802 rfl dL_law_799 (by decide) ?_
      refine wm_iconst (v := 1) 803 rfl dL_law_802 (by decide) ?_
      refine wl_callWi 806 rfl dL_law_803 (h_sets1 l 0 3 1000 (k_X4_setFact l hst ((stb.rf _).cIy (hC.st hs787).cI) 0 3 1000) (show ∀ E ∈ [eIO, eIO, eIA], E ∈ [eIO, eIA] by decide)) cw_L_sets aw_17_18 aw_17_17 ⟨Nat.le_of_ble_eq_true rfl, Nat.le_of_ble_eq_true rfl⟩ (Nat.le_of_ble_eq_true rfl) (show _ ≤ 676585 ∧ _ ≤ 7071868 from ⟨by omega, by omega⟩) (fun r803 σ803 hp => ?_)
      have e803 : stb σ σ803 ∧ r803 = (-1001) := by
        rcases hp with h | ⟨h1, h2⟩
        · exfalso
          exact absurd h.1 (by unfold rg; decide)
        · exact ⟨hs787.tr h1, (exq_ei h2 (by decide)).elim (fun q => q.2) (fun q => exq_no q.2 (by decide) nR33)⟩
      obtain ⟨hs803, rfl⟩ := e803
      refine wm_sipush (v := (-1001)) 809 rfl dL_law_806 (by decide) ?_
      refine wm_icmp_ne 865 812 rfl (by decide) dL_law_809 (fun c809 => ?_) (fun c809 => ?_)
      · exact absurd rfl c809
      · refine wm_aload_n 813 rfl dL_law_812 rfl rfl ?_
        refine wm_iconst (v := 0) 814 rfl dL_law_813 (by decide) ?_
        refine wm_iconst (v := (-1)) 815 rfl dL_law_814 (by decide) ?_
        refine wm_bipush (v := 100) 817 rfl dL_law_815 (by decide) ?_
        refine wm_iconst (v := 2) 818 rfl dL_law_817 (by decide) ?_
        refine wl_callWi 821 rfl dL_law_818 (h_sets2 l 0 (-1) 100 (k_X4_thingsIf l hst ((stb.rf _).cIy (hC.st hs803).cI) 0 (-1) 100) (show ∀ E ∈ [eIO, eIO, eIA], E ∈ [eIO, eIA] by decide)) cw_L_sets aw_17_18 aw_17_17 ⟨Nat.le_of_ble_eq_true rfl, Nat.le_of_ble_eq_true rfl⟩ (Nat.le_of_ble_eq_true rfl) (show _ ≤ 676585 ∧ _ ≤ 7071868 from ⟨by omega, by omega⟩) (fun r818 σ818 hp => ?_)
        have e818 : stb σ σ818 ∧ r818 = (-1001) := by
          rcases hp with h | ⟨h1, h2⟩
          · exfalso
            exact absurd h.1 (by unfold rg; decide)
          · exact ⟨hs803.tr h1, (exq_ei h2 (by decide)).elim (fun q => q.2) (fun q => exq_no q.2 (by decide) nR3_1)⟩
        obtain ⟨hs818, rfl⟩ := e818
        refine wm_sipush (v := (-1001)) 824 rfl dL_law_821 (by decide) ?_
        refine wm_icmp_ne 865 827 rfl (by decide) dL_law_824 (fun c824 => ?_) (fun c824 => ?_)
        · exact absurd rfl c824
        · refine wm_aload_n 828 rfl dL_law_827 rfl rfl ?_
          refine wm_bipush (v := 24) 830 rfl dL_law_828 (by decide) ?_
          refine wm_iconst (v := 0) 831 rfl dL_law_830 (by decide) ?_
          refine wl_callWi 834 rfl dL_law_831 (h_one0 l 24 (k_X4_see l hst ((stb.rf _).cIy (hC.st hs818).cI) 24) (show ∀ E ∈ [eIO], E ∈ [eIO] by decide)) cw_L_one aw_10_7 aw_10_6 ⟨Nat.le_of_ble_eq_true rfl, Nat.le_of_ble_eq_true rfl⟩ (Nat.le_of_ble_eq_true rfl) (show _ ≤ 676585 ∧ _ ≤ 7071868 from ⟨by omega, by omega⟩) (fun r831 σ831 hp => ?_)
          have e831 : stb σ σ831 ∧ r831 = (-1001) := by
            rcases hp with h | ⟨h1, h2⟩
            · exfalso
              obtain ⟨a, e, h9, -⟩ := h; exact no24 h24 ⟨a, e, h9⟩
            · exact ⟨hs818.tr h1, exq_no h2 (by decide) (no24 h24)⟩
          obtain ⟨hs831, rfl⟩ := e831
          refine wm_sipush (v := (-1001)) 837 rfl dL_law_834 (by decide) ?_
          refine wm_icmp_ne 865 840 rfl (by decide) dL_law_837 (fun c837 => ?_) (fun c837 => ?_)
          · exact absurd rfl c837
          · refine wm_aload_n 841 rfl dL_law_840 rfl rfl ?_
            refine wm_iconst (v := (-1)) 842 rfl dL_law_841 (by decide) ?_
            refine wm_iconst (v := 1) 843 rfl dL_law_842 (by decide) ?_
            refine wl_callWi 846 rfl dL_law_843 (h_one1 l (-1) (k_X4_drop l hst ((stb.rf _).cIy (hC.st hs831).cI) (-1)) (show ∀ E ∈ [eIO], E ∈ [eIO] by decide)) cw_L_one aw_10_7 aw_10_6 ⟨Nat.le_of_ble_eq_true rfl, Nat.le_of_ble_eq_true rfl⟩ (Nat.le_of_ble_eq_true rfl) (show _ ≤ 676585 ∧ _ ≤ 7071868 from ⟨by omega, by omega⟩) (fun r843 σ843 hp => ?_)
            have e843 : stb σ σ843 ∧ r843 = (-1001) := by
              rcases hp with h | ⟨h1, h2⟩
              · exfalso
                obtain ⟨a, e, h9, -⟩ := h; exact no_1 h24 ⟨a, e, h9⟩
              · exact ⟨hs831.tr h1, exq_no h2 (by decide) (no_1 h24)⟩
            obtain ⟨hs843, rfl⟩ := e843
            refine wm_sipush (v := (-1001)) 849 rfl dL_law_846 (by decide) ?_
            refine wm_icmp_ne 865 852 rfl (by decide) dL_law_849 (fun c849 => ?_) (fun c849 => ?_)
            · exact absurd rfl c849
            · refine wm_aload_n 853 rfl dL_law_852 rfl rfl ?_
              refine wm_iload_n 854 rfl dL_law_853 rfl rfl ?_
              refine wm_bipush (v := 7) 856 rfl dL_law_854 (by decide) ?_
              refine wl_callWi 859 rfl dL_law_856 (h_one7 l (nI n) (k_X4_thingsWithout l hst ((stb.rf _).cIy (hC.st hs843).cI) (nI n)) (show ∀ E ∈ [eIO], E ∈ [eIO] by decide)) cw_L_one aw_10_7 aw_10_6 ⟨Nat.le_of_ble_eq_true rfl, Nat.le_of_ble_eq_true rfl⟩ (Nat.le_of_ble_eq_true rfl) (show _ ≤ 676585 ∧ _ ≤ 7071868 from ⟨by omega, by omega⟩) (fun r856 σ856 hp => ?_)
              have e856 : stb σ σ856 ∧ r856 = (-1001) := by
                rcases hp with h | ⟨h1, h2⟩
                · exfalso
                  obtain ⟨a, e, h9, -⟩ := h; exact non h24 ⟨a, e, h9⟩
                · exact ⟨hs843.tr h1, exq_no h2 (by decide) (non h24)⟩
              obtain ⟨hs856, rfl⟩ := e856
              refine wm_sipush (v := (-1001)) 862 rfl dL_law_859 (by decide) ?_
              refine wm_icmp_eq 867 865 rfl (by decide) dL_law_862 (fun c862 => ?_) (fun c862 => ?_)
              · refine wm_aload_n 868 rfl dL_law_867 rfl rfl ?_
                refine wm_bipush (v := 24) 870 rfl dL_law_868 (by decide) ?_
                refine wm_bipush (v := 24) 872 rfl dL_law_870 (by decide) ?_
                refine wm_iconst (v := 0) 873 rfl dL_law_872 (by decide) ?_
                refine wl_callWi 876 rfl dL_law_873 (h_pair0 l 24 24 (k_X4_forbid l hst ((stb.rf _).cIy (hC.st hs856).cI) (((hC.st hs856)).2.2.1.1) (((hC.st hs856)).2.2.1.2) 24 24) (show ∀ E ∈ [eIO, eIO, eIA, eIS, eIS], E ∈ [eIO, eIA, eIS, eNS] by decide)) cw_L_pair aw_18_9 aw_18_8 ⟨Nat.le_of_ble_eq_true rfl, Nat.le_of_ble_eq_true rfl⟩ (Nat.le_of_ble_eq_true rfl) (show _ ≤ 676585 ∧ _ ≤ 7071868 from ⟨by omega, by omega⟩) (fun r873 σ873 hp => ?_)
                have e873 : stb σ σ873 ∧ r873 = (-1001) := by
                  rcases hp with h | ⟨h1, h2⟩
                  · exfalso
                    obtain ⟨a, b, e, -, h9, -⟩ := h; exact no24 h24 ⟨a, e, h9⟩
                  · exact ⟨hs856.tr h1, exq_no h2 (by decide) (no24 h24)⟩
                obtain ⟨hs873, rfl⟩ := e873
                refine wm_sipush (v := (-1001)) 879 rfl dL_law_876 (by decide) ?_
                refine wm_icmp_ne 1076 882 rfl (by decide) dL_law_879 (fun c879 => ?_) (fun c879 => ?_)
                · exact absurd rfl c879
                · refine wm_aload_n 883 rfl dL_law_882 rfl rfl ?_
                  refine wm_iconst (v := 0) 884 rfl dL_law_883 (by decide) ?_
                  refine wm_bipush (v := 24) 886 rfl dL_law_884 (by decide) ?_
                  refine wm_iconst (v := 1) 887 rfl dL_law_886 (by decide) ?_
                  refine wl_callWi 890 rfl dL_law_887 (h_pair1 l 0 24 (k_X4_allow l hst ((stb.rf _).cIy (hC.st hs873).cI) 0 24) (show ∀ E ∈ [eIO, eIO, eNS], E ∈ [eIO, eIA, eIS, eNS] by decide)) cw_L_pair aw_18_9 aw_18_8 ⟨Nat.le_of_ble_eq_true rfl, Nat.le_of_ble_eq_true rfl⟩ (Nat.le_of_ble_eq_true rfl) (show _ ≤ 676585 ∧ _ ≤ 7071868 from ⟨by omega, by omega⟩) (fun r887 σ887 hp => ?_)
                  have e887 : stb σ σ887 ∧ r887 = (-1001) := by
                    rcases hp with h | ⟨h1, h2⟩
                    · exfalso
                      obtain ⟨a, b, -, e, -, h9, -⟩ := h; exact no24 h24 ⟨b, e, h9⟩
                    · exact ⟨hs873.tr h1, (exq_ei h2 (by decide)).elim (fun q => q.2) (fun q => exq_no q.2 (by decide) (no24 h24))⟩
                  obtain ⟨hs887, rfl⟩ := e887
                  refine wm_sipush (v := (-1001)) 893 rfl dL_law_890 (by decide) ?_
                  refine wm_icmp_ne 1076 896 rfl (by decide) dL_law_893 (fun c893 => ?_) (fun c893 => ?_)
                  · exact absurd rfl c893
                  · refine wm_aload_n 897 rfl dL_law_896 rfl rfl ?_
                    refine wm_iconst (v := (-1)) 898 rfl dL_law_897 (by decide) ?_
                    refine wm_iconst (v := 0) 899 rfl dL_law_898 (by decide) ?_
                    refine wm_iconst (v := 2) 900 rfl dL_law_899 (by decide) ?_
                    refine wl_callWi 903 rfl dL_law_900 (h_pair2 l (-1) 0 (k_X4_areTogether l hst ((stb.rf _).cIy (hC.st hs887).cI) (-1) 0) (show ∀ E ∈ [eIO, eIO], E ∈ [eIO, eIA, eIS, eNS] by decide) (fun v σ1 h => by obtain ⟨x, y, -, -, -, -, -, rfl⟩ := h; exact zp_01)) cw_L_pair aw_18_9 aw_18_8 ⟨Nat.le_of_ble_eq_true rfl, Nat.le_of_ble_eq_true rfl⟩ (Nat.le_of_ble_eq_true rfl) (show _ ≤ 676585 ∧ _ ≤ 7071868 from ⟨by omega, by omega⟩) (fun r900 σ900 hp => ?_)
                    have e900 : stb σ σ900 ∧ r900 = (-1001) := by
                      rcases hp with h | ⟨h1, h2⟩
                      · exfalso
                        obtain ⟨a, b, e, -, h9, -⟩ := h; exact no_1 h24 ⟨a, e, h9⟩
                      · exact ⟨hs887.tr h1, exq_no h2 (by decide) (no_1 h24)⟩
                    obtain ⟨hs900, rfl⟩ := e900
                    refine wm_sipush (v := (-1001)) 906 rfl dL_law_903 (by decide) ?_
                    refine wm_icmp_ne 1076 909 rfl (by decide) dL_law_906 (fun c906 => ?_) (fun c906 => ?_)
                    · exact absurd rfl c906
                    · refine wm_aload_n 910 rfl dL_law_909 rfl rfl ?_
                      refine wm_bipush (v := 24) 912 rfl dL_law_910 (by decide) ?_
                      refine wm_bipush (v := 24) 914 rfl dL_law_912 (by decide) ?_
                      refine wm_iconst (v := 3) 915 rfl dL_law_914 (by decide) ?_
                      refine wl_callWi 918 rfl dL_law_915 (h_pair3 l 24 24 (k_X4_step l hst ((stb.rf _).cIy (hC.st hs900).cI) 24 24) (show ∀ E ∈ [eIO, eIO, eIA, eNS], E ∈ [eIO, eIA, eIS, eNS] by decide)) cw_L_pair aw_18_9 aw_18_8 ⟨Nat.le_of_ble_eq_true rfl, Nat.le_of_ble_eq_true rfl⟩ (Nat.le_of_ble_eq_true rfl) (show _ ≤ 676585 ∧ _ ≤ 7071868 from ⟨by omega, by omega⟩) (fun r915 σ915 hp => ?_)
                      have e915 : stb σ σ915 ∧ r915 = (-1001) := by
                        rcases hp with h | ⟨h1, h2⟩
                        · exfalso
                          obtain ⟨k, hne, -⟩ := h; exact hne rfl
                        · exact ⟨hs900.tr h1, exq_no h2 (by decide) (no24 h24)⟩
                      obtain ⟨hs915, rfl⟩ := e915
                      refine wm_sipush (v := (-1001)) 921 rfl dL_law_918 (by decide) ?_
                      refine wm_icmp_ne 1076 924 rfl (by decide) dL_law_921 (fun c921 => ?_) (fun c921 => ?_)
                      · exact absurd rfl c921
                      · refine wm_aload_n 925 rfl dL_law_924 rfl rfl ?_
                        refine wm_bipush (v := 24) 927 rfl dL_law_925 (by decide) ?_
                        refine wm_iconst (v := 0) 928 rfl dL_law_927 (by decide) ?_
                        refine wm_iconst (v := 4) 929 rfl dL_law_928 (by decide) ?_
                        refine wl_callWi 932 rfl dL_law_929 (h_pair4 l 24 0 (k_X4_thingsIfAllowed l hst ((stb.rf _).cIy (hC.st hs915).cI) (((hC.st hs915)).sy) 24 0) (show ∀ E ∈ [eIO, eIO, eNS], E ∈ [eIO, eIA, eIS, eNS] by decide)) cw_L_pair aw_18_9 aw_18_8 ⟨Nat.le_of_ble_eq_true rfl, Nat.le_of_ble_eq_true rfl⟩ (Nat.le_of_ble_eq_true rfl) (show _ ≤ 676585 ∧ _ ≤ 7071868 from ⟨by omega, by omega⟩) (fun r929 σ929 hp => ?_)
                        have e929 : stb σ σ929 ∧ r929 = (-1001) := by
                          rcases hp with h | ⟨h1, h2⟩
                          · exfalso
                            obtain ⟨a, b, e, -, h9, -⟩ := h; exact no24 h24 ⟨a, e, h9⟩
                          · exact ⟨hs915.tr h1, exq_no h2 (by decide) (no24 h24)⟩
                        obtain ⟨hs929, rfl⟩ := e929
                        refine wm_sipush (v := (-1001)) 935 rfl dL_law_932 (by decide) ?_
                        refine wm_icmp_ne 1076 938 rfl (by decide) dL_law_935 (fun c935 => ?_) (fun c935 => ?_)
                        · exact absurd rfl c935
                        · refine wm_aload_n 939 rfl dL_law_938 rfl rfl ?_
                          refine wm_bipush (v := 24) 941 rfl dL_law_939 (by decide) ?_
                          refine wm_iconst (v := (-1)) 942 rfl dL_law_941 (by decide) ?_
                          refine wm_iconst (v := 1) 943 rfl dL_law_942 (by decide) ?_
                          refine wl_callWi 946 rfl dL_law_943 (h_key1 l 24 (-1) (k_X4_member l hst ((stb.rf _).cIy (hC.st hs929).cI) 24 (-1)) (show ∀ E ∈ [eIO, eNS], E ∈ [eIO, eNS] by decide)) cw_L_key aw_13_2 aw_13_1 ⟨Nat.le_of_ble_eq_true rfl, Nat.le_of_ble_eq_true rfl⟩ (Nat.le_of_ble_eq_true rfl) (show _ ≤ 676585 ∧ _ ≤ 7071868 from ⟨by omega, by omega⟩) (fun r943 σ943 hp => ?_)
                          have e943 : stb σ σ943 ∧ r943 = (-1001) := by
                            rcases hp with h | ⟨h1, h2⟩
                            · exfalso
                              obtain ⟨x, ⟨a, e, h9, -⟩, -⟩ := h; exact no24 h24 ⟨a, e, h9⟩
                            · exact ⟨hs929.tr h1, exq_no h2 (by decide) (no24 h24)⟩
                          obtain ⟨hs943, rfl⟩ := e943
                          refine wm_sipush (v := (-1001)) 949 rfl dL_law_946 (by decide) ?_
                          refine wm_icmp_ne 1076 952 rfl (by decide) dL_law_949 (fun c949 => ?_) (fun c949 => ?_)
                          · exact absurd rfl c949
                          · refine wm_aload_n 953 rfl dL_law_952 rfl rfl ?_
                            refine wm_iconst (v := 0) 954 rfl dL_law_953 (by decide) ?_
                            refine wm_iconst (v := 3) 955 rfl dL_law_954 (by decide) ?_
                            refine wm_iconst (v := 0) 956 rfl dL_law_955 (by decide) ?_
                            refine wl_callWi 959 rfl dL_law_956 (h_key0 l 0 3 (k_X4_key l hst ((stb.rf _).cIy (hC.st hs943).cI) 0 3) (show ∀ E ∈ [eIO, eIO], E ∈ [eIO, eNS] by decide)) cw_L_key aw_13_2 aw_13_1 ⟨Nat.le_of_ble_eq_true rfl, Nat.le_of_ble_eq_true rfl⟩ (Nat.le_of_ble_eq_true rfl) (show _ ≤ 676585 ∧ _ ≤ 7071868 from ⟨by omega, by omega⟩) (fun r956 σ956 hp => ?_)
                            have e956 : stb σ σ956 ∧ r956 = (-1001) := by
                              rcases hp with h | ⟨h1, h2⟩
                              · exfalso
                                obtain ⟨a, i, -, -, e, hi, -⟩ := h; exact nR33 ⟨i, e, hi⟩
                              · exact ⟨hs943.tr h1, (exq_ei h2 (by decide)).elim (fun q => q.2) (fun q => exq_no q.2 (by decide) nR33)⟩
                            obtain ⟨hs956, rfl⟩ := e956
                            refine wm_sipush (v := (-1001)) 962 rfl dL_law_959 (by decide) ?_
                            refine wm_icmp_ne 1076 965 rfl (by decide) dL_law_962 (fun c962 => ?_) (fun c962 => ?_)
                            · exact absurd rfl c962
                            · refine wm_aload_n 966 rfl dL_law_965 rfl rfl ?_
                              refine wm_iconst (v := 3) 967 rfl dL_law_966 (by decide) ?_
                              refine wl_callWi 970 rfl dL_law_967 (h_shared l 3 (k_X4_shared l hst ((stb.rf _).cIy (hC.st hs956).cI) 3) (show ∀ E ∈ [eIO], E ∈ [eIO] by decide)) cw_L_shared aw_21_19 aw_21_18 ⟨Nat.le_of_ble_eq_true rfl, Nat.le_of_ble_eq_true rfl⟩ (Nat.le_of_ble_eq_true rfl) (show _ ≤ 676585 ∧ _ ≤ 7071868 from ⟨by omega, by omega⟩) (fun r967 σ967 hp => ?_)
                              have e967 : stb σ σ967 ∧ r967 = (-1001) := by
                                rcases hp with h | ⟨h1, h2⟩
                                · exfalso
                                  obtain ⟨i, e, hi, -⟩ := h; exact nR33 ⟨i, e, hi⟩
                                · exact ⟨hs956.tr h1, exq_no h2 (by decide) nR33⟩
                              obtain ⟨hs967, rfl⟩ := e967
                              refine wm_sipush (v := (-1001)) 973 rfl dL_law_970 (by decide) ?_
                              refine wm_icmp_ne 1076 976 rfl (by decide) dL_law_973 (fun c973 => ?_) (fun c973 => ?_)
                              · exact absurd rfl c973
                              · refine wm_aload_n 977 rfl dL_law_976 rfl rfl ?_
                                refine wm_iconst (v := (-1)) 978 rfl dL_law_977 (by decide) ?_
                                refine wl_callWi 981 rfl dL_law_978 (h_shared l (-1) (k_X4_shared l hst ((stb.rf _).cIy (hC.st hs967).cI) (-1)) (show ∀ E ∈ [eIO], E ∈ [eIO] by decide)) cw_L_shared aw_21_19 aw_21_18 ⟨Nat.le_of_ble_eq_true rfl, Nat.le_of_ble_eq_true rfl⟩ (Nat.le_of_ble_eq_true rfl) (show _ ≤ 676585 ∧ _ ≤ 7071868 from ⟨by omega, by omega⟩) (fun r978 σ978 hp => ?_)
                                have e978 : stb σ σ978 ∧ r978 = (-1001) := by
                                  rcases hp with h | ⟨h1, h2⟩
                                  · exfalso
                                    obtain ⟨i, e, hi, -⟩ := h; exact nR3_1 ⟨i, e, hi⟩
                                  · exact ⟨hs967.tr h1, exq_no h2 (by decide) nR3_1⟩
                                obtain ⟨hs978, rfl⟩ := e978
                                refine wm_sipush (v := (-1001)) 984 rfl dL_law_981 (by decide) ?_
                                refine wm_icmp_ne 1076 987 rfl (by decide) dL_law_984 (fun c984 => ?_) (fun c984 => ?_)
                                · exact absurd rfl c984
                                · refine wm_aload_n 988 rfl dL_law_987 rfl rfl ?_
                                  refine wm_bipush (v := 24) 990 rfl dL_law_988 (by decide) ?_
                                  refine wm_iconst (v := 0) 991 rfl dL_law_990 (by decide) ?_
                                  refine wm_iconst (v := 0) 992 rfl dL_law_991 (by decide) ?_
                                  refine wl_callWi 995 rfl dL_law_992 (h_fact0 l 24 0 (k_X4_fact l hst ((stb.rf _).cIy (hC.st hs978).cI) ((stb.rf _).cSy (hC.st hs978).cS) 24 0) (show ∀ E ∈ [eIO, eIO, eNS], E ∈ [eIO, eNS] by decide)) cw_L_fact aw_14_0 aw_13_23 ⟨Nat.le_of_ble_eq_true rfl, Nat.le_of_ble_eq_true rfl⟩ (Nat.le_of_ble_eq_true rfl) (show _ ≤ 676585 ∧ _ ≤ 7071868 from ⟨by omega, by omega⟩) (fun r992 σ992 hp => ?_)
                                  have e992 : stb σ σ992 ∧ r992 = (-1001) := by
                                    rcases hp with h | ⟨h1, h2⟩
                                    · exfalso
                                      obtain ⟨i, x, ⟨a, e, -, h9, -⟩, -⟩ := h; exact no24 h24 ⟨a, e, h9⟩
                                    · exact ⟨hs978.tr h1, exq_no h2 (by decide) (no24 h24)⟩
                                  obtain ⟨hs992, rfl⟩ := e992
                                  refine wm_sipush (v := (-1001)) 998 rfl dL_law_995 (by decide) ?_
                                  refine wm_icmp_ne 1076 1001 rfl (by decide) dL_law_998 (fun c998 => ?_) (fun c998 => ?_)
                                  · exact absurd rfl c998
                                  · refine wm_aload_n 1002 rfl dL_law_1001 rfl rfl ?_
                                    refine wm_iconst (v := 0) 1003 rfl dL_law_1002 (by decide) ?_
                                    refine wm_iconst (v := 3) 1004 rfl dL_law_1003 (by decide) ?_
                                    refine wm_iconst (v := 1) 1005 rfl dL_law_1004 (by decide) ?_
                                    refine wl_callWi 1008 rfl dL_law_1005 (h_fact1 l 0 3 (k_X4_factByPairs l hst ((stb.rf _).cIy (hC.st hs992).cI) ((stb.rf _).cSy (hC.st hs992).cS) 0 3) (show ∀ E ∈ [eIO, eIO, eNS], E ∈ [eIO, eNS] by decide)) cw_L_fact aw_14_0 aw_13_23 ⟨Nat.le_of_ble_eq_true rfl, Nat.le_of_ble_eq_true rfl⟩ (Nat.le_of_ble_eq_true rfl) (show _ ≤ 676585 ∧ _ ≤ 7071868 from ⟨by omega, by omega⟩) (fun r1005 σ1005 hp => ?_)
                                    have e1005 : stb σ σ1005 ∧ r1005 = (-1001) := by
                                      rcases hp with h | ⟨h1, h2⟩
                                      · exfalso
                                        obtain ⟨i, x, ⟨a, -, e, -, hi, -⟩, -⟩ := h; exact nR33 ⟨i, e, hi⟩
                                      · exact ⟨hs992.tr h1, (exq_ei h2 (by decide)).elim (fun q => q.2) (fun q => exq_no q.2 (by decide) nR33)⟩
                                    obtain ⟨hs1005, rfl⟩ := e1005
                                    refine wm_sipush (v := (-1001)) 1011 rfl dL_law_1008 (by decide) ?_
                                    refine wm_icmp_ne 1076 1014 rfl (by decide) dL_law_1011 (fun c1011 => ?_) (fun c1011 => ?_)
                                    · exact absurd rfl c1011
                                    · refine wm_aload_n 1015 rfl dL_law_1014 rfl rfl ?_
                                      refine wm_iconst (v := 0) 1016 rfl dL_law_1015 (by decide) ?_
                                      refine wm_iconst (v := (-1)) 1017 rfl dL_law_1016 (by decide) ?_
                                      refine wl_callWf 1020 rfl dL_law_1017 (h_agreement l 0 (-1) (k_X4_agreement l hst ((stb.rf _).cIy (hC.st hs1005).cI) ((stb.rf _).cSy (hC.st hs1005).cS) 0 (-1)) (show ∀ E ∈ [eIO, eIO, eNS], E ∈ [eIO, eNS] by decide)) cw_L_agreement aw_21_2 aw_21_1 ⟨Nat.le_of_ble_eq_true rfl, Nat.le_of_ble_eq_true rfl⟩ (Nat.le_of_ble_eq_true rfl) (show _ ≤ 676585 ∧ _ ≤ 7071868 from ⟨by omega, by omega⟩) (fun r1017 σ1017 hp => ?_)
                                      have e1017 : stb σ σ1017 ∧ r1017 = 3212836864 := by
                                        rcases hp with h | ⟨h1, h2⟩
                                        · exfalso
                                          obtain ⟨a, i, x, ⟨a2, -, e, -, hi, -⟩, -⟩ := h; exact nR3_1 ⟨i, e, hi⟩
                                        · exact ⟨hs1005.tr h1, (exq_ei h2 (by decide)).elim (fun q => q.2) (fun q => exq_no q.2 (by decide) nR3_1)⟩
                                      obtain ⟨hs1017, rfl⟩ := e1017
                                      refine wm_ldcf 1022 rfl dL_law_1020 aw_1_8 ?_
                                      refine wm_fcmp 1023 rfl dL_law_1022 ?_
                                      refine wm_if_ne 1076 1026 rfl (by decide) dL_law_1023 (fun c1023 => ?_) (fun c1023 => ?_)
                                      · exact absurd (by decide +kernel) c1023
                                      · refine wm_aload_n 1027 rfl dL_law_1026 rfl rfl ?_
                                        refine wm_iconst (v := 0) 1028 rfl dL_law_1027 (by decide) ?_
                                        refine wm_iconst (v := 1) 1029 rfl dL_law_1028 (by decide) ?_
                                        refine wl_callWi 1032 rfl dL_law_1029 (h_days1 l 0 (k_X4_setLimit l hst 0) (show ∀ E ∈ [eIA], E ∈ [eIA] by decide)) cw_L_days aw_20_12 aw_20_11 ⟨Nat.le_of_ble_eq_true rfl, Nat.le_of_ble_eq_true rfl⟩ (Nat.le_of_ble_eq_true rfl) (show _ ≤ 676585 ∧ _ ≤ 7071868 from ⟨by omega, by omega⟩) (fun r1029 σ1029 hp => ?_)
                                        have e1029 : stb σ σ1029 ∧ r1029 = (-1001) := by
                                          rcases hp with h | ⟨h1, h2⟩
                                          · exfalso
                                            exact absurd h.1 (by unfold rg; decide)
                                          · exact ⟨hs1017.tr h1, exq_no h2 (by decide) (by unfold rg; decide)⟩
                                        obtain ⟨hs1029, rfl⟩ := e1029
                                        refine wm_sipush (v := (-1001)) 1035 rfl dL_law_1032 (by decide) ?_
                                        refine wm_icmp_ne 1076 1038 rfl (by decide) dL_law_1035 (fun c1035 => ?_) (fun c1035 => ?_)
                                        · exact absurd rfl c1035
                                        · refine wm_aload_n 1039 rfl dL_law_1038 rfl rfl ?_
                                          refine wm_bipush (v := 100) 1041 rfl dL_law_1039 (by decide) ?_
                                          refine wm_iconst (v := 1) 1042 rfl dL_law_1041 (by decide) ?_
                                          refine wl_callWi 1045 rfl dL_law_1042 (h_days1 l 100 (k_X4_setLimit l hst 100) (show ∀ E ∈ [eIA], E ∈ [eIA] by decide)) cw_L_days aw_20_12 aw_20_11 ⟨Nat.le_of_ble_eq_true rfl, Nat.le_of_ble_eq_true rfl⟩ (Nat.le_of_ble_eq_true rfl) (show _ ≤ 676585 ∧ _ ≤ 7071868 from ⟨by omega, by omega⟩) (fun r1042 σ1042 hp => ?_)
                                          have e1042 : stb σ σ1042 ∧ r1042 = (-1001) := by
                                            rcases hp with h | ⟨h1, h2⟩
                                            · exfalso
                                              exact absurd h.1 (by unfold rg; decide)
                                            · exact ⟨hs1029.tr h1, exq_no h2 (by decide) (by unfold rg; decide)⟩
                                          obtain ⟨hs1042, rfl⟩ := e1042
                                          refine wm_sipush (v := (-1001)) 1048 rfl dL_law_1045 (by decide) ?_
                                          refine wm_icmp_ne 1076 1051 rfl (by decide) dL_law_1048 (fun c1048 => ?_) (fun c1048 => ?_)
                                          · exact absurd rfl c1048
                                          · refine wm_aload_n 1052 rfl dL_law_1051 rfl rfl ?_
                                            refine wm_bipush (v := 100) 1054 rfl dL_law_1052 (by decide) ?_
                                            refine wm_iconst (v := 0) 1055 rfl dL_law_1054 (by decide) ?_
                                            refine wl_callWi 1058 rfl dL_law_1055 (h_days0 l 100 (k_X4_pass l hst 100) (show ∀ E ∈ [eIA, eIA], E ∈ [eIA] by decide)) cw_L_days aw_20_12 aw_20_11 ⟨Nat.le_of_ble_eq_true rfl, Nat.le_of_ble_eq_true rfl⟩ (Nat.le_of_ble_eq_true rfl) (show _ ≤ 676585 ∧ _ ≤ 7071868 from ⟨by omega, by omega⟩) (fun r1055 σ1055 hp => ?_)
                                            have e1055 : stb σ σ1055 ∧ r1055 = (-1001) := by
                                              rcases hp with h | ⟨h1, h2⟩
                                              · exfalso
                                                exact absurd h.1 (by unfold rg; decide)
                                              · exact ⟨hs1042.tr h1, exq_no h2 (by decide) (by unfold rg; decide)⟩
                                            obtain ⟨hs1055, rfl⟩ := e1055
                                            refine wm_sipush (v := (-1001)) 1061 rfl dL_law_1058 (by decide) ?_
                                            refine wm_icmp_ne 1076 1064 rfl (by decide) dL_law_1061 (fun c1061 => ?_) (fun c1061 => ?_)
                                            · exact absurd rfl c1061
                                            · refine wm_aload_n 1065 rfl dL_law_1064 rfl rfl ?_
                                              refine wm_iconst (v := 0) 1066 rfl dL_law_1065 (by decide) ?_
                                              refine wm_iconst (v := 0) 1067 rfl dL_law_1066 (by decide) ?_
                                              refine wl_callWi 1070 rfl dL_law_1067 (h_days0 l 0 (k_X4_pass l hst 0) (show ∀ E ∈ [eIA, eIA], E ∈ [eIA] by decide)) cw_L_days aw_20_12 aw_20_11 ⟨Nat.le_of_ble_eq_true rfl, Nat.le_of_ble_eq_true rfl⟩ (Nat.le_of_ble_eq_true rfl) (show _ ≤ 676585 ∧ _ ≤ 7071868 from ⟨by omega, by omega⟩) (fun r1067 σ1067 hp => ?_)
                                              have e1067 : stb σ σ1067 ∧ r1067 = (-1001) := by
                                                rcases hp with h | ⟨h1, h2⟩
                                                · exfalso
                                                  exact absurd h.1 (by unfold rg; decide)
                                                · exact ⟨hs1055.tr h1, exq_no h2 (by decide) (by unfold rg; decide)⟩
                                              obtain ⟨hs1067, rfl⟩ := e1067
                                              refine wm_sipush (v := (-1001)) 1073 rfl dL_law_1070 (by decide) ?_
                                              refine wm_icmp_eq 1078 1076 rfl (by decide) dL_law_1073 (fun c1073 => ?_) (fun c1073 => ?_)
                                              · refine wm_aload_n 1079 rfl dL_law_1078 rfl rfl ?_
                                                refine wl_callPl 1082 rfl dL_law_1079 (k_sum l hst hC hs1067) cw_L_sum aw_3_11 aw_3_10 ⟨Nat.le_of_ble_eq_true rfl, Nat.le_of_ble_eq_true rfl⟩ (Nat.le_of_ble_eq_true rfl) (show _ ≤ 676585 ∧ _ ≤ 7071868 from ⟨by omega, by omega⟩) (fun B2 σz hp => ?_)
                                                obtain ⟨hsz, eB⟩ := hp
                                                rw [hB] at eB
                                                subst eB
                                                refine wm_lload 1084 rfl dL_law_1082 rfl ?_
                                                refine wm_lcmp 1085 rfl dL_law_1084 ?_
                                                refine wm_if_ne 1092 1088 rfl (by decide) dL_law_1085 (fun c1085 => ?_) (fun c1085 => ?_)
                                                · exact absurd (lg_self _) c1085
                                                · refine wm_iconst (v := 1) 1089 rfl dL_law_1088 (by decide) ?_
                                                  refine wm_goto 1093 (by decide) dL_law_1089 ?_
                                                  exact wl_end rfl rfl dL_law_1093 (by omega) (by omega)
                                              · exact absurd rfl c1073
              · exact absurd rfl c862
  have t761 : ∀ (τ : Sg) (k1 n1 : Nat), stb σ τ → k1 + 1300 ≤ 676585 → n1 + 7800 ≤ 7071868 → Wl l D cT ad b N sz xs 761 [(1, .ref 0), (2, .int (nI n)), (3, .int (nI m)), (5, .long B)] [] τ k1 n1 := by
    intro τ k1 n1 hs0 hk1 hn1
    refine wm_iload_n 762 rfl dL_law_761 rfl rfl ?_
    refine wm_if_le 780 765 rfl (by decide) dL_law_762 (fun c762 => ?_) (fun c762 => ?_)
    · first
        | exact t780 _ _ _ hs771 (by omega) (by omega)
        | exact t780 _ _ _ hs0 (by omega) (by omega)
    · have hm1 : 1 ≤ m := by
        by_cases q : 1 ≤ m
        · exact q
        · have q0 : m = 0 := by omega
          subst q0
          exact absurd (show (nI 0 : Int32) ≤ 0 by decide) c762
      refine wm_aload_n 766 rfl dL_law_765 rfl rfl ?_
      refine wm_iconst (v := 0) 767 rfl dL_law_766 (by decide) ?_
      refine wm_iconst (v := 0) 768 rfl dL_law_767 (by decide) ?_
      refine wm_iconst (v := 0) 769 rfl dL_law_768 (by decide) ?_
      refine wm_bipush (v := 100) 771 rfl dL_law_769 (by decide) ?_
      refine wl_callWi 774 rfl dL_law_771 (h_record l 0 0 0 100 (k_X4_addRecord l hst ((stb.rf _).cIy (hC.st hs0).cI) (((hC.st hs0)).2.1.1) (((hC.st hs0)).2.1.2) 0 0 0 100) (show ∀ E ∈ [eIO, eIA, eIA, eIA, eIS], E ∈ [eIO, eIA, eIS] by decide)) cw_L_record aw_17_6 aw_17_5 ⟨Nat.le_of_ble_eq_true rfl, Nat.le_of_ble_eq_true rfl⟩ (Nat.le_of_ble_eq_true rfl) (show _ ≤ 676585 ∧ _ ≤ 7071868 from ⟨by omega, by omega⟩) (fun r771 σ771 hp => ?_)
      have e771 : stb σ σ771 ∧ r771 = (-1002) := by
        rcases hp with h | ⟨h1, h2⟩
        · exfalso
          exact absurd h.2.1.2.2 (by unfold rg; decide)
        · exact ⟨hs0.tr h1, exq_no (exq_ys (exq_ys (exq_ys h2 ⟨0, rfl, hm1⟩) ⟨by decide, by decide⟩) ⟨by decide, by decide⟩) (by decide) (by unfold rg; decide)⟩
      obtain ⟨hs771, rfl⟩ := e771
      refine wm_sipush (v := (-1002)) 777 rfl dL_law_774 (by decide) ?_
      refine wm_icmp_ne 865 780 rfl (by decide) dL_law_777 (fun c777 => ?_) (fun c777 => ?_)
      · exact absurd rfl c777
      · first
          | exact t780 _ _ _ hs771 (by omega) (by omega)
          | exact t780 _ _ _ hs0 (by omega) (by omega)
  have t742 : ∀ (τ : Sg) (k1 n1 : Nat), stb σ τ → k1 + 1400 ≤ 676585 → n1 + 8400 ≤ 7071868 → Wl l D cT ad b N sz xs 742 [(1, .ref 0), (2, .int (nI n)), (3, .int (nI m)), (5, .long B)] [] τ k1 n1 := by
    intro τ k1 n1 hs0 hk1 hn1
    refine wm_iload_n 743 rfl dL_law_742 rfl rfl ?_
    refine wm_if_le 761 746 rfl (by decide) dL_law_743 (fun c743 => ?_) (fun c743 => ?_)
    · first
        | exact t761 _ _ _ hs752 (by omega) (by omega)
        | exact t761 _ _ _ hs0 (by omega) (by omega)
    · have hm1 : 1 ≤ m := by
        by_cases q : 1 ≤ m
        · exact q
        · have q0 : m = 0 := by omega
          subst q0
          exact absurd (show (nI 0 : Int32) ≤ 0 by decide) c743
      refine wm_aload_n 747 rfl dL_law_746 rfl rfl ?_
      refine wm_iconst (v := 0) 748 rfl dL_law_747 (by decide) ?_
      refine wm_bipush (v := (-2)) 750 rfl dL_law_748 (by decide) ?_
      refine wm_iconst (v := 0) 751 rfl dL_law_750 (by decide) ?_
      refine wm_iconst (v := 0) 752 rfl dL_law_751 (by decide) ?_
      refine wl_callWi 755 rfl dL_law_752 (h_record l 0 (-2) 0 0 (k_X4_addRecord l hst ((stb.rf _).cIy (hC.st hs0).cI) (((hC.st hs0)).2.1.1) (((hC.st hs0)).2.1.2) 0 (-2) 0 0) (show ∀ E ∈ [eIO, eIA, eIA, eIA, eIS], E ∈ [eIO, eIA, eIS] by decide)) cw_L_record aw_17_6 aw_17_5 ⟨Nat.le_of_ble_eq_true rfl, Nat.le_of_ble_eq_true rfl⟩ (Nat.le_of_ble_eq_true rfl) (show _ ≤ 676585 ∧ _ ≤ 7071868 from ⟨by omega, by omega⟩) (fun r752 σ752 hp => ?_)
      have e752 : stb σ σ752 ∧ r752 = (-1002) := by
        rcases hp with h | ⟨h1, h2⟩
        · exfalso
          exact absurd h.2.1.1 (by unfold rg; decide)
        · exact ⟨hs0.tr h1, exq_no (exq_ys h2 ⟨0, rfl, hm1⟩) (by decide) (by unfold rg; decide)⟩
      obtain ⟨hs752, rfl⟩ := e752
      refine wm_sipush (v := (-1002)) 758 rfl dL_law_755 (by decide) ?_
      refine wm_icmp_ne 865 761 rfl (by decide) dL_law_758 (fun c758 => ?_) (fun c758 => ?_)
      · exact absurd rfl c758
      · first
          | exact t761 _ _ _ hs752 (by omega) (by omega)
          | exact t761 _ _ _ hs0 (by omega) (by omega)
  have t727 : ∀ (τ : Sg) (k1 n1 : Nat), stb σ τ → k1 + 1500 ≤ 676585 → n1 + 9000 ≤ 7071868 → Wl l D cT ad b N sz xs 727 [(1, .ref 0), (2, .int (nI n)), (3, .int (nI m)), (5, .long B)] [] τ k1 n1 := by
    intro τ k1 n1 hs0 hk1 hn1
    refine wm_aload_n 728 rfl dL_law_727 rfl rfl ?_
    refine wm_iload_n 729 rfl dL_law_728 rfl rfl ?_
    refine wm_bipush (v := 100) 731 rfl dL_law_729 (by decide) ?_
    refine wm_iconst (v := 0) 732 rfl dL_law_731 (by decide) ?_
    refine wm_iconst (v := 0) 733 rfl dL_law_732 (by decide) ?_
    refine wl_callWi 736 rfl dL_law_733 (h_record l (nI m) 100 0 0 (k_X4_addRecord l hst ((stb.rf _).cIy (hC.st hs0).cI) (((hC.st hs0)).2.1.1) (((hC.st hs0)).2.1.2) (nI m) 100 0 0) (show ∀ E ∈ [eIO, eIA, eIA, eIA, eIS], E ∈ [eIO, eIA, eIS] by decide)) cw_L_record aw_17_6 aw_17_5 ⟨Nat.le_of_ble_eq_true rfl, Nat.le_of_ble_eq_true rfl⟩ (Nat.le_of_ble_eq_true rfl) (show _ ≤ 676585 ∧ _ ≤ 7071868 from ⟨by omega, by omega⟩) (fun r733 σ733 hp => ?_)
    have e733 : stb σ σ733 ∧ r733 = (-1001) := by
      rcases hp with h | ⟨h1, h2⟩
      · exfalso
        exact nR_self hm4 h.1
      · exact ⟨hs0.tr h1, exq_no h2 (by decide) (nR_self hm4)⟩
    obtain ⟨hs733, rfl⟩ := e733
    refine wm_sipush (v := (-1001)) 739 rfl dL_law_736 (by decide) ?_
    refine wm_icmp_ne 865 742 rfl (by decide) dL_law_739 (fun c739 => ?_) (fun c739 => ?_)
    · exact absurd rfl c739
    · first
        | exact t742 _ _ _ hs733 (by omega) (by omega)
  have t673 : ∀ (τ : Sg) (k1 n1 : Nat), stb σ τ → k1 + 1600 ≤ 676585 → n1 + 9600 ≤ 7071868 → Wl l D cT ad b N sz xs 673 [(1, .ref 0), (2, .int (nI n)), (3, .int (nI m)), (5, .long B)] [] τ k1 n1 := by
    intro τ k1 n1 hs0 hk1 hn1
    refine wm_aload_n 674 rfl dL_law_673 rfl rfl ?_
    refine wm_iconst (v := (-1)) 675 rfl dL_law_674 (by decide) ?_
    refine wm_iconst (v := 0) 676 rfl dL_law_675 (by decide) ?_
    refine wl_callWi 679 rfl dL_law_676 (h_sourceA l 0 (k_X4_addSource l hst (((hC.st hs0)).2.1.1) (((hC.st hs0)).2.1.2) 0) (show ∀ E ∈ [eIA, eIS], E ∈ [eIO, eIA, eIS] by decide)) cw_L_source aw_15_23 aw_15_22 ⟨Nat.le_of_ble_eq_true rfl, Nat.le_of_ble_eq_true rfl⟩ (Nat.le_of_ble_eq_true rfl) (show _ ≤ 676585 ∧ _ ≤ 7071868 from ⟨by omega, by omega⟩) (fun r676 σ676 hp => ?_)
    have e676 : stb σ σ676 ∧ r676 = (-1002) := by
      rcases hp with h | ⟨h1, h2⟩
      · exfalso
        exact absurd h.1 (by unfold rg; decide)
      · exact ⟨hs0.tr h1, exq_no h2 (by decide) (by unfold rg; decide)⟩
    obtain ⟨hs676, rfl⟩ := e676
    refine wm_sipush (v := (-1002)) 682 rfl dL_law_679 (by decide) ?_
    refine wm_icmp_ne 865 685 rfl (by decide) dL_law_682 (fun c682 => ?_) (fun c682 => ?_)
    · exact absurd rfl c682
    · refine wm_aload_n 686 rfl dL_law_685 rfl rfl ?_
      refine wm_iconst (v := (-1)) 687 rfl dL_law_686 (by decide) ?_
      refine wm_bipush (v := 10) 689 rfl dL_law_687 (by decide) ?_
      refine wl_callWi 692 rfl dL_law_689 (h_sourceA l 10 (k_X4_addSource l hst (((hC.st hs676)).2.1.1) (((hC.st hs676)).2.1.2) 10) (show ∀ E ∈ [eIA, eIS], E ∈ [eIO, eIA, eIS] by decide)) cw_L_source aw_15_23 aw_15_22 ⟨Nat.le_of_ble_eq_true rfl, Nat.le_of_ble_eq_true rfl⟩ (Nat.le_of_ble_eq_true rfl) (show _ ≤ 676585 ∧ _ ≤ 7071868 from ⟨by omega, by omega⟩) (fun r689 σ689 hp => ?_)
      have e689 : stb σ σ689 ∧ r689 = (-1002) := by
        rcases hp with h | ⟨h1, h2⟩
        · exfalso
          exact absurd h.1 (by unfold rg; decide)
        · exact ⟨hs676.tr h1, exq_no h2 (by decide) (by unfold rg; decide)⟩
      obtain ⟨hs689, rfl⟩ := e689
      refine wm_sipush (v := (-1002)) 695 rfl dL_law_692 (by decide) ?_
      refine wm_icmp_ne 865 698 rfl (by decide) dL_law_695 (fun c695 => ?_) (fun c695 => ?_)
      · exact absurd rfl c695
      · refine wm_aload_n 699 rfl dL_law_698 rfl rfl ?_
        refine wm_iload_n 700 rfl dL_law_699 rfl rfl ?_
        refine wm_iconst (v := 0) 701 rfl dL_law_700 (by decide) ?_
        refine wl_callWi 704 rfl dL_law_701 (h_sourceT l (nI m) 0 (nI_pos' (by omega)) (k_X4_setTrust l hst (((hC.st hs689)).2.1.1) (((hC.st hs689)).2.1.2) (nI m) 0) (show ∀ E ∈ [eIO, eIA], E ∈ [eIO, eIA, eIS] by decide)) cw_L_source aw_15_23 aw_15_22 ⟨Nat.le_of_ble_eq_true rfl, Nat.le_of_ble_eq_true rfl⟩ (Nat.le_of_ble_eq_true rfl) (show _ ≤ 676585 ∧ _ ≤ 7071868 from ⟨by omega, by omega⟩) (fun r701 σ701 hp => ?_)
        have e701 : stb σ σ701 ∧ r701 = (-1001) := by
          rcases hp with h | ⟨h1, h2⟩
          · exfalso
            exact absurd h.1 (by unfold rg; decide)
          · exact ⟨hs689.tr h1, exq_no h2 (by decide) (nR_self hm4)⟩
        obtain ⟨hs701, rfl⟩ := e701
        refine wm_sipush (v := (-1001)) 707 rfl dL_law_704 (by decide) ?_
        refine wm_icmp_ne 865 710 rfl (by decide) dL_law_707 (fun c707 => ?_) (fun c707 => ?_)
        · exact absurd rfl c707
        · refine wm_iload_n 711 rfl dL_law_710 rfl rfl ?_
          refine wm_if_le 727 714 rfl (by decide) dL_law_711 (fun c711 => ?_) (fun c711 => ?_)
          · first
              | exact t727 _ _ _ hs718 (by omega) (by omega)
              | exact t727 _ _ _ hs701 (by omega) (by omega)
          · have hm1 : 1 ≤ m := by
              by_cases q : 1 ≤ m
              · exact q
              · have q0 : m = 0 := by omega
                subst q0
                exact absurd (show (nI 0 : Int32) ≤ 0 by decide) c711
            refine wm_aload_n 715 rfl dL_law_714 rfl rfl ?_
            refine wm_iconst (v := 0) 716 rfl dL_law_715 (by decide) ?_
            refine wm_bipush (v := 10) 718 rfl dL_law_716 (by decide) ?_
            refine wl_callWi 721 rfl dL_law_718 (h_sourceT l 0 10 (by decide) (k_X4_setTrust l hst (((hC.st hs701)).2.1.1) (((hC.st hs701)).2.1.2) 0 10) (show ∀ E ∈ [eIO, eIA], E ∈ [eIO, eIA, eIS] by decide)) cw_L_source aw_15_23 aw_15_22 ⟨Nat.le_of_ble_eq_true rfl, Nat.le_of_ble_eq_true rfl⟩ (Nat.le_of_ble_eq_true rfl) (show _ ≤ 676585 ∧ _ ≤ 7071868 from ⟨by omega, by omega⟩) (fun r718 σ718 hp => ?_)
            have e718 : stb σ σ718 ∧ r718 = (-1002) := by
              rcases hp with h | ⟨h1, h2⟩
              · exfalso
                exact absurd h.1 (by unfold rg; decide)
              · exact ⟨hs701.tr h1, exq_no (exq_ys h2 ⟨0, rfl, hm1⟩) (by decide) (by unfold rg; decide)⟩
            obtain ⟨hs718, rfl⟩ := e718
            refine wm_sipush (v := (-1002)) 724 rfl dL_law_721 (by decide) ?_
            refine wm_icmp_ne 865 727 rfl (by decide) dL_law_724 (fun c724 => ?_) (fun c724 => ?_)
            · exact absurd rfl c724
            · first
                | exact t727 _ _ _ hs718 (by omega) (by omega)
                | exact t727 _ _ _ hs701 (by omega) (by omega)
  refine wm_aload_n 657 rfl dL_law_656 rfl rfl ?_
  refine wm_iload 659 rfl dL_law_657 rfl ?_
  refine wl_callPi 662 rfl dL_law_659 (k_sound l hst hC (stb.rf σ) hS) cw_L_isSound aw_20_23 aw_20_22 ⟨Nat.le_of_ble_eq_true rfl, Nat.le_of_ble_eq_true rfl⟩ (Nat.le_of_ble_eq_true rfl) (show _ ≤ 676585 ∧ _ ≤ 7071868 from ⟨by omega, by omega⟩) (fun r1 σ1 hp => ?_)
  obtain ⟨hs1, rfl⟩ := hp
  refine wm_if_ne 667 665 rfl (by decide) dL_law_662 (fun c662 => ?_) (fun c662 => ?_)
  · refine wm_aload_n 668 rfl dL_law_667 rfl rfl ?_
    refine wl_callPl 671 rfl dL_law_668 (k_sum l hst hC hs1) cw_L_sum aw_3_11 aw_3_10 ⟨Nat.le_of_ble_eq_true rfl, Nat.le_of_ble_eq_true rfl⟩ (Nat.le_of_ble_eq_true rfl) (show _ ≤ 676585 ∧ _ ≤ 7071868 from ⟨by omega, by omega⟩) (fun B2 σ2 hp => ?_)
    obtain ⟨hs2, eB⟩ := hp
    rw [hB] at eB
    subst eB
    refine wm_lstore (ls' := [(5, _), (1, _), (2, _), (3, _), (4, _)]) 673 rfl dL_law_671 (by decide) rfl ?_
    refine wm_loc (ls2 := [(1, _), (2, _), (3, _), (5, _)]) [1, 2, 3, 0] rfl ?_
    exact t673 _ _ _ hs2 (by omega) (by omega)
  · exact absurd c662 (by decide)
