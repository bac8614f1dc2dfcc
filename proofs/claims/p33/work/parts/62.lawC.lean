set_option maxHeartbeats 8000000 in
set_option maxRecDepth 100000 in
theorem c_L_law {p : Program} {l : Launch} {e : Env} {s : State} {m : MethodId} {below : List Frame} {meth : Method} {c : Code} {b : Nat} {D : va_G} {ca : Nat → ClassId} {Ls : Nat} {xs : Nat → Int32} (X : tt_X tt_cl (lw_K p l e s m below meth c b D ca) code RL ret wsL_law) (hX : va_X b Ls xs s s.heap) (hbl : b < s.heap.size) {nn : Nat} {ad : Nat → Nat} {h : tt_H} {ρ : Int32 × tt_H} (hρ : ρ.1 = 1) (hnn : nn ≤ 100000) (hb : ad 1000000 = b) (hs : s_L_law Ls xs nn h = some ρ) : tt_T tt_cl (lw_K p l e s m below meth c b D ca) ad nn (5000 + 24 * nn) 24 [(0, .ref 1000000), (1, .ref 0), (2, .ref 49), (3, .ref 50), (4, .ref 51)] [] h := by
  unfold s_L_law at hs
  have t_76 : ∀ (fu : Nat) (x6 : Int32) (x7 : Int32) (nn : Nat) (h : tt_H) (ad : Nat → Nat), nn ≤ 100000 → ad 1000000 = b → s_L_law_L76 Ls xs fu x6 x7 nn h = some ρ → tt_T tt_cl (lw_K p l e s m below meth c b D ca) ad nn (5000 + 24 * nn) 76 [(0, .ref 1000000), (1, .ref 0), (2, .ref 49), (3, .ref 50), (4, .ref 51), (6, .int x6), (7, .int x7)] [] h := by
    intro fu
    induction fu with
    | zero => intro x6 x7 nn h ad hnn hb hs; exact absurd hs (by rw [s_L_law_L76]; exact fun q => by cases q)
    | succ n76 ih =>
      intro x6 x7 nn h ad hnn hb hs
      rw [s_L_law_L76] at hs
      have t_76 := ih
      have t_130 : ∀ (x6 : Int32) (nn : Nat) (h : tt_H) (ad : Nat → Nat), nn ≤ 100000 → ad 1000000 = b → s_L_law_J130 Ls xs x6 nn h = some ρ → tt_T tt_cl (lw_K p l e s m below meth c b D ca) ad nn (5000 + 24 * nn) 130 [(0, .ref 1000000), (1, .ref 0), (2, .ref 49), (3, .ref 50), (4, .ref 51), (6, .int x6)] [] h := by
        intro x6 nn h ad hnn hb hs
        unfold s_L_law_J130 at hs
        have t_157 : ∀ (fu : Nat) (x7 : Int32) (b8 : Nat) (x9 : Int32) (nn : Nat) (h : tt_H) (ad : Nat → Nat), nn ≤ 100000 → ad 1000000 = b → s_L_law_L157 Ls xs fu x7 b8 x9 nn h = some ρ → tt_T tt_cl (lw_K p l e s m below meth c b D ca) ad nn (5000 + 24 * nn) 157 [(0, .ref 1000000), (1, .ref 0), (2, .ref 49), (3, .ref 50), (4, .ref 51), (7, .int x7), (8, .ref b8), (9, .int x9)] [] h := by
          intro fu
          induction fu with
          | zero => intro x7 b8 x9 nn h ad hnn hb hs; exact absurd hs (by rw [s_L_law_L157]; exact fun q => by cases q)
          | succ n157 ih =>
            intro x7 b8 x9 nn h ad hnn hb hs
            rw [s_L_law_L157] at hs
            have t_157 := ih
            have t_667 : ∀ (fu : Nat) (x7 : Int32) (b8 : Nat) (x9 : Int32) (nn : Nat) (h : tt_H) (ad : Nat → Nat), nn ≤ 100000 → ad 1000000 = b → s_L_law_L667 Ls xs fu x7 b8 x9 nn h = some ρ → tt_T tt_cl (lw_K p l e s m below meth c b D ca) ad nn (5000 + 24 * nn) 667 [(0, .ref 1000000), (1, .ref 0), (2, .ref 49), (3, .ref 50), (4, .ref 51), (7, .int x7), (8, .ref b8), (9, .int x9)] [] h := by
              intro fu
              induction fu with
              | zero => intro x7 b8 x9 nn h ad hnn hb hs; exact absurd hs (by rw [s_L_law_L667]; exact fun q => by cases q)
              | succ n667 ih =>
                intro x7 b8 x9 nn h ad hnn hb hs
                rw [s_L_law_L667] at hs
                have t_667 := ih
                have t_703 : ∀ (fu : Nat) (x7 : Int32) (x9 : Int32) (nn : Nat) (h : tt_H) (ad : Nat → Nat), nn ≤ 100000 → ad 1000000 = b → s_L_law_L703 Ls xs fu x7 x9 nn h = some ρ → tt_T tt_cl (lw_K p l e s m below meth c b D ca) ad nn (5000 + 24 * nn) 703 [(0, .ref 1000000), (1, .ref 0), (2, .ref 49), (3, .ref 50), (4, .ref 51), (7, .int x7), (9, .int x9)] [] h := by
                  intro fu
                  induction fu with
                  | zero => intro x7 x9 nn h ad hnn hb hs; exact absurd hs (by rw [s_L_law_L703]; exact fun q => by cases q)
                  | succ n703 ih =>
                    intro x7 x9 nn h ad hnn hb hs
                    rw [s_L_law_L703] at hs
                    have t_703 := ih
                    have t_731 : ∀ (fu : Nat) (x7 : Int32) (x9 : Int32) (x10 : Int32) (nn : Nat) (h : tt_H) (ad : Nat → Nat), nn ≤ 100000 → ad 1000000 = b → s_L_law_L731 Ls xs (s_L_law_L703 Ls xs n703) fu x7 x9 x10 nn h = some ρ → tt_T tt_cl (lw_K p l e s m below meth c b D ca) ad nn (5000 + 24 * nn) 731 [(0, .ref 1000000), (1, .ref 0), (2, .ref 49), (3, .ref 50), (4, .ref 51), (7, .int x7), (9, .int x9), (10, .int x10)] [] h := by
                      intro fu
                      induction fu with
                      | zero => intro x7 x9 x10 nn h ad hnn hb hs; exact absurd hs (by rw [s_L_law_L731]; exact fun q => by cases q)
                      | succ n731 ih =>
                        intro x7 x9 x10 nn h ad hnn hb hs
                        rw [s_L_law_L731] at hs
                        have t_731 := ih
                        refine tt_iload X dL_law_731 rfl ?_
                        refine tt_aload_n X dL_law_733 rfl ?_
                        refine tt_iconst (v := 0) X dL_law_734 (by decide) ?_
                        obtain ⟨z735, e735, hs⟩ := gg_bind hs
                        refine zr_il X e735 dL_law_735 ?_
                        refine tt_icmp_ge (tgt := 771) X dL_law_736 (by decide) (fun c736 => ?_) (fun c736 => ?_)
                        · rw [if_pos c736] at hs
                          refine tt_iinc (v := x9 + 1) X dL_law_771 rfl rfl (Nat.le_of_ble_eq_true rfl) ?_
                          refine tt_goto (tgt := 703) X dL_law_774 (by decide) ?_
                          refine tt_drop [0, 1, 2, 3, 4, 7, 9] ?_
                          exact t_703 x7 (x9 + 1) nn h _ hnn hb hs
                        · rw [if_neg c736] at hs
                          refine tt_aload_n X dL_law_739 rfl ?_
                          refine tt_iload X dL_law_740 rfl ?_
                          obtain ⟨o742, f742, hs⟩ := gg_bind hs
                          obtain ⟨w742, e742, hs⟩ := gg_bind hs
                          refine zr_callV X f742 rfl (c_X8_said l e742) (fun hts => cwV 1 hts gL_law_X8_said rfl rfl rfl (by decide +kernel) ⟨Nat.le_of_ble_eq_true rfl, Nat.le_of_ble_eq_true rfl⟩) rfl rfl (Nat.le_of_ble_eq_true rfl) dL_law_742 (lw_room hnn) ?_
                          refine tt_aload X dL_law_745 rfl ?_
                          refine tt_aload_n X dL_law_747 rfl ?_
                          refine tt_iload X dL_law_748 rfl ?_
                          obtain ⟨z750, e750, hs⟩ := gg_bind hs
                          refine zr_jl X e750 dL_law_750 ?_
                          refine tt_aload_n X dL_law_751 rfl ?_
                          refine tt_iconst (v := 1) X dL_law_752 (by decide) ?_
                          refine tt_iload X dL_law_753 rfl ?_
                          refine tt_iadd X dL_law_755 ?_
                          obtain ⟨z756, e756, hs⟩ := gg_bind hs
                          refine zr_il X e756 dL_law_756 ?_
                          obtain ⟨w757, e757, hs⟩ := gg_bind hs
                          refine zr_callS X (c_L_said l e757) (fun hts => va_cwS 3 hts gL_law_L_said rfl rfl rfl (by decide +kernel) ⟨Nat.le_of_ble_eq_true rfl, Nat.le_of_ble_eq_true rfl⟩) rfl rfl (Nat.le_of_ble_eq_true rfl) dL_law_757 (lw_room hnn) ?_
                          refine tt_icmp_eq (tgt := 765) X dL_law_760 (by decide) (fun c760 => ?_) (fun c760 => ?_)
                          · rw [if_pos c760] at hs
                            refine tt_iinc (v := x10 + 1) X dL_law_765 rfl rfl (Nat.le_of_ble_eq_true rfl) ?_
                            refine tt_goto (tgt := 731) X dL_law_768 (by decide) ?_
                            refine tt_drop [0, 1, 2, 3, 4, 7, 9, 10] ?_
                            exact t_731 x7 x9 (x10 + 1) nn w757.2 _ hnn hb hs
                          · rw [if_neg c760] at hs
                            refine tt_iconst (v := 0) X dL_law_763 (by decide) ?_
                            exact lw_out X dL_law_764 hs hρ hnn
                    refine tt_iload X dL_law_703 rfl ?_
                    refine tt_iconst (v := 4) X dL_law_705 (by decide) ?_
                    refine tt_icmp_ge (tgt := 777) X dL_law_706 (by decide) (fun c706 => ?_) (fun c706 => ?_)
                    · rw [if_pos c706] at hs
                      refine tt_aload_n X dL_law_777 rfl ?_
                      refine tt_iconst (v := 0) X dL_law_778 (by decide) ?_
                      refine tt_aload_n X dL_law_779 rfl ?_
                      refine tt_iconst (v := 0) X dL_law_780 (by decide) ?_
                      obtain ⟨z781, e781, hs⟩ := gg_bind hs
                      refine zr_il X e781 dL_law_781 ?_
                      obtain ⟨o782, f782, hs⟩ := gg_bind hs
                      obtain ⟨w782, e782, hs⟩ := gg_bind hs
                      refine zr_callV X f782 rfl (c_X8_within l e782) (fun hts => cwV 2 hts gL_law_X8_within rfl rfl rfl (by decide +kernel) ⟨Nat.le_of_ble_eq_true rfl, Nat.le_of_ble_eq_true rfl⟩) rfl rfl (Nat.le_of_ble_eq_true rfl) dL_law_782 (lw_room hnn) ?_
                      refine tt_iconst (v := (-1)) X dL_law_785 (by decide) ?_
                      refine tt_icmp_ne (tgt := 960) X dL_law_786 (by decide) (fun c786 => ?_) (fun c786 => ?_)
                      · rw [if_neg c786] at hs
                        refine tt_iconst (v := 0) X dL_law_960 (by decide) ?_
                        exact lw_out X dL_law_961 hs hρ hnn
                      · rw [if_pos c786] at hs
                        refine tt_aload_n X dL_law_789 rfl ?_
                        refine tt_iconst (v := (-1)) X dL_law_790 (by decide) ?_
                        refine tt_iconst (v := 0) X dL_law_791 (by decide) ?_
                        obtain ⟨o792, f792, hs⟩ := gg_bind hs
                        obtain ⟨w792, e792, hs⟩ := gg_bind hs
                        refine zr_callV X f792 rfl (c_X8_within l e792) (fun hts => cwV 2 hts gL_law_X8_within rfl rfl rfl (by decide +kernel) ⟨Nat.le_of_ble_eq_true rfl, Nat.le_of_ble_eq_true rfl⟩) rfl rfl (Nat.le_of_ble_eq_true rfl) dL_law_792 (lw_room hnn) ?_
                        refine tt_iconst (v := (-1)) X dL_law_795 (by decide) ?_
                        refine tt_icmp_ne (tgt := 960) X dL_law_796 (by decide) (fun c796 => ?_) (fun c796 => ?_)
                        · rw [if_neg c796] at hs
                          refine tt_iconst (v := 0) X dL_law_960 (by decide) ?_
                          exact lw_out X dL_law_961 hs hρ hnn
                        · rw [if_pos c796] at hs
                          refine tt_aload_n X dL_law_799 rfl ?_
                          refine tt_aload_n X dL_law_800 rfl ?_
                          refine tt_iconst (v := 0) X dL_law_801 (by decide) ?_
                          obtain ⟨z802, e802, hs⟩ := gg_bind hs
                          refine zr_il X e802 dL_law_802 ?_
                          refine tt_iconst (v := 0) X dL_law_803 (by decide) ?_
                          obtain ⟨o804, f804, hs⟩ := gg_bind hs
                          obtain ⟨w804, e804, hs⟩ := gg_bind hs
                          refine zr_callV X f804 rfl (c_X8_ways l e804) (fun hts => cwV 2 hts gL_law_X8_ways rfl rfl rfl (by decide +kernel) ⟨Nat.le_of_ble_eq_true rfl, Nat.le_of_ble_eq_true rfl⟩) rfl rfl (Nat.le_of_ble_eq_true rfl) dL_law_804 (lw_room hnn) ?_
                          refine tt_ldc2 (v := (-9223372036854775808)) X (by decide +kernel) dL_law_807 ?_
                          refine tt_lcmp X dL_law_810 ?_
                          refine tt_if_ne (tgt := 960) X dL_law_811 (by decide) (fun c811 => ?_) (fun c811 => ?_)
                          · rw [if_neg c811] at hs
                            refine tt_iconst (v := 0) X dL_law_960 (by decide) ?_
                            exact lw_out X dL_law_961 hs hρ hnn
                          · rw [if_pos c811] at hs
                            refine tt_aload_n X dL_law_814 rfl ?_
                            refine tt_iconst (v := 0) X dL_law_815 (by decide) ?_
                            refine tt_aload_n X dL_law_816 rfl ?_
                            refine tt_iconst (v := 0) X dL_law_817 (by decide) ?_
                            obtain ⟨z818, e818, hs⟩ := gg_bind hs
                            refine zr_il X e818 dL_law_818 ?_
                            refine tt_iconst (v := 0) X dL_law_819 (by decide) ?_
                            refine tt_iconst (v := 0) X dL_law_820 (by decide) ?_
                            obtain ⟨o821, f821, hs⟩ := gg_bind hs
                            obtain ⟨w821, e821, hs⟩ := gg_bind hs
                            refine zr_callV X f821 rfl (c_X8_place l e821) (fun hts => cwV 4 hts gL_law_X8_place rfl rfl rfl (by decide +kernel) ⟨Nat.le_of_ble_eq_true rfl, Nat.le_of_ble_eq_true rfl⟩) rfl rfl (Nat.le_of_ble_eq_true rfl) dL_law_821 (lw_room hnn) ?_
                            refine tt_iconst (v := (-1)) X dL_law_824 (by decide) ?_
                            refine tt_icmp_ne (tgt := 960) X dL_law_825 (by decide) (fun c825 => ?_) (fun c825 => ?_)
                            · rw [if_neg c825] at hs
                              refine tt_iconst (v := 0) X dL_law_960 (by decide) ?_
                              exact lw_out X dL_law_961 hs hρ hnn
                            · rw [if_pos c825] at hs
                              refine tt_aload_n X dL_law_828 rfl ?_
                              refine tt_iconst (v := 0) X dL_law_829 (by decide) ?_
                              refine tt_iconst (v := 0) X dL_law_830 (by decide) ?_
                              refine tt_aload_n X dL_law_831 rfl ?_
                              refine tt_iconst (v := 1) X dL_law_832 (by decide) ?_
                              obtain ⟨z833, e833, hs⟩ := gg_bind hs
                              refine zr_il X e833 dL_law_833 ?_
                              refine tt_iconst (v := 0) X dL_law_834 (by decide) ?_
                              obtain ⟨o835, f835, hs⟩ := gg_bind hs
                              obtain ⟨w835, e835, hs⟩ := gg_bind hs
                              refine zr_callV X f835 rfl (c_X8_place l e835) (fun hts => cwV 4 hts gL_law_X8_place rfl rfl rfl (by decide +kernel) ⟨Nat.le_of_ble_eq_true rfl, Nat.le_of_ble_eq_true rfl⟩) rfl rfl (Nat.le_of_ble_eq_true rfl) dL_law_835 (lw_room hnn) ?_
                              refine tt_iconst (v := (-1)) X dL_law_838 (by decide) ?_
                              refine tt_icmp_ne (tgt := 960) X dL_law_839 (by decide) (fun c839 => ?_) (fun c839 => ?_)
                              · rw [if_neg c839] at hs
                                refine tt_iconst (v := 0) X dL_law_960 (by decide) ?_
                                exact lw_out X dL_law_961 hs hρ hnn
                              · rw [if_pos c839] at hs
                                refine tt_aload_n X dL_law_842 rfl ?_
                                refine tt_iconst (v := 0) X dL_law_843 (by decide) ?_
                                refine tt_iconst (v := 0) X dL_law_844 (by decide) ?_
                                refine tt_iconst (v := (-1)) X dL_law_845 (by decide) ?_
                                refine tt_iconst (v := 0) X dL_law_846 (by decide) ?_
                                obtain ⟨o847, f847, hs⟩ := gg_bind hs
                                obtain ⟨w847, e847, hs⟩ := gg_bind hs
                                refine zr_callV X f847 rfl (c_X8_place l e847) (fun hts => cwV 4 hts gL_law_X8_place rfl rfl rfl (by decide +kernel) ⟨Nat.le_of_ble_eq_true rfl, Nat.le_of_ble_eq_true rfl⟩) rfl rfl (Nat.le_of_ble_eq_true rfl) dL_law_847 (lw_room hnn) ?_
                                refine tt_iconst (v := (-1)) X dL_law_850 (by decide) ?_
                                refine tt_icmp_ne (tgt := 960) X dL_law_851 (by decide) (fun c851 => ?_) (fun c851 => ?_)
                                · rw [if_neg c851] at hs
                                  refine tt_iconst (v := 0) X dL_law_960 (by decide) ?_
                                  exact lw_out X dL_law_961 hs hρ hnn
                                · rw [if_pos c851] at hs
                                  refine tt_aload_n X dL_law_854 rfl ?_
                                  refine tt_iconst (v := 0) X dL_law_855 (by decide) ?_
                                  refine tt_iconst (v := 0) X dL_law_856 (by decide) ?_
                                  refine tt_iconst (v := 0) X dL_law_857 (by decide) ?_
                                  refine tt_iconst (v := 2) X dL_law_858 (by decide) ?_
                                  obtain ⟨o859, f859, hs⟩ := gg_bind hs
                                  obtain ⟨w859, e859, hs⟩ := gg_bind hs
                                  refine zr_callV X f859 rfl (c_X8_place l e859) (fun hts => cwV 4 hts gL_law_X8_place rfl rfl rfl (by decide +kernel) ⟨Nat.le_of_ble_eq_true rfl, Nat.le_of_ble_eq_true rfl⟩) rfl rfl (Nat.le_of_ble_eq_true rfl) dL_law_859 (lw_room hnn) ?_
                                  refine tt_bipush (v := (-2)) X dL_law_862 (by decide) ?_
                                  refine tt_icmp_ne (tgt := 960) X dL_law_864 (by decide) (fun c864 => ?_) (fun c864 => ?_)
                                  · rw [if_neg c864] at hs
                                    refine tt_iconst (v := 0) X dL_law_960 (by decide) ?_
                                    exact lw_out X dL_law_961 hs hρ hnn
                                  · rw [if_pos c864] at hs
                                    refine tt_aload_n X dL_law_867 rfl ?_
                                    refine tt_aload_n X dL_law_868 rfl ?_
                                    refine tt_iconst (v := 1) X dL_law_869 (by decide) ?_
                                    refine tt_iload X dL_law_870 rfl ?_
                                    refine tt_iadd X dL_law_872 ?_
                                    obtain ⟨z873, e873, hs⟩ := gg_bind hs
                                    refine zr_il X e873 dL_law_873 ?_
                                    obtain ⟨o874, f874, hs⟩ := gg_bind hs
                                    obtain ⟨w874, e874, hs⟩ := gg_bind hs
                                    refine zr_callV X f874 rfl (c_X8_mayBe l e874) (fun hts => cwV 1 hts gL_law_X8_mayBe rfl rfl rfl (by decide +kernel) ⟨Nat.le_of_ble_eq_true rfl, Nat.le_of_ble_eq_true rfl⟩) rfl rfl (Nat.le_of_ble_eq_true rfl) dL_law_874 (lw_room hnn) ?_
                                    refine tt_iconst (v := (-1)) X dL_law_877 (by decide) ?_
                                    refine tt_icmp_ne (tgt := 960) X dL_law_878 (by decide) (fun c878 => ?_) (fun c878 => ?_)
                                    · rw [if_neg c878] at hs
                                      refine tt_iconst (v := 0) X dL_law_960 (by decide) ?_
                                      exact lw_out X dL_law_961 hs hρ hnn
                                    · rw [if_pos c878] at hs
                                      refine tt_aload_n X dL_law_881 rfl ?_
                                      refine tt_iconst (v := (-1)) X dL_law_882 (by decide) ?_
                                      obtain ⟨o883, f883, hs⟩ := gg_bind hs
                                      obtain ⟨w883, e883, hs⟩ := gg_bind hs
                                      refine zr_callV X f883 rfl (c_X8_mayBe l e883) (fun hts => cwV 1 hts gL_law_X8_mayBe rfl rfl rfl (by decide +kernel) ⟨Nat.le_of_ble_eq_true rfl, Nat.le_of_ble_eq_true rfl⟩) rfl rfl (Nat.le_of_ble_eq_true rfl) dL_law_883 (lw_room hnn) ?_
                                      refine tt_iconst (v := (-1)) X dL_law_886 (by decide) ?_
                                      refine tt_icmp_ne (tgt := 960) X dL_law_887 (by decide) (fun c887 => ?_) (fun c887 => ?_)
                                      · rw [if_neg c887] at hs
                                        refine tt_iconst (v := 0) X dL_law_960 (by decide) ?_
                                        exact lw_out X dL_law_961 hs hρ hnn
                                      · rw [if_pos c887] at hs
                                        refine tt_aload_n X dL_law_890 rfl ?_
                                        refine tt_aload_n X dL_law_891 rfl ?_
                                        refine tt_iconst (v := 0) X dL_law_892 (by decide) ?_
                                        obtain ⟨z893, e893, hs⟩ := gg_bind hs
                                        refine zr_il X e893 dL_law_893 ?_
                                        obtain ⟨o894, f894, hs⟩ := gg_bind hs
                                        obtain ⟨w894, e894, hs⟩ := gg_bind hs
                                        refine zr_callV X f894 rfl (c_X8_said l e894) (fun hts => cwV 1 hts gL_law_X8_said rfl rfl rfl (by decide +kernel) ⟨Nat.le_of_ble_eq_true rfl, Nat.le_of_ble_eq_true rfl⟩) rfl rfl (Nat.le_of_ble_eq_true rfl) dL_law_894 (lw_room hnn) ?_
                                        refine tt_iconst (v := (-1)) X dL_law_897 (by decide) ?_
                                        refine tt_icmp_ne (tgt := 960) X dL_law_898 (by decide) (fun c898 => ?_) (fun c898 => ?_)
                                        · rw [if_neg c898] at hs
                                          refine tt_iconst (v := 0) X dL_law_960 (by decide) ?_
                                          exact lw_out X dL_law_961 hs hρ hnn
                                        · rw [if_pos c898] at hs
                                          refine tt_aload_n X dL_law_901 rfl ?_
                                          refine tt_aload_n X dL_law_902 rfl ?_
                                          refine tt_iconst (v := 0) X dL_law_903 (by decide) ?_
                                          obtain ⟨z904, e904, hs⟩ := gg_bind hs
                                          refine zr_il X e904 dL_law_904 ?_
                                          refine tt_iconst (v := 0) X dL_law_905 (by decide) ?_
                                          obtain ⟨o906, f906, hs⟩ := gg_bind hs
                                          obtain ⟨w906, e906, hs⟩ := gg_bind hs
                                          refine zr_callV X f906 rfl (c_X8_ofDay l e906) (fun hts => cwV 2 hts gL_law_X8_ofDay rfl rfl rfl (by decide +kernel) ⟨Nat.le_of_ble_eq_true rfl, Nat.le_of_ble_eq_true rfl⟩) rfl rfl (Nat.le_of_ble_eq_true rfl) dL_law_906 (lw_room hnn) ?_
                                          refine tt_iconst (v := (-1)) X dL_law_909 (by decide) ?_
                                          refine tt_icmp_ne (tgt := 960) X dL_law_910 (by decide) (fun c910 => ?_) (fun c910 => ?_)
                                          · rw [if_neg c910] at hs
                                            refine tt_iconst (v := 0) X dL_law_960 (by decide) ?_
                                            exact lw_out X dL_law_961 hs hρ hnn
                                          · rw [if_pos c910] at hs
                                            refine tt_aload_n X dL_law_913 rfl ?_
                                            refine tt_iconst (v := 0) X dL_law_914 (by decide) ?_
                                            refine tt_bipush (v := (-2)) X dL_law_915 (by decide) ?_
                                            obtain ⟨o917, f917, hs⟩ := gg_bind hs
                                            obtain ⟨w917, e917, hs⟩ := gg_bind hs
                                            refine zr_callV X f917 rfl (c_X8_ofDay l e917) (fun hts => cwV 2 hts gL_law_X8_ofDay rfl rfl rfl (by decide +kernel) ⟨Nat.le_of_ble_eq_true rfl, Nat.le_of_ble_eq_true rfl⟩) rfl rfl (Nat.le_of_ble_eq_true rfl) dL_law_917 (lw_room hnn) ?_
                                            refine tt_iconst (v := (-1)) X dL_law_920 (by decide) ?_
                                            refine tt_icmp_ne (tgt := 960) X dL_law_921 (by decide) (fun c921 => ?_) (fun c921 => ?_)
                                            · rw [if_neg c921] at hs
                                              refine tt_iconst (v := 0) X dL_law_960 (by decide) ?_
                                              exact lw_out X dL_law_961 hs hρ hnn
                                            · rw [if_pos c921] at hs
                                              refine tt_aload_n X dL_law_924 rfl ?_
                                              refine tt_bipush (v := 8) X dL_law_925 (by decide) ?_
                                              refine tt_iconst (v := 0) X dL_law_927 (by decide) ?_
                                              obtain ⟨o928, f928, hs⟩ := gg_bind hs
                                              obtain ⟨w928, e928, hs⟩ := gg_bind hs
                                              refine zr_callV X f928 rfl (c_X8_kind l e928) (fun hts => cwV 2 hts gL_law_X8_kind rfl rfl rfl (by decide +kernel) ⟨Nat.le_of_ble_eq_true rfl, Nat.le_of_ble_eq_true rfl⟩) rfl rfl (Nat.le_of_ble_eq_true rfl) dL_law_928 (lw_room hnn) ?_
                                              refine tt_iconst (v := (-1)) X dL_law_931 (by decide) ?_
                                              refine tt_icmp_ne (tgt := 960) X dL_law_932 (by decide) (fun c932 => ?_) (fun c932 => ?_)
                                              · rw [if_neg c932] at hs
                                                refine tt_iconst (v := 0) X dL_law_960 (by decide) ?_
                                                exact lw_out X dL_law_961 hs hρ hnn
                                              · rw [if_pos c932] at hs
                                                refine tt_aload_n X dL_law_935 rfl ?_
                                                refine tt_iconst (v := 0) X dL_law_936 (by decide) ?_
                                                refine tt_iconst (v := 3) X dL_law_937 (by decide) ?_
                                                obtain ⟨o938, f938, hs⟩ := gg_bind hs
                                                obtain ⟨w938, e938, hs⟩ := gg_bind hs
                                                refine zr_callV X f938 rfl (c_X8_kind l e938) (fun hts => cwV 2 hts gL_law_X8_kind rfl rfl rfl (by decide +kernel) ⟨Nat.le_of_ble_eq_true rfl, Nat.le_of_ble_eq_true rfl⟩) rfl rfl (Nat.le_of_ble_eq_true rfl) dL_law_938 (lw_room hnn) ?_
                                                refine tt_bipush (v := (-2)) X dL_law_941 (by decide) ?_
                                                refine tt_icmp_ne (tgt := 960) X dL_law_943 (by decide) (fun c943 => ?_) (fun c943 => ?_)
                                                · rw [if_neg c943] at hs
                                                  refine tt_iconst (v := 0) X dL_law_960 (by decide) ?_
                                                  exact lw_out X dL_law_961 hs hρ hnn
                                                · rw [if_pos c943] at hs
                                                  refine tt_aload_n X dL_law_946 rfl ?_
                                                  refine tt_iconst (v := (-1)) X dL_law_947 (by decide) ?_
                                                  refine tt_iconst (v := 0) X dL_law_948 (by decide) ?_
                                                  obtain ⟨o949, f949, hs⟩ := gg_bind hs
                                                  obtain ⟨w949, e949, hs⟩ := gg_bind hs
                                                  refine zr_callV X f949 rfl (c_X8_kind l e949) (fun hts => cwV 2 hts gL_law_X8_kind rfl rfl rfl (by decide +kernel) ⟨Nat.le_of_ble_eq_true rfl, Nat.le_of_ble_eq_true rfl⟩) rfl rfl (Nat.le_of_ble_eq_true rfl) dL_law_949 (lw_room hnn) ?_
                                                  refine tt_iconst (v := (-1)) X dL_law_952 (by decide) ?_
                                                  refine tt_icmp_ne (tgt := 960) X dL_law_953 (by decide) (fun c953 => ?_) (fun c953 => ?_)
                                                  · rw [if_neg c953] at hs
                                                    refine tt_iconst (v := 0) X dL_law_960 (by decide) ?_
                                                    exact lw_out X dL_law_961 hs hρ hnn
                                                  · rw [if_pos c953] at hs
                                                    refine tt_iconst (v := 1) X dL_law_956 (by decide) ?_
                                                    refine tt_goto (tgt := 961) X dL_law_957 (by decide) ?_
                                                    exact lw_out X dL_law_961 hs hρ hnn
                    · rw [if_neg c706] at hs
                      refine tt_aload_n X dL_law_709 rfl ?_
                      refine tt_aload_n X dL_law_710 rfl ?_
                      refine tt_iconst (v := 4) X dL_law_711 (by decide) ?_
                      refine tt_iload X dL_law_712 rfl ?_
                      refine tt_iadd X dL_law_714 ?_
                      obtain ⟨w715, e715, hs⟩ := gg_bind hs
                      refine zr_callSY X (lw_Y hX hbl hb) (c_L_cell l e715) (fun hts => va_cwS 2 hts gL_law_L_cell rfl rfl rfl (by decide +kernel) ⟨Nat.le_of_ble_eq_true rfl, Nat.le_of_ble_eq_true rfl⟩) rfl rfl (Nat.le_of_ble_eq_true rfl) dL_law_715 (lw_room hnn) ?_
                      refine tt_aload X dL_law_718 rfl ?_
                      obtain ⟨w720, e720, hs⟩ := gg_bind hs
                      refine zr_callS X (c_L_kinds l e720) (fun hts => va_cwS 3 hts gL_law_L_kinds rfl rfl rfl (by decide +kernel) ⟨Nat.le_of_ble_eq_true rfl, Nat.le_of_ble_eq_true rfl⟩) rfl rfl (Nat.le_of_ble_eq_true rfl) dL_law_720 (lw_room hnn) ?_
                      refine tt_if_ne (tgt := 728) X dL_law_723 (by decide) (fun c723 => ?_) (fun c723 => ?_)
                      · rw [if_neg c723] at hs
                        refine tt_iconst (v := 0) X dL_law_728 (by decide) ?_
                        refine tt_istore X dL_law_729 (Nat.le_of_ble_eq_true rfl) ?_
                        refine tt_drop [0, 1, 2, 3, 4, 7, 9, 10] ?_
                        exact t_731 10000 x7 x9 0 nn w720.2 _ hnn hb hs
                      · rw [if_pos c723] at hs
                        refine tt_iconst (v := 0) X dL_law_726 (by decide) ?_
                        exact lw_out X dL_law_727 hs hρ hnn
                refine tt_iload X dL_law_667 rfl ?_
                refine tt_aload_n X dL_law_669 rfl ?_
                refine tt_iconst (v := 1) X dL_law_670 (by decide) ?_
                refine tt_iload X dL_law_671 rfl ?_
                refine tt_iadd X dL_law_673 ?_
                obtain ⟨z674, e674, hs⟩ := gg_bind hs
                refine zr_il X e674 dL_law_674 ?_
                refine tt_icmp_ge (tgt := 700) X dL_law_675 (by decide) (fun c675 => ?_) (fun c675 => ?_)
                · rw [if_pos c675] at hs
                  refine tt_iconst (v := 0) X dL_law_700 (by decide) ?_
                  refine tt_istore X dL_law_701 (Nat.le_of_ble_eq_true rfl) ?_
                  refine tt_drop [0, 1, 2, 3, 4, 7, 9] ?_
                  exact t_703 10000 x7 0 nn h _ hnn hb hs
                · rw [if_neg c675] at hs
                  refine tt_aload_n X dL_law_678 rfl ?_
                  refine tt_iload X dL_law_679 rfl ?_
                  obtain ⟨o681, f681, hs⟩ := gg_bind hs
                  obtain ⟨w681, e681, hs⟩ := gg_bind hs
                  refine zr_callV X f681 rfl (c_X8_mayBe l e681) (fun hts => cwV 1 hts gL_law_X8_mayBe rfl rfl rfl (by decide +kernel) ⟨Nat.le_of_ble_eq_true rfl, Nat.le_of_ble_eq_true rfl⟩) rfl rfl (Nat.le_of_ble_eq_true rfl) dL_law_681 (lw_room hnn) ?_
                  refine tt_aload X dL_law_684 rfl ?_
                  refine tt_iload X dL_law_686 rfl ?_
                  obtain ⟨z688, e688, hs⟩ := gg_bind hs
                  refine zr_il X e688 dL_law_688 ?_
                  refine tt_icmp_eq (tgt := 694) X dL_law_689 (by decide) (fun c689 => ?_) (fun c689 => ?_)
                  · rw [if_pos c689] at hs
                    refine tt_iinc (v := x9 + 1) X dL_law_694 rfl rfl (Nat.le_of_ble_eq_true rfl) ?_
                    refine tt_goto (tgt := 667) X dL_law_697 (by decide) ?_
                    refine tt_drop [0, 1, 2, 3, 4, 7, 8, 9] ?_
                    exact t_667 x7 b8 (x9 + 1) nn w681.2 _ hnn hb hs
                  · rw [if_neg c689] at hs
                    refine tt_iconst (v := 0) X dL_law_692 (by decide) ?_
                    exact lw_out X dL_law_693 hs hρ hnn
            have t_202 : ∀ (fu : Nat) (x7 : Int32) (b8 : Nat) (x9 : Int32) (x10 : Int32) (nn : Nat) (h : tt_H) (ad : Nat → Nat), nn ≤ 100000 → ad 1000000 = b → s_L_law_L202 Ls xs (s_L_law_L157 Ls xs n157) fu x7 b8 x9 x10 nn h = some ρ → tt_T tt_cl (lw_K p l e s m below meth c b D ca) ad nn (5000 + 24 * nn) 202 [(0, .ref 1000000), (1, .ref 0), (2, .ref 49), (3, .ref 50), (4, .ref 51), (7, .int x7), (8, .ref b8), (9, .int x9), (10, .int x10)] [] h := by
              intro fu
              induction fu with
              | zero => intro x7 b8 x9 x10 nn h ad hnn hb hs; exact absurd hs (by rw [s_L_law_L202]; exact fun q => by cases q)
              | succ n202 ih =>
                intro x7 b8 x9 x10 nn h ad hnn hb hs
                rw [s_L_law_L202] at hs
                have t_202 := ih
                have t_244 : ∀ (fu : Nat) (x7 : Int32) (b8 : Nat) (x9 : Int32) (x10 : Int32) (nn : Nat) (h : tt_H) (ad : Nat → Nat), nn ≤ 100000 → ad 1000000 = b → s_L_law_L244 Ls xs (s_L_law_L157 Ls xs n157) fu x7 b8 x9 x10 nn h = some ρ → tt_T tt_cl (lw_K p l e s m below meth c b D ca) ad nn (5000 + 24 * nn) 244 [(0, .ref 1000000), (1, .ref 0), (2, .ref 49), (3, .ref 50), (4, .ref 51), (7, .int x7), (8, .ref b8), (9, .int x9), (10, .int x10)] [] h := by
                  intro fu
                  induction fu with
                  | zero => intro x7 b8 x9 x10 nn h ad hnn hb hs; exact absurd hs (by rw [s_L_law_L244]; exact fun q => by cases q)
                  | succ n244 ih =>
                    intro x7 b8 x9 x10 nn h ad hnn hb hs
                    rw [s_L_law_L244] at hs
                    have t_244 := ih
                    have t_295 : ∀ (x7 : Int32) (b8 : Nat) (x9 : Int32) (x10 : Int32) (x11 : Int32) (ux0 : Int32) (ux1 : Int32) (nn : Nat) (h : tt_H) (ad : Nat → Nat), nn ≤ 100000 → ad 1000000 = b → s_L_law_J295 Ls xs (s_L_law_L244 Ls xs (s_L_law_L157 Ls xs n157) n244) x7 b8 x9 x10 x11 ux0 ux1 nn h = some ρ → tt_T tt_cl (lw_K p l e s m below meth c b D ca) ad nn (5000 + 24 * nn) 295 [(0, .ref 1000000), (1, .ref 0), (2, .ref 49), (3, .ref 50), (4, .ref 51), (7, .int x7), (8, .ref b8), (9, .int x9), (10, .int x10), (11, .int x11)] [.int ux1, .int ux0] h := by
                      intro x7 b8 x9 x10 x11 ux0 ux1 nn h ad hnn hb hs
                      unfold s_L_law_J295 at hs
                      have t_652 : ∀ (x7 : Int32) (b8 : Nat) (x9 : Int32) (x10 : Int32) (nn : Nat) (h : tt_H) (ad : Nat → Nat), nn ≤ 100000 → ad 1000000 = b → s_L_law_J652 Ls xs (s_L_law_L244 Ls xs (s_L_law_L157 Ls xs n157) n244) x7 b8 x9 x10 nn h = some ρ → tt_T tt_cl (lw_K p l e s m below meth c b D ca) ad nn (5000 + 24 * nn) 652 [(0, .ref 1000000), (1, .ref 0), (2, .ref 49), (3, .ref 50), (4, .ref 51), (7, .int x7), (8, .ref b8), (9, .int x9), (10, .int x10)] [] h := by
                        intro x7 b8 x9 x10 nn h ad hnn hb hs
                        unfold s_L_law_J652 at hs
                        refine tt_iinc (v := x10 + 1) X dL_law_652 rfl rfl (Nat.le_of_ble_eq_true rfl) ?_
                        refine tt_goto (tgt := 244) X dL_law_655 (by decide) ?_
                        refine tt_drop [0, 1, 2, 3, 4, 7, 8, 9, 10] ?_
                        exact t_244 x7 b8 x9 (x10 + 1) nn h _ hnn hb hs
                      have t_334 : ∀ (x7 : Int32) (b8 : Nat) (x9 : Int32) (x10 : Int32) (x11 : Int32) (nn : Nat) (h : tt_H) (ad : Nat → Nat), nn ≤ 100000 → ad 1000000 = b → s_L_law_J334 Ls xs (s_L_law_J652 Ls xs (s_L_law_L244 Ls xs (s_L_law_L157 Ls xs n157) n244)) x7 b8 x9 x10 x11 nn h = some ρ → tt_T tt_cl (lw_K p l e s m below meth c b D ca) ad nn (5000 + 24 * nn) 334 [(0, .ref 1000000), (1, .ref 0), (2, .ref 49), (3, .ref 50), (4, .ref 51), (7, .int x7), (8, .ref b8), (9, .int x9), (10, .int x10), (11, .int x11)] [] h := by
                        intro x7 b8 x9 x10 x11 nn h ad hnn hb hs
                        unfold s_L_law_J334 at hs
                        have t_352 : ∀ (fu : Nat) (x7 : Int32) (b8 : Nat) (x9 : Int32) (x10 : Int32) (x11 : Int32) (x12 : Int32) (b13 : Nat) (b14 : Nat) (x15 : Int32) (nn : Nat) (h : tt_H) (ad : Nat → Nat), nn ≤ 100000 → ad 1000000 = b → s_L_law_L352 Ls xs (s_L_law_J652 Ls xs (s_L_law_L244 Ls xs (s_L_law_L157 Ls xs n157) n244)) fu x7 b8 x9 x10 x11 x12 b13 b14 x15 nn h = some ρ → tt_T tt_cl (lw_K p l e s m below meth c b D ca) ad nn (5000 + 24 * nn) 352 [(0, .ref 1000000), (1, .ref 0), (2, .ref 49), (3, .ref 50), (4, .ref 51), (7, .int x7), (8, .ref b8), (9, .int x9), (10, .int x10), (11, .int x11), (12, .int x12), (13, .ref b13), (14, .ref b14), (15, .int x15)] [] h := by
                          intro fu
                          induction fu with
                          | zero => intro x7 b8 x9 x10 x11 x12 b13 b14 x15 nn h ad hnn hb hs; exact absurd hs (by rw [s_L_law_L352]; exact fun q => by cases q)
                          | succ n352 ih =>
                            intro x7 b8 x9 x10 x11 x12 b13 b14 x15 nn h ad hnn hb hs
                            rw [s_L_law_L352] at hs
                            have t_352 := ih
                            have t_382 : ∀ (fu : Nat) (x7 : Int32) (b8 : Nat) (x9 : Int32) (x10 : Int32) (x11 : Int32) (x12 : Int32) (b13 : Nat) (b14 : Nat) (x15 : Int32) (nn : Nat) (h : tt_H) (ad : Nat → Nat), nn ≤ 100000 → ad 1000000 = b → s_L_law_L382 Ls xs (s_L_law_J652 Ls xs (s_L_law_L244 Ls xs (s_L_law_L157 Ls xs n157) n244)) fu x7 b8 x9 x10 x11 x12 b13 b14 x15 nn h = some ρ → tt_T tt_cl (lw_K p l e s m below meth c b D ca) ad nn (5000 + 24 * nn) 382 [(0, .ref 1000000), (1, .ref 0), (2, .ref 49), (3, .ref 50), (4, .ref 51), (7, .int x7), (8, .ref b8), (9, .int x9), (10, .int x10), (11, .int x11), (12, .int x12), (13, .ref b13), (14, .ref b14), (15, .int x15)] [] h := by
                              intro fu
                              induction fu with
                              | zero => intro x7 b8 x9 x10 x11 x12 b13 b14 x15 nn h ad hnn hb hs; exact absurd hs (by rw [s_L_law_L382]; exact fun q => by cases q)
                              | succ n382 ih =>
                                intro x7 b8 x9 x10 x11 x12 b13 b14 x15 nn h ad hnn hb hs
                                rw [s_L_law_L382] at hs
                                have t_382 := ih
                                have t_585 : ∀ (x7 : Int32) (b8 : Nat) (x9 : Int32) (x10 : Int32) (x11 : Int32) (b13 : Nat) (b14 : Nat) (ux0 : Int32) (nn : Nat) (h : tt_H) (ad : Nat → Nat), nn ≤ 100000 → ad 1000000 = b → s_L_law_J585 Ls xs (s_L_law_J652 Ls xs (s_L_law_L244 Ls xs (s_L_law_L157 Ls xs n157) n244)) x7 b8 x9 x10 x11 b13 b14 ux0 nn h = some ρ → tt_T tt_cl (lw_K p l e s m below meth c b D ca) ad nn (5000 + 24 * nn) 585 [(0, .ref 1000000), (1, .ref 0), (2, .ref 49), (3, .ref 50), (4, .ref 51), (7, .int x7), (8, .ref b8), (9, .int x9), (10, .int x10), (11, .int x11), (13, .ref b13), (14, .ref b14)] [.int ux0] h := by
                                  intro x7 b8 x9 x10 x11 b13 b14 ux0 nn h ad hnn hb hs
                                  unfold s_L_law_J585 at hs
                                  have t_595 : ∀ (fu : Nat) (x7 : Int32) (b8 : Nat) (x9 : Int32) (x10 : Int32) (b13 : Nat) (b14 : Nat) (x15 : Int32) (nn : Nat) (h : tt_H) (ad : Nat → Nat), nn ≤ 100000 → ad 1000000 = b → s_L_law_L595 Ls xs (s_L_law_J652 Ls xs (s_L_law_L244 Ls xs (s_L_law_L157 Ls xs n157) n244)) fu x7 b8 x9 x10 b13 b14 x15 nn h = some ρ → tt_T tt_cl (lw_K p l e s m below meth c b D ca) ad nn (5000 + 24 * nn) 595 [(0, .ref 1000000), (1, .ref 0), (2, .ref 49), (3, .ref 50), (4, .ref 51), (7, .int x7), (8, .ref b8), (9, .int x9), (10, .int x10), (13, .ref b13), (14, .ref b14), (15, .int x15)] [] h := by
                                    intro fu
                                    induction fu with
                                    | zero => intro x7 b8 x9 x10 b13 b14 x15 nn h ad hnn hb hs; exact absurd hs (by rw [s_L_law_L595]; exact fun q => by cases q)
                                    | succ n595 ih =>
                                      intro x7 b8 x9 x10 b13 b14 x15 nn h ad hnn hb hs
                                      rw [s_L_law_L595] at hs
                                      have t_595 := ih
                                      refine tt_iload X dL_law_595 rfl ?_
                                      refine tt_aload_n X dL_law_597 rfl ?_
                                      refine tt_iconst (v := 1) X dL_law_598 (by decide) ?_
                                      refine tt_iload X dL_law_599 rfl ?_
                                      refine tt_iadd X dL_law_601 ?_
                                      obtain ⟨z602, e602, hs⟩ := gg_bind hs
                                      refine zr_il X e602 dL_law_602 ?_
                                      refine tt_icmp_ge (tgt := 652) X dL_law_603 (by decide) (fun c603 => ?_) (fun c603 => ?_)
                                      · rw [if_pos c603] at hs
                                        refine tt_drop [0, 1, 2, 3, 4, 7, 8, 9, 10] ?_
                                        exact t_652 x7 b8 x9 x10 nn h _ hnn hb hs
                                      · rw [if_neg c603] at hs
                                        refine tt_aload_n X dL_law_606 rfl ?_
                                        refine tt_iload X dL_law_607 rfl ?_
                                        refine tt_iload X dL_law_609 rfl ?_
                                        refine tt_iload X dL_law_611 rfl ?_
                                        refine tt_iconst (v := 0) X dL_law_613 (by decide) ?_
                                        obtain ⟨o614, f614, hs⟩ := gg_bind hs
                                        obtain ⟨w614, e614, hs⟩ := gg_bind hs
                                        refine zr_callV X f614 rfl (c_X8_place l e614) (fun hts => cwV 4 hts gL_law_X8_place rfl rfl rfl (by decide +kernel) ⟨Nat.le_of_ble_eq_true rfl, Nat.le_of_ble_eq_true rfl⟩) rfl rfl (Nat.le_of_ble_eq_true rfl) dL_law_614 (lw_room hnn) ?_
                                        refine tt_aload X dL_law_617 rfl ?_
                                        refine tt_iload X dL_law_619 rfl ?_
                                        obtain ⟨z621, e621, hs⟩ := gg_bind hs
                                        refine zr_il X e621 dL_law_621 ?_
                                        refine tt_icmp_ne (tgt := 644) X dL_law_622 (by decide) (fun c622 => ?_) (fun c622 => ?_)
                                        · rw [if_neg c622] at hs
                                          refine tt_iconst (v := 0) X dL_law_644 (by decide) ?_
                                          exact lw_out X dL_law_645 hs hρ hnn
                                        · rw [if_pos c622] at hs
                                          refine tt_aload_n X dL_law_625 rfl ?_
                                          refine tt_iload X dL_law_626 rfl ?_
                                          refine tt_iload X dL_law_628 rfl ?_
                                          refine tt_iload X dL_law_630 rfl ?_
                                          refine tt_iconst (v := 1) X dL_law_632 (by decide) ?_
                                          obtain ⟨o633, f633, hs⟩ := gg_bind hs
                                          obtain ⟨w633, e633, hs⟩ := gg_bind hs
                                          refine zr_callV X f633 rfl (c_X8_place l e633) (fun hts => cwV 4 hts gL_law_X8_place rfl rfl rfl (by decide +kernel) ⟨Nat.le_of_ble_eq_true rfl, Nat.le_of_ble_eq_true rfl⟩) rfl rfl (Nat.le_of_ble_eq_true rfl) dL_law_633 (lw_room hnn) ?_
                                          refine tt_aload X dL_law_636 rfl ?_
                                          refine tt_iload X dL_law_638 rfl ?_
                                          obtain ⟨z640, e640, hs⟩ := gg_bind hs
                                          refine zr_il X e640 dL_law_640 ?_
                                          refine tt_icmp_eq (tgt := 646) X dL_law_641 (by decide) (fun c641 => ?_) (fun c641 => ?_)
                                          · rw [if_pos c641] at hs
                                            refine tt_iinc (v := x15 + 1) X dL_law_646 rfl rfl (Nat.le_of_ble_eq_true rfl) ?_
                                            refine tt_goto (tgt := 595) X dL_law_649 (by decide) ?_
                                            refine tt_drop [0, 1, 2, 3, 4, 7, 8, 9, 10, 13, 14, 15] ?_
                                            exact t_595 x7 b8 x9 x10 b13 b14 (x15 + 1) nn w633.2 _ hnn hb hs
                                          · rw [if_neg c641] at hs
                                            refine tt_iconst (v := 0) X dL_law_644 (by decide) ?_
                                            exact lw_out X dL_law_645 hs hρ hnn
                                  refine tt_iload X dL_law_585 rfl ?_
                                  refine tt_icmp_eq (tgt := 592) X dL_law_587 (by decide) (fun c587 => ?_) (fun c587 => ?_)
                                  · rw [if_pos c587] at hs
                                    refine tt_iconst (v := 0) X dL_law_592 (by decide) ?_
                                    refine tt_istore X dL_law_593 (Nat.le_of_ble_eq_true rfl) ?_
                                    refine tt_drop [0, 1, 2, 3, 4, 7, 8, 9, 10, 13, 14, 15] ?_
                                    exact t_595 10000 x7 b8 x9 x10 b13 b14 0 nn h _ hnn hb hs
                                  · rw [if_neg c587] at hs
                                    refine tt_iconst (v := 0) X dL_law_590 (by decide) ?_
                                    exact lw_out X dL_law_591 hs hρ hnn
                                have t_554 : ∀ (x7 : Int32) (b8 : Nat) (x9 : Int32) (x10 : Int32) (x11 : Int32) (x12 : Int32) (b13 : Nat) (b14 : Nat) (x15 : Int32) (nn : Nat) (h : tt_H) (ad : Nat → Nat), nn ≤ 100000 → ad 1000000 = b → s_L_law_J554 Ls xs (s_L_law_L382 Ls xs (s_L_law_J652 Ls xs (s_L_law_L244 Ls xs (s_L_law_L157 Ls xs n157) n244)) n382) x7 b8 x9 x10 x11 x12 b13 b14 x15 nn h = some ρ → tt_T tt_cl (lw_K p l e s m below meth c b D ca) ad nn (5000 + 24 * nn) 554 [(0, .ref 1000000), (1, .ref 0), (2, .ref 49), (3, .ref 50), (4, .ref 51), (7, .int x7), (8, .ref b8), (9, .int x9), (10, .int x10), (11, .int x11), (12, .int x12), (13, .ref b13), (14, .ref b14), (15, .int x15)] [] h := by
                                  intro x7 b8 x9 x10 x11 x12 b13 b14 x15 nn h ad hnn hb hs
                                  unfold s_L_law_J554 at hs
                                  refine tt_iinc (v := x15 + 1) X dL_law_554 rfl rfl (Nat.le_of_ble_eq_true rfl) ?_
                                  refine tt_goto (tgt := 382) X dL_law_557 (by decide) ?_
                                  refine tt_drop [0, 1, 2, 3, 4, 7, 8, 9, 10, 11, 12, 13, 14, 15] ?_
                                  exact t_382 x7 b8 x9 x10 x11 x12 b13 b14 (x15 + 1) nn h _ hnn hb hs
                                have t_444 : ∀ (fu : Nat) (x7 : Int32) (b8 : Nat) (x9 : Int32) (x10 : Int32) (x11 : Int32) (x12 : Int32) (b13 : Nat) (b14 : Nat) (x15 : Int32) (x16 : Int32) (x17 : Int32) (nn : Nat) (h : tt_H) (ad : Nat → Nat), nn ≤ 100000 → ad 1000000 = b → s_L_law_L444 Ls xs (s_L_law_J554 Ls xs (s_L_law_L382 Ls xs (s_L_law_J652 Ls xs (s_L_law_L244 Ls xs (s_L_law_L157 Ls xs n157) n244)) n382)) fu x7 b8 x9 x10 x11 x12 b13 b14 x15 x16 x17 nn h = some ρ → tt_T tt_cl (lw_K p l e s m below meth c b D ca) ad nn (5000 + 24 * nn) 444 [(0, .ref 1000000), (1, .ref 0), (2, .ref 49), (3, .ref 50), (4, .ref 51), (7, .int x7), (8, .ref b8), (9, .int x9), (10, .int x10), (11, .int x11), (12, .int x12), (13, .ref b13), (14, .ref b14), (15, .int x15), (16, .int x16), (17, .int x17)] [] h := by
                                  intro fu
                                  induction fu with
                                  | zero => intro x7 b8 x9 x10 x11 x12 b13 b14 x15 x16 x17 nn h ad hnn hb hs; exact absurd hs (by rw [s_L_law_L444]; exact fun q => by cases q)
                                  | succ n444 ih =>
                                    intro x7 b8 x9 x10 x11 x12 b13 b14 x15 x16 x17 nn h ad hnn hb hs
                                    rw [s_L_law_L444] at hs
                                    have t_444 := ih
                                    have t_548 : ∀ (x7 : Int32) (b8 : Nat) (x9 : Int32) (x10 : Int32) (x11 : Int32) (x12 : Int32) (b13 : Nat) (b14 : Nat) (x15 : Int32) (x16 : Int32) (x17 : Int32) (nn : Nat) (h : tt_H) (ad : Nat → Nat), nn ≤ 100000 → ad 1000000 = b → s_L_law_J548 Ls xs (s_L_law_L444 Ls xs (s_L_law_J554 Ls xs (s_L_law_L382 Ls xs (s_L_law_J652 Ls xs (s_L_law_L244 Ls xs (s_L_law_L157 Ls xs n157) n244)) n382)) n444) x7 b8 x9 x10 x11 x12 b13 b14 x15 x16 x17 nn h = some ρ → tt_T tt_cl (lw_K p l e s m below meth c b D ca) ad nn (5000 + 24 * nn) 548 [(0, .ref 1000000), (1, .ref 0), (2, .ref 49), (3, .ref 50), (4, .ref 51), (7, .int x7), (8, .ref b8), (9, .int x9), (10, .int x10), (11, .int x11), (12, .int x12), (13, .ref b13), (14, .ref b14), (15, .int x15), (16, .int x16), (17, .int x17)] [] h := by
                                      intro x7 b8 x9 x10 x11 x12 b13 b14 x15 x16 x17 nn h ad hnn hb hs
                                      unfold s_L_law_J548 at hs
                                      refine tt_iinc (v := x17 + 1) X dL_law_548 rfl rfl (Nat.le_of_ble_eq_true rfl) ?_
                                      refine tt_goto (tgt := 444) X dL_law_551 (by decide) ?_
                                      refine tt_drop [0, 1, 2, 3, 4, 7, 8, 9, 10, 11, 12, 13, 14, 15, 16, 17] ?_
                                      exact t_444 x7 b8 x9 x10 x11 x12 b13 b14 x15 x16 (x17 + 1) nn h _ hnn hb hs
                                    have t_500 : ∀ (x7 : Int32) (b8 : Nat) (x9 : Int32) (x10 : Int32) (x11 : Int32) (x12 : Int32) (b13 : Nat) (b14 : Nat) (x15 : Int32) (x16 : Int32) (x17 : Int32) (ub0 : Nat) (ux1 : Int32) (ux2 : Int32) (nn : Nat) (h : tt_H) (ad : Nat → Nat), nn ≤ 100000 → ad 1000000 = b → s_L_law_J500 Ls xs (s_L_law_J548 Ls xs (s_L_law_L444 Ls xs (s_L_law_J554 Ls xs (s_L_law_L382 Ls xs (s_L_law_J652 Ls xs (s_L_law_L244 Ls xs (s_L_law_L157 Ls xs n157) n244)) n382)) n444)) x7 b8 x9 x10 x11 x12 b13 b14 x15 x16 x17 ub0 ux1 ux2 nn h = some ρ → tt_T tt_cl (lw_K p l e s m below meth c b D ca) ad nn (5000 + 24 * nn) 500 [(0, .ref 1000000), (1, .ref 0), (2, .ref 49), (3, .ref 50), (4, .ref 51), (7, .int x7), (8, .ref b8), (9, .int x9), (10, .int x10), (11, .int x11), (12, .int x12), (13, .ref b13), (14, .ref b14), (15, .int x15), (16, .int x16), (17, .int x17)] [.int ux2, .int ux1, .ref ub0] h := by
                                      intro x7 b8 x9 x10 x11 x12 b13 b14 x15 x16 x17 ub0 ux1 ux2 nn h ad hnn hb hs
                                      unfold s_L_law_J500 at hs
                                      have t_525 : ∀ (x7 : Int32) (b8 : Nat) (x9 : Int32) (x10 : Int32) (x11 : Int32) (x12 : Int32) (b13 : Nat) (b14 : Nat) (x15 : Int32) (x16 : Int32) (x17 : Int32) (ub0 : Nat) (ux1 : Int32) (ux2 : Int32) (nn : Nat) (h : tt_H) (ad : Nat → Nat), nn ≤ 100000 → ad 1000000 = b → s_L_law_J525 Ls xs (s_L_law_J548 Ls xs (s_L_law_L444 Ls xs (s_L_law_J554 Ls xs (s_L_law_L382 Ls xs (s_L_law_J652 Ls xs (s_L_law_L244 Ls xs (s_L_law_L157 Ls xs n157) n244)) n382)) n444)) x7 b8 x9 x10 x11 x12 b13 b14 x15 x16 x17 ub0 ux1 ux2 nn h = some ρ → tt_T tt_cl (lw_K p l e s m below meth c b D ca) ad nn (5000 + 24 * nn) 525 [(0, .ref 1000000), (1, .ref 0), (2, .ref 49), (3, .ref 50), (4, .ref 51), (7, .int x7), (8, .ref b8), (9, .int x9), (10, .int x10), (11, .int x11), (12, .int x12), (13, .ref b13), (14, .ref b14), (15, .int x15), (16, .int x16), (17, .int x17)] [.int ux2, .int ux1, .ref ub0] h := by
                                        intro x7 b8 x9 x10 x11 x12 b13 b14 x15 x16 x17 ub0 ux1 ux2 nn h ad hnn hb hs
                                        unfold s_L_law_J525 at hs
                                        have t_545 : ∀ (x7 : Int32) (b8 : Nat) (x9 : Int32) (x10 : Int32) (x11 : Int32) (x12 : Int32) (b13 : Nat) (b14 : Nat) (x15 : Int32) (x16 : Int32) (x17 : Int32) (nn : Nat) (h : tt_H) (ad : Nat → Nat), nn ≤ 100000 → ad 1000000 = b → s_L_law_J545 Ls xs (s_L_law_J548 Ls xs (s_L_law_L444 Ls xs (s_L_law_J554 Ls xs (s_L_law_L382 Ls xs (s_L_law_J652 Ls xs (s_L_law_L244 Ls xs (s_L_law_L157 Ls xs n157) n244)) n382)) n444)) x7 b8 x9 x10 x11 x12 b13 b14 x15 x16 x17 nn h = some ρ → tt_T tt_cl (lw_K p l e s m below meth c b D ca) ad nn (5000 + 24 * nn) 545 [(0, .ref 1000000), (1, .ref 0), (2, .ref 49), (3, .ref 50), (4, .ref 51), (7, .int x7), (8, .ref b8), (9, .int x9), (10, .int x10), (11, .int x11), (12, .int x12), (13, .ref b13), (14, .ref b14), (15, .int x15), (16, .int x16), (17, .int x17)] [] h := by
                                          intro x7 b8 x9 x10 x11 x12 b13 b14 x15 x16 x17 nn h ad hnn hb hs
                                          unfold s_L_law_J545 at hs
                                          refine tt_iinc (v := x16 + 1) X dL_law_545 rfl rfl (Nat.le_of_ble_eq_true rfl) ?_
                                          refine tt_drop [0, 1, 2, 3, 4, 7, 8, 9, 10, 11, 12, 13, 14, 15, 16, 17] ?_
                                          exact t_548 x7 b8 x9 x10 x11 x12 b13 b14 x15 (x16 + 1) x17 nn h _ hnn hb hs
                                        obtain ⟨h525, e525, hs⟩ := gg_bind hs
                                        refine zr_is X e525 dL_law_525 ?_
                                        refine tt_iload X dL_law_526 rfl ?_
                                        refine tt_iload X dL_law_528 rfl ?_
                                        refine tt_icmp_ne (tgt := 545) X dL_law_530 (by decide) (fun c530 => ?_) (fun c530 => ?_)
                                        · rw [if_neg c530] at hs
                                          refine tt_drop [0, 1, 2, 3, 4, 7, 8, 9, 10, 11, 12, 13, 14, 15, 16, 17] ?_
                                          exact t_545 x7 b8 x9 x10 x11 x12 b13 b14 x15 x16 x17 nn h525 _ hnn hb hs
                                        · rw [if_pos c530] at hs
                                          refine tt_aload X dL_law_533 rfl ?_
                                          refine tt_iload X dL_law_535 rfl ?_
                                          refine tt_dup2 X dL_law_537 rfl rfl ?_
                                          obtain ⟨z538, e538, hs⟩ := gg_bind hs
                                          refine zr_il X e538 dL_law_538 ?_
                                          refine tt_iconst (v := 1) X dL_law_539 (by decide) ?_
                                          refine tt_iload X dL_law_540 rfl ?_
                                          refine tt_ishl X dL_law_542 ?_
                                          refine tt_ior X dL_law_543 ?_
                                          obtain ⟨h544, e544, hs⟩ := gg_bind hs
                                          refine zr_is X e544 dL_law_544 ?_
                                          refine tt_drop [0, 1, 2, 3, 4, 7, 8, 9, 10, 11, 12, 13, 14, 15, 16, 17] ?_
                                          exact t_545 x7 b8 x9 x10 x11 x12 b13 b14 x15 x16 x17 nn h544 _ hnn hb hs
                                      obtain ⟨h500, e500, hs⟩ := gg_bind hs
                                      refine zr_is X e500 dL_law_500 ?_
                                      refine tt_aload X dL_law_501 rfl ?_
                                      refine tt_iload X dL_law_503 rfl ?_
                                      refine tt_iload X dL_law_505 rfl ?_
                                      refine tt_aload X dL_law_507 rfl ?_
                                      refine tt_iload X dL_law_509 rfl ?_
                                      obtain ⟨z511, e511, hs⟩ := gg_bind hs
                                      refine zr_il X e511 dL_law_511 ?_
                                      refine tt_icmp_le (tgt := 520) X dL_law_512 (by decide) (fun c512 => ?_) (fun c512 => ?_)
                                      · rw [if_pos c512] at hs
                                        refine tt_aload X dL_law_520 rfl ?_
                                        refine tt_iload X dL_law_522 rfl ?_
                                        obtain ⟨z524, e524, hs⟩ := gg_bind hs
                                        refine zr_il X e524 dL_law_524 ?_
                                        refine tt_drop [0, 1, 2, 3, 4, 7, 8, 9, 10, 11, 12, 13, 14, 15, 16, 17] ?_
                                        exact t_525 x7 b8 x9 x10 x11 x12 b13 b14 x15 x16 x17 b14 x16 z524 nn h500 _ hnn hb hs
                                      · rw [if_neg c512] at hs
                                        refine tt_iload X dL_law_515 rfl ?_
                                        refine tt_goto (tgt := 525) X dL_law_517 (by decide) ?_
                                        refine tt_drop [0, 1, 2, 3, 4, 7, 8, 9, 10, 11, 12, 13, 14, 15, 16, 17] ?_
                                        exact t_525 x7 b8 x9 x10 x11 x12 b13 b14 x15 x16 x17 b14 x16 x17 nn h500 _ hnn hb hs
                                    have t_490 : ∀ (x7 : Int32) (b8 : Nat) (x9 : Int32) (x10 : Int32) (x11 : Int32) (x12 : Int32) (b13 : Nat) (b14 : Nat) (x15 : Int32) (x16 : Int32) (x17 : Int32) (ub0 : Nat) (ux1 : Int32) (nn : Nat) (h : tt_H) (ad : Nat → Nat), nn ≤ 100000 → ad 1000000 = b → s_L_law_J490 Ls xs (s_L_law_J500 Ls xs (s_L_law_J548 Ls xs (s_L_law_L444 Ls xs (s_L_law_J554 Ls xs (s_L_law_L382 Ls xs (s_L_law_J652 Ls xs (s_L_law_L244 Ls xs (s_L_law_L157 Ls xs n157) n244)) n382)) n444))) x7 b8 x9 x10 x11 x12 b13 b14 x15 x16 x17 ub0 ux1 nn h = some ρ → tt_T tt_cl (lw_K p l e s m below meth c b D ca) ad nn (5000 + 24 * nn) 490 [(0, .ref 1000000), (1, .ref 0), (2, .ref 49), (3, .ref 50), (4, .ref 51), (7, .int x7), (8, .ref b8), (9, .int x9), (10, .int x10), (11, .int x11), (12, .int x12), (13, .ref b13), (14, .ref b14), (15, .int x15), (16, .int x16), (17, .int x17)] [.int ux1, .ref ub0] h := by
                                      intro x7 b8 x9 x10 x11 x12 b13 b14 x15 x16 x17 ub0 ux1 nn h ad hnn hb hs
                                      unfold s_L_law_J490 at hs
                                      refine tt_iload X dL_law_490 rfl ?_
                                      refine tt_goto (tgt := 500) X dL_law_492 (by decide) ?_
                                      refine tt_drop [0, 1, 2, 3, 4, 7, 8, 9, 10, 11, 12, 13, 14, 15, 16, 17] ?_
                                      exact t_500 x7 b8 x9 x10 x11 x12 b13 b14 x15 x16 x17 ub0 ux1 x17 nn h _ hnn hb hs
                                    refine tt_iload X dL_law_444 rfl ?_
                                    refine tt_aload_n X dL_law_446 rfl ?_
                                    refine tt_iconst (v := 1) X dL_law_447 (by decide) ?_
                                    refine tt_iload X dL_law_448 rfl ?_
                                    refine tt_iadd X dL_law_450 ?_
                                    obtain ⟨z451, e451, hs⟩ := gg_bind hs
                                    refine zr_il X e451 dL_law_451 ?_
                                    refine tt_icmp_ge (tgt := 554) X dL_law_452 (by decide) (fun c452 => ?_) (fun c452 => ?_)
                                    · rw [if_pos c452] at hs
                                      refine tt_drop [0, 1, 2, 3, 4, 7, 8, 9, 10, 11, 12, 13, 14, 15] ?_
                                      exact t_554 x7 b8 x9 x10 x11 x12 b13 b14 x15 nn h _ hnn hb hs
                                    · rw [if_neg c452] at hs
                                      refine tt_iload X dL_law_455 rfl ?_
                                      refine tt_iload X dL_law_457 rfl ?_
                                      refine tt_ishr X dL_law_459 ?_
                                      refine tt_iconst (v := 1) X dL_law_460 (by decide) ?_
                                      refine tt_iand X dL_law_461 ?_
                                      refine tt_if_ne (tgt := 468) X dL_law_462 (by decide) (fun c462 => ?_) (fun c462 => ?_)
                                      · rw [if_neg c462] at hs
                                        refine tt_aload X dL_law_468 rfl ?_
                                        refine tt_iload X dL_law_470 rfl ?_
                                        refine tt_aload X dL_law_472 rfl ?_
                                        refine tt_iload X dL_law_474 rfl ?_
                                        obtain ⟨z476, e476, hs⟩ := gg_bind hs
                                        refine zr_il X e476 dL_law_476 ?_
                                        refine tt_if_lt (tgt := 490) X dL_law_477 (by decide) (fun c477 => ?_) (fun c477 => ?_)
                                        · rw [if_pos c477] at hs
                                          refine tt_drop [0, 1, 2, 3, 4, 7, 8, 9, 10, 11, 12, 13, 14, 15, 16, 17] ?_
                                          exact t_490 x7 b8 x9 x10 x11 x12 b13 b14 x15 x16 x17 b13 x16 nn h _ hnn hb hs
                                        · rw [if_neg c477] at hs
                                          refine tt_iload X dL_law_480 rfl ?_
                                          refine tt_aload X dL_law_482 rfl ?_
                                          refine tt_iload X dL_law_484 rfl ?_
                                          obtain ⟨z486, e486, hs⟩ := gg_bind hs
                                          refine zr_il X e486 dL_law_486 ?_
                                          refine tt_icmp_ge (tgt := 495) X dL_law_487 (by decide) (fun c487 => ?_) (fun c487 => ?_)
                                          · rw [if_pos c487] at hs
                                            refine tt_aload X dL_law_495 rfl ?_
                                            refine tt_iload X dL_law_497 rfl ?_
                                            obtain ⟨z499, e499, hs⟩ := gg_bind hs
                                            refine zr_il X e499 dL_law_499 ?_
                                            refine tt_drop [0, 1, 2, 3, 4, 7, 8, 9, 10, 11, 12, 13, 14, 15, 16, 17] ?_
                                            exact t_500 x7 b8 x9 x10 x11 x12 b13 b14 x15 x16 x17 b13 x16 z499 nn h _ hnn hb hs
                                          · rw [if_neg c487] at hs
                                            refine tt_drop [0, 1, 2, 3, 4, 7, 8, 9, 10, 11, 12, 13, 14, 15, 16, 17] ?_
                                            exact t_490 x7 b8 x9 x10 x11 x12 b13 b14 x15 x16 x17 b13 x16 nn h _ hnn hb hs
                                      · rw [if_pos c462] at hs
                                        refine tt_goto (tgt := 548) X dL_law_465 (by decide) ?_
                                        refine tt_drop [0, 1, 2, 3, 4, 7, 8, 9, 10, 11, 12, 13, 14, 15, 16, 17] ?_
                                        exact t_548 x7 b8 x9 x10 x11 x12 b13 b14 x15 x16 x17 nn h _ hnn hb hs
                                refine tt_iload X dL_law_382 rfl ?_
                                refine tt_iconst (v := 1) X dL_law_384 (by decide) ?_
                                refine tt_aload_n X dL_law_385 rfl ?_
                                refine tt_iconst (v := 1) X dL_law_386 (by decide) ?_
                                refine tt_iload X dL_law_387 rfl ?_
                                refine tt_iadd X dL_law_389 ?_
                                obtain ⟨z390, e390, hs⟩ := gg_bind hs
                                refine zr_il X e390 dL_law_390 ?_
                                refine tt_ishl X dL_law_391 ?_
                                refine tt_icmp_ge (tgt := 560) X dL_law_392 (by decide) (fun c392 => ?_) (fun c392 => ?_)
                                · rw [if_pos c392] at hs
                                  refine tt_aload_n X dL_law_560 rfl ?_
                                  refine tt_iload X dL_law_561 rfl ?_
                                  refine tt_iload X dL_law_563 rfl ?_
                                  obtain ⟨o565, f565, hs⟩ := gg_bind hs
                                  obtain ⟨w565, e565, hs⟩ := gg_bind hs
                                  refine zr_callV X f565 rfl (c_X8_ways l e565) (fun hts => cwV 2 hts gL_law_X8_ways rfl rfl rfl (by decide +kernel) ⟨Nat.le_of_ble_eq_true rfl, Nat.le_of_ble_eq_true rfl⟩) rfl rfl (Nat.le_of_ble_eq_true rfl) dL_law_565 (lw_room hnn) ?_
                                  refine tt_iload X dL_law_568 rfl ?_
                                  refine tt_i2l X dL_law_570 ?_
                                  refine tt_lcmp X dL_law_571 ?_
                                  refine tt_if_ne (tgt := 590) X dL_law_572 (by decide) (fun c572 => ?_) (fun c572 => ?_)
                                  · rw [if_neg c572] at hs
                                    refine tt_iconst (v := 0) X dL_law_590 (by decide) ?_
                                    exact lw_out X dL_law_591 hs hρ hnn
                                  · rw [if_pos c572] at hs
                                    refine tt_iload X dL_law_575 rfl ?_
                                    refine tt_if_le (tgt := 584) X dL_law_577 (by decide) (fun c577 => ?_) (fun c577 => ?_)
                                    · rw [if_pos c577] at hs
                                      refine tt_iconst (v := 0) X dL_law_584 (by decide) ?_
                                      refine tt_drop [0, 1, 2, 3, 4, 7, 8, 9, 10, 11, 13, 14] ?_
                                      exact t_585 x7 b8 x9 x10 x11 b13 b14 0 nn w565.2 _ hnn hb hs
                                    · rw [if_neg c577] at hs
                                      refine tt_iconst (v := 1) X dL_law_580 (by decide) ?_
                                      refine tt_goto (tgt := 585) X dL_law_581 (by decide) ?_
                                      refine tt_drop [0, 1, 2, 3, 4, 7, 8, 9, 10, 11, 13, 14] ?_
                                      exact t_585 x7 b8 x9 x10 x11 b13 b14 1 nn w565.2 _ hnn hb hs
                                · rw [if_neg c392] at hs
                                  refine tt_iload X dL_law_395 rfl ?_
                                  obtain ⟨w397, e397, hs⟩ := gg_bind hs
                                  refine zr_callS X (c_L_size l e397) (fun hts => va_cwS 1 hts gL_law_L_size rfl rfl rfl (by decide +kernel) ⟨Nat.le_of_ble_eq_true rfl, Nat.le_of_ble_eq_true rfl⟩) rfl rfl (Nat.le_of_ble_eq_true rfl) dL_law_397 (lw_room hnn) ?_
                                  refine tt_aload_n X dL_law_400 rfl ?_
                                  refine tt_iconst (v := 1) X dL_law_401 (by decide) ?_
                                  refine tt_iload X dL_law_402 rfl ?_
                                  refine tt_iadd X dL_law_404 ?_
                                  obtain ⟨z405, e405, hs⟩ := gg_bind hs
                                  refine zr_il X e405 dL_law_405 ?_
                                  refine tt_icmp_ne (tgt := 554) X dL_law_406 (by decide) (fun c406 => ?_) (fun c406 => ?_)
                                  · rw [if_neg c406] at hs
                                    refine tt_drop [0, 1, 2, 3, 4, 7, 8, 9, 10, 11, 12, 13, 14, 15] ?_
                                    exact t_554 x7 b8 x9 x10 x11 x12 b13 b14 x15 nn w397.2 _ hnn hb hs
                                  · rw [if_pos c406] at hs
                                    refine tt_aload_n X dL_law_409 rfl ?_
                                    refine tt_iload X dL_law_410 rfl ?_
                                    obtain ⟨z412, e412, hs⟩ := gg_bind hs
                                    refine zr_jl X e412 dL_law_412 ?_
                                    refine tt_aload_n X dL_law_413 rfl ?_
                                    refine tt_iconst (v := 1) X dL_law_414 (by decide) ?_
                                    refine tt_iload X dL_law_415 rfl ?_
                                    refine tt_iadd X dL_law_417 ?_
                                    obtain ⟨z418, e418, hs⟩ := gg_bind hs
                                    refine zr_il X e418 dL_law_418 ?_
                                    refine tt_iload X dL_law_419 rfl ?_
                                    obtain ⟨w421, e421, hs⟩ := gg_bind hs
                                    refine zr_callS X (c_L_part l e421) (fun hts => va_cwS 3 hts gL_law_L_part rfl rfl rfl (by decide +kernel) ⟨Nat.le_of_ble_eq_true rfl, Nat.le_of_ble_eq_true rfl⟩) rfl rfl (Nat.le_of_ble_eq_true rfl) dL_law_421 (lw_room hnn) ?_
                                    refine tt_aload_n X dL_law_424 rfl ?_
                                    refine tt_iload X dL_law_425 rfl ?_
                                    obtain ⟨z427, e427, hs⟩ := gg_bind hs
                                    refine zr_jl X e427 dL_law_427 ?_
                                    refine tt_lcmp X dL_law_428 ?_
                                    refine tt_if_eq (tgt := 435) X dL_law_429 (by decide) (fun c429 => ?_) (fun c429 => ?_)
                                    · rw [if_pos c429] at hs
                                      refine tt_iinc (v := x12 + 1) X dL_law_435 rfl rfl (Nat.le_of_ble_eq_true rfl) ?_
                                      refine tt_iconst (v := 0) X dL_law_438 (by decide) ?_
                                      refine tt_istore X dL_law_439 (Nat.le_of_ble_eq_true rfl) ?_
                                      refine tt_iconst (v := 0) X dL_law_441 (by decide) ?_
                                      refine tt_istore X dL_law_442 (Nat.le_of_ble_eq_true rfl) ?_
                                      refine tt_drop [0, 1, 2, 3, 4, 7, 8, 9, 10, 11, 12, 13, 14, 15, 16, 17] ?_
                                      exact t_444 10000 x7 b8 x9 x10 x11 (x12 + 1) b13 b14 x15 0 0 nn w421.2 _ hnn hb hs
                                    · rw [if_neg c429] at hs
                                      refine tt_goto (tgt := 554) X dL_law_432 (by decide) ?_
                                      refine tt_drop [0, 1, 2, 3, 4, 7, 8, 9, 10, 11, 12, 13, 14, 15] ?_
                                      exact t_554 x7 b8 x9 x10 x11 x12 b13 b14 x15 nn w421.2 _ hnn hb hs
                            refine tt_iload X dL_law_352 rfl ?_
                            refine tt_bipush (v := 12) X dL_law_354 (by decide) ?_
                            refine tt_icmp_ge (tgt := 379) X dL_law_356 (by decide) (fun c356 => ?_) (fun c356 => ?_)
                            · rw [if_pos c356] at hs
                              refine tt_iconst (v := 0) X dL_law_379 (by decide) ?_
                              refine tt_istore X dL_law_380 (Nat.le_of_ble_eq_true rfl) ?_
                              refine tt_drop [0, 1, 2, 3, 4, 7, 8, 9, 10, 11, 12, 13, 14, 15] ?_
                              exact t_382 10000 x7 b8 x9 x10 x11 x12 b13 b14 0 nn h _ hnn hb hs
                            · rw [if_neg c356] at hs
                              refine tt_aload X dL_law_359 rfl ?_
                              refine tt_iload X dL_law_361 rfl ?_
                              refine tt_bipush (v := (-9)) X dL_law_363 (by decide) ?_
                              obtain ⟨h365, e365, hs⟩ := gg_bind hs
                              refine zr_is X e365 dL_law_365 ?_
                              refine tt_aload X dL_law_366 rfl ?_
                              refine tt_iload X dL_law_368 rfl ?_
                              refine tt_bipush (v := (-9)) X dL_law_370 (by decide) ?_
                              obtain ⟨h372, e372, hs⟩ := gg_bind hs
                              refine zr_is X e372 dL_law_372 ?_
                              refine tt_iinc (v := x15 + 1) X dL_law_373 rfl rfl (Nat.le_of_ble_eq_true rfl) ?_
                              refine tt_goto (tgt := 352) X dL_law_376 (by decide) ?_
                              refine tt_drop [0, 1, 2, 3, 4, 7, 8, 9, 10, 11, 12, 13, 14, 15] ?_
                              exact t_352 x7 b8 x9 x10 x11 x12 b13 b14 (x15 + 1) nn h372 _ hnn hb hs
                        refine tt_iconst (v := 0) X dL_law_334 (by decide) ?_
                        refine tt_istore X dL_law_335 (Nat.le_of_ble_eq_true rfl) ?_
                        refine tt_bipush (v := 12) X dL_law_337 (by decide) ?_
                        obtain ⟨q339, e339, hs⟩ := gg_bind hs
                        obtain ⟨hw339, ho339, hlt339, hrf339⟩ := gg_new_ok e339
                        refine al_newa (n := nn) (ty := .int) X hw339 ho339 (by omega) (by exact (List.forall_mem_cons.mpr ⟨hrf339.1, (List.forall_mem_cons.mpr ⟨hrf339.2.1, (List.forall_mem_cons.mpr ⟨hrf339.2.2.1, (List.forall_mem_cons.mpr ⟨hrf339.2.2.2.1, (List.forall_mem_cons.mpr ⟨hrf339.2.2.2.2.1, (List.forall_mem_cons.mpr ⟨trivial, (List.forall_mem_cons.mpr ⟨hrf339.2.2.2.2.2.1, (List.forall_mem_cons.mpr ⟨trivial, (List.forall_mem_cons.mpr ⟨trivial, (List.forall_mem_cons.mpr ⟨trivial, (List.forall_mem_cons.mpr ⟨trivial, (fun _ hz => absurd hz List.not_mem_nil)⟩)⟩)⟩)⟩)⟩)⟩)⟩)⟩)⟩)⟩)⟩)) (by exact (fun _ hz => absurd hz List.not_mem_nil)) 0 rfl (fun _ _ z => z) (by decide +kernel) rfl (N := 12) (a0 := (12, .inl (fun _ => 0))) (fun _ => rfl) trivial (fun _ => rfl) (by decide) (by decide) (Nat.le_of_ble_eq_true rfl) (by show _ ≤ 600000; omega) (by show _ ≤ 7302250; omega) dL_law_339 (fun q339 => ?_)
                        have hn339 : nn + 1 ≤ 100000 := hlt339
                        have hb339 : va_up ad (nn) q339 1000000 = b := by rw [va_up_ne _ _ (by omega)]; exact hb
                        refine tt_widen (k := nn + 1) (n := 5000 + 24 * (nn + 1)) (by omega) (by omega) ?_
                        refine tt_astore X dL_law_341 (Nat.le_of_ble_eq_true rfl) ?_
                        refine tt_bipush (v := 12) X dL_law_343 (by decide) ?_
                        obtain ⟨q345, e345, hs⟩ := gg_bind hs
                        obtain ⟨hw345, ho345, hlt345, hrf345⟩ := gg_new_ok e345
                        refine al_newa (n := nn + 1) (ty := .int) X hw345 ho345 (by omega) (by exact (List.forall_mem_cons.mpr ⟨hrf345.1, (List.forall_mem_cons.mpr ⟨hrf345.2.1, (List.forall_mem_cons.mpr ⟨hrf345.2.2.1, (List.forall_mem_cons.mpr ⟨hrf345.2.2.2.1, (List.forall_mem_cons.mpr ⟨hrf345.2.2.2.2.1, (List.forall_mem_cons.mpr ⟨trivial, (List.forall_mem_cons.mpr ⟨hrf345.2.2.2.2.2.1, (List.forall_mem_cons.mpr ⟨trivial, (List.forall_mem_cons.mpr ⟨trivial, (List.forall_mem_cons.mpr ⟨trivial, (List.forall_mem_cons.mpr ⟨trivial, (List.forall_mem_cons.mpr ⟨hrf345.2.2.2.2.2.2.1, (fun _ hz => absurd hz List.not_mem_nil)⟩)⟩)⟩)⟩)⟩)⟩)⟩)⟩)⟩)⟩)⟩)⟩)) (by exact (fun _ hz => absurd hz List.not_mem_nil)) 0 rfl (fun _ _ z => z) (by decide +kernel) rfl (N := 12) (a0 := (12, .inl (fun _ => 0))) (fun _ => rfl) trivial (fun _ => rfl) (by decide) (by decide) (Nat.le_of_ble_eq_true rfl) (by show _ ≤ 600000; omega) (by show _ ≤ 7302250; omega) dL_law_345 (fun q345 => ?_)
                        have hn345 : nn + 1 + 1 ≤ 100000 := hlt345
                        have hb345 : va_up (va_up ad (nn) q339) (nn + 1) q345 1000000 = b := by rw [va_up_ne _ _ (by omega)]; exact hb339
                        refine tt_widen (k := nn + 1 + 1) (n := 5000 + 24 * (nn + 1 + 1)) (by omega) (by omega) ?_
                        refine tt_astore X dL_law_347 (Nat.le_of_ble_eq_true rfl) ?_
                        refine tt_iconst (v := 0) X dL_law_349 (by decide) ?_
                        refine tt_istore X dL_law_350 (Nat.le_of_ble_eq_true rfl) ?_
                        refine tt_drop [0, 1, 2, 3, 4, 7, 8, 9, 10, 11, 12, 13, 14, 15] ?_
                        exact t_352 10000 x7 b8 x9 x10 x11 0 nn (nn + 1) 0 (nn + 1 + 1) (va_up (va_up h nn (some (tt_ia 12 (fun _ => 0)))) (nn + 1) (some (tt_ia 12 (fun _ => 0)))) _ hn345 hb345 hs
                      refine tt_icmp_eq (tgt := 300) X dL_law_295 (by decide) (fun c295 => ?_) (fun c295 => ?_)
                      · rw [if_pos c295] at hs
                        refine tt_iload X dL_law_300 rfl ?_
                        refine tt_iload X dL_law_302 rfl ?_
                        refine tt_icmp_eq (tgt := 334) X dL_law_304 (by decide) (fun c304 => ?_) (fun c304 => ?_)
                        · rw [if_pos c304] at hs
                          refine tt_drop [0, 1, 2, 3, 4, 7, 8, 9, 10, 11] ?_
                          exact t_334 x7 b8 x9 x10 x11 nn h _ hnn hb hs
                        · rw [if_neg c304] at hs
                          refine tt_iload X dL_law_307 rfl ?_
                          refine tt_iload X dL_law_309 rfl ?_
                          refine tt_icmp_eq (tgt := 334) X dL_law_311 (by decide) (fun c311 => ?_) (fun c311 => ?_)
                          · rw [if_pos c311] at hs
                            refine tt_drop [0, 1, 2, 3, 4, 7, 8, 9, 10, 11] ?_
                            exact t_334 x7 b8 x9 x10 x11 nn h _ hnn hb hs
                          · rw [if_neg c311] at hs
                            refine tt_iload X dL_law_314 rfl ?_
                            refine tt_iload X dL_law_316 rfl ?_
                            refine tt_iadd X dL_law_318 ?_
                            refine tt_iconst (v := 2) X dL_law_319 (by decide) ?_
                            obtain ⟨q320, e320, hs⟩ := gg_bind hs
                            refine tt_irem X dL_law_320 (zr_nz e320) ?_
                            refine tt_if_ne (tgt := 334) X dL_law_321 (by decide) (fun c321 => ?_) (fun c321 => ?_)
                            · rw [if_neg c321] at hs
                              refine tt_drop [0, 1, 2, 3, 4, 7, 8, 9, 10, 11] ?_
                              exact t_334 x7 b8 x9 x10 x11 nn h _ hnn hb hs
                            · rw [if_pos c321] at hs
                              refine tt_iload X dL_law_324 rfl ?_
                              refine tt_iload X dL_law_326 rfl ?_
                              refine tt_icmp_eq (tgt := 334) X dL_law_328 (by decide) (fun c328 => ?_) (fun c328 => ?_)
                              · rw [if_pos c328] at hs
                                refine tt_drop [0, 1, 2, 3, 4, 7, 8, 9, 10, 11] ?_
                                exact t_334 x7 b8 x9 x10 x11 nn h _ hnn hb hs
                              · rw [if_neg c328] at hs
                                refine tt_goto (tgt := 652) X dL_law_331 (by decide) ?_
                                refine tt_drop [0, 1, 2, 3, 4, 7, 8, 9, 10] ?_
                                exact t_652 x7 b8 x9 x10 nn h _ hnn hb hs
                      · rw [if_neg c295] at hs
                        refine tt_iconst (v := 0) X dL_law_298 (by decide) ?_
                        exact lw_out X dL_law_299 hs hρ hnn
                    refine tt_iload X dL_law_244 rfl ?_
                    refine tt_aload_n X dL_law_246 rfl ?_
                    refine tt_iconst (v := 0) X dL_law_247 (by decide) ?_
                    obtain ⟨z248, e248, hs⟩ := gg_bind hs
                    refine zr_il X e248 dL_law_248 ?_
                    refine tt_icmp_ge (tgt := 658) X dL_law_249 (by decide) (fun c249 => ?_) (fun c249 => ?_)
                    · rw [if_pos c249] at hs
                      refine tt_iinc (v := x9 + 1) X dL_law_658 rfl rfl (Nat.le_of_ble_eq_true rfl) ?_
                      refine tt_goto (tgt := 157) X dL_law_661 (by decide) ?_
                      refine tt_drop [0, 1, 2, 3, 4, 7, 8, 9] ?_
                      exact t_157 x7 b8 (x9 + 1) nn h _ hnn hb hs
                    · rw [if_neg c249] at hs
                      refine tt_aload_n X dL_law_252 rfl ?_
                      refine tt_iload X dL_law_253 rfl ?_
                      obtain ⟨z255, e255, hs⟩ := gg_bind hs
                      refine zr_jl X e255 dL_law_255 ?_
                      refine tt_aload_n X dL_law_256 rfl ?_
                      refine tt_iconst (v := 1) X dL_law_257 (by decide) ?_
                      refine tt_iload X dL_law_258 rfl ?_
                      refine tt_iadd X dL_law_260 ?_
                      obtain ⟨z261, e261, hs⟩ := gg_bind hs
                      refine zr_il X e261 dL_law_261 ?_
                      refine tt_aload_n X dL_law_262 rfl ?_
                      refine tt_iload X dL_law_263 rfl ?_
                      obtain ⟨z265, e265, hs⟩ := gg_bind hs
                      refine zr_jl X e265 dL_law_265 ?_
                      refine tt_aload_n X dL_law_266 rfl ?_
                      refine tt_iconst (v := 1) X dL_law_267 (by decide) ?_
                      refine tt_iload X dL_law_268 rfl ?_
                      refine tt_iadd X dL_law_270 ?_
                      obtain ⟨z271, e271, hs⟩ := gg_bind hs
                      refine zr_il X e271 dL_law_271 ?_
                      obtain ⟨w272, e272, hs⟩ := gg_bind hs
                      refine zr_callS X (c_L_within l e272) (fun hts => va_cwS 4 hts gL_law_L_within rfl rfl rfl (by decide +kernel) ⟨Nat.le_of_ble_eq_true rfl, Nat.le_of_ble_eq_true rfl⟩) rfl rfl (Nat.le_of_ble_eq_true rfl) dL_law_272 (lw_room hnn) ?_
                      refine tt_istore X dL_law_275 (Nat.le_of_ble_eq_true rfl) ?_
                      refine tt_aload_n X dL_law_277 rfl ?_
                      refine tt_iload X dL_law_278 rfl ?_
                      refine tt_iload X dL_law_280 rfl ?_
                      obtain ⟨o282, f282, hs⟩ := gg_bind hs
                      obtain ⟨w282, e282, hs⟩ := gg_bind hs
                      refine zr_callV X f282 rfl (c_X8_within l e282) (fun hts => cwV 2 hts gL_law_X8_within rfl rfl rfl (by decide +kernel) ⟨Nat.le_of_ble_eq_true rfl, Nat.le_of_ble_eq_true rfl⟩) rfl rfl (Nat.le_of_ble_eq_true rfl) dL_law_282 (lw_room hnn) ?_
                      refine tt_iload X dL_law_285 rfl ?_
                      refine tt_if_eq (tgt := 294) X dL_law_287 (by decide) (fun c287 => ?_) (fun c287 => ?_)
                      · rw [if_pos c287] at hs
                        refine tt_iconst (v := 0) X dL_law_294 (by decide) ?_
                        refine tt_drop [0, 1, 2, 3, 4, 7, 8, 9, 10, 11] ?_
                        exact t_295 x7 b8 x9 x10 w272.1 w282.1 0 nn w282.2 _ hnn hb hs
                      · rw [if_neg c287] at hs
                        refine tt_iconst (v := 1) X dL_law_290 (by decide) ?_
                        refine tt_goto (tgt := 295) X dL_law_291 (by decide) ?_
                        refine tt_drop [0, 1, 2, 3, 4, 7, 8, 9, 10, 11] ?_
                        exact t_295 x7 b8 x9 x10 w272.1 w282.1 1 nn w282.2 _ hnn hb hs
                refine tt_iload X dL_law_202 rfl ?_
                refine tt_aload_n X dL_law_204 rfl ?_
                refine tt_iconst (v := 1) X dL_law_205 (by decide) ?_
                refine tt_iload X dL_law_206 rfl ?_
                refine tt_iadd X dL_law_208 ?_
                obtain ⟨z209, e209, hs⟩ := gg_bind hs
                refine zr_il X e209 dL_law_209 ?_
                refine tt_icmp_ge (tgt := 241) X dL_law_210 (by decide) (fun c210 => ?_) (fun c210 => ?_)
                · rw [if_pos c210] at hs
                  refine tt_iconst (v := 0) X dL_law_241 (by decide) ?_
                  refine tt_istore X dL_law_242 (Nat.le_of_ble_eq_true rfl) ?_
                  refine tt_drop [0, 1, 2, 3, 4, 7, 8, 9, 10] ?_
                  exact t_244 10000 x7 b8 x9 0 nn h _ hnn hb hs
                · rw [if_neg c210] at hs
                  refine tt_aload_n X dL_law_213 rfl ?_
                  refine tt_iload X dL_law_214 rfl ?_
                  refine tt_iload X dL_law_216 rfl ?_
                  obtain ⟨o218, f218, hs⟩ := gg_bind hs
                  obtain ⟨w218, e218, hs⟩ := gg_bind hs
                  refine zr_callV X f218 rfl (c_X8_ofDay l e218) (fun hts => cwV 2 hts gL_law_X8_ofDay rfl rfl rfl (by decide +kernel) ⟨Nat.le_of_ble_eq_true rfl, Nat.le_of_ble_eq_true rfl⟩) rfl rfl (Nat.le_of_ble_eq_true rfl) dL_law_218 (lw_room hnn) ?_
                  refine tt_aload_n X dL_law_221 rfl ?_
                  refine tt_iload X dL_law_222 rfl ?_
                  obtain ⟨z224, e224, hs⟩ := gg_bind hs
                  refine zr_jl X e224 dL_law_224 ?_
                  refine tt_iload X dL_law_225 rfl ?_
                  obtain ⟨w227, e227, hs⟩ := gg_bind hs
                  refine zr_callS X (c_L_word l e227) (fun hts => va_cwS 2 hts gL_law_L_word rfl rfl rfl (by decide +kernel) ⟨Nat.le_of_ble_eq_true rfl, Nat.le_of_ble_eq_true rfl⟩) rfl rfl (Nat.le_of_ble_eq_true rfl) dL_law_227 (lw_room hnn) ?_
                  refine tt_icmp_eq (tgt := 235) X dL_law_230 (by decide) (fun c230 => ?_) (fun c230 => ?_)
                  · rw [if_pos c230] at hs
                    refine tt_iinc (v := x10 + 1) X dL_law_235 rfl rfl (Nat.le_of_ble_eq_true rfl) ?_
                    refine tt_goto (tgt := 202) X dL_law_238 (by decide) ?_
                    refine tt_drop [0, 1, 2, 3, 4, 7, 8, 9, 10] ?_
                    exact t_202 x7 b8 x9 (x10 + 1) nn w227.2 _ hnn hb hs
                  · rw [if_neg c230] at hs
                    refine tt_iconst (v := 0) X dL_law_233 (by decide) ?_
                    exact lw_out X dL_law_234 hs hρ hnn
            refine tt_iload X dL_law_157 rfl ?_
            refine tt_aload_n X dL_law_159 rfl ?_
            refine tt_iconst (v := 0) X dL_law_160 (by decide) ?_
            obtain ⟨z161, e161, hs⟩ := gg_bind hs
            refine zr_il X e161 dL_law_161 ?_
            refine tt_icmp_ge (tgt := 664) X dL_law_162 (by decide) (fun c162 => ?_) (fun c162 => ?_)
            · rw [if_pos c162] at hs
              refine tt_iconst (v := 0) X dL_law_664 (by decide) ?_
              refine tt_istore X dL_law_665 (Nat.le_of_ble_eq_true rfl) ?_
              refine tt_drop [0, 1, 2, 3, 4, 7, 8, 9] ?_
              exact t_667 10000 x7 b8 0 nn h _ hnn hb hs
            · rw [if_neg c162] at hs
              refine tt_aload_n X dL_law_165 rfl ?_
              refine tt_iload X dL_law_166 rfl ?_
              refine tt_iconst (v := (-1)) X dL_law_168 (by decide) ?_
              obtain ⟨o169, f169, hs⟩ := gg_bind hs
              obtain ⟨w169, e169, hs⟩ := gg_bind hs
              refine zr_callV X f169 rfl (c_X8_ofDay l e169) (fun hts => cwV 2 hts gL_law_X8_ofDay rfl rfl rfl (by decide +kernel) ⟨Nat.le_of_ble_eq_true rfl, Nat.le_of_ble_eq_true rfl⟩) rfl rfl (Nat.le_of_ble_eq_true rfl) dL_law_169 (lw_room hnn) ?_
              refine tt_aload_n X dL_law_172 rfl ?_
              refine tt_iconst (v := 1) X dL_law_173 (by decide) ?_
              refine tt_iload X dL_law_174 rfl ?_
              refine tt_iadd X dL_law_176 ?_
              obtain ⟨z177, e177, hs⟩ := gg_bind hs
              refine zr_il X e177 dL_law_177 ?_
              refine tt_icmp_ne (tgt := 197) X dL_law_178 (by decide) (fun c178 => ?_) (fun c178 => ?_)
              · rw [if_neg c178] at hs
                refine tt_iconst (v := 0) X dL_law_197 (by decide) ?_
                exact lw_out X dL_law_198 hs hρ hnn
              · rw [if_pos c178] at hs
                refine tt_aload_n X dL_law_181 rfl ?_
                refine tt_iload X dL_law_182 rfl ?_
                refine tt_aload_n X dL_law_184 rfl ?_
                refine tt_iconst (v := 1) X dL_law_185 (by decide) ?_
                refine tt_iload X dL_law_186 rfl ?_
                refine tt_iadd X dL_law_188 ?_
                obtain ⟨z189, e189, hs⟩ := gg_bind hs
                refine zr_il X e189 dL_law_189 ?_
                obtain ⟨o190, f190, hs⟩ := gg_bind hs
                obtain ⟨w190, e190, hs⟩ := gg_bind hs
                refine zr_callV X f190 rfl (c_X8_ofDay l e190) (fun hts => cwV 2 hts gL_law_X8_ofDay rfl rfl rfl (by decide +kernel) ⟨Nat.le_of_ble_eq_true rfl, Nat.le_of_ble_eq_true rfl⟩) rfl rfl (Nat.le_of_ble_eq_true rfl) dL_law_190 (lw_room hnn) ?_
                refine tt_iconst (v := (-1)) X dL_law_193 (by decide) ?_
                refine tt_icmp_eq (tgt := 199) X dL_law_194 (by decide) (fun c194 => ?_) (fun c194 => ?_)
                · rw [if_pos c194] at hs
                  refine tt_iconst (v := 0) X dL_law_199 (by decide) ?_
                  refine tt_istore X dL_law_200 (Nat.le_of_ble_eq_true rfl) ?_
                  refine tt_drop [0, 1, 2, 3, 4, 7, 8, 9, 10] ?_
                  exact t_202 10000 x7 b8 x9 0 nn w190.2 _ hnn hb hs
                · rw [if_neg c194] at hs
                  refine tt_iconst (v := 0) X dL_law_197 (by decide) ?_
                  exact lw_out X dL_law_198 hs hρ hnn
        refine tt_aload_n X dL_law_130 rfl ?_
        obtain ⟨o131, f131, hs⟩ := gg_bind hs
        obtain ⟨w131, e131, hs⟩ := gg_bind hs
        refine zr_callV X f131 rfl (c_X8_leftOut l e131) (fun hts => cwV 0 hts gL_law_X8_leftOut rfl rfl rfl (by decide +kernel) ⟨Nat.le_of_ble_eq_true rfl, Nat.le_of_ble_eq_true rfl⟩) rfl rfl (Nat.le_of_ble_eq_true rfl) dL_law_131 (lw_room hnn) ?_
        refine tt_iload X dL_law_134 rfl ?_
        refine tt_icmp_eq (tgt := 141) X dL_law_136 (by decide) (fun c136 => ?_) (fun c136 => ?_)
        · rw [if_pos c136] at hs
          refine tt_aload_n X dL_law_141 rfl ?_
          refine tt_iconst (v := 0) X dL_law_142 (by decide) ?_
          obtain ⟨z143, e143, hs⟩ := gg_bind hs
          refine zr_il X e143 dL_law_143 ?_
          refine tt_iconst (v := 1) X dL_law_144 (by decide) ?_
          refine tt_isub X dL_law_145 ?_
          refine tt_istore X dL_law_146 (Nat.le_of_ble_eq_true rfl) ?_
          refine tt_bipush (v := 12) X dL_law_148 (by decide) ?_
          obtain ⟨q150, e150, hs⟩ := gg_bind hs
          obtain ⟨hw150, ho150, hlt150, hrf150⟩ := gg_new_ok e150
          refine al_newa (n := nn) (ty := .int) X hw150 ho150 (by omega) (by exact (List.forall_mem_cons.mpr ⟨hrf150.1, (List.forall_mem_cons.mpr ⟨hrf150.2.1, (List.forall_mem_cons.mpr ⟨hrf150.2.2.1, (List.forall_mem_cons.mpr ⟨hrf150.2.2.2.1, (List.forall_mem_cons.mpr ⟨hrf150.2.2.2.2.1, (List.forall_mem_cons.mpr ⟨trivial, (List.forall_mem_cons.mpr ⟨trivial, (fun _ hz => absurd hz List.not_mem_nil)⟩)⟩)⟩)⟩)⟩)⟩)⟩)) (by exact (fun _ hz => absurd hz List.not_mem_nil)) 0 rfl (fun _ _ z => z) (by decide +kernel) rfl (N := 12) (a0 := (12, .inl (fun _ => 0))) (fun _ => rfl) trivial (fun _ => rfl) (by decide) (by decide) (Nat.le_of_ble_eq_true rfl) (by show _ ≤ 600000; omega) (by show _ ≤ 7302250; omega) dL_law_150 (fun q150 => ?_)
          have hn150 : nn + 1 ≤ 100000 := hlt150
          have hb150 : va_up ad (nn) q150 1000000 = b := by rw [va_up_ne _ _ (by omega)]; exact hb
          refine tt_widen (k := nn + 1) (n := 5000 + 24 * (nn + 1)) (by omega) (by omega) ?_
          refine tt_astore X dL_law_152 (Nat.le_of_ble_eq_true rfl) ?_
          refine tt_iconst (v := 0) X dL_law_154 (by decide) ?_
          refine tt_istore X dL_law_155 (Nat.le_of_ble_eq_true rfl) ?_
          refine tt_drop [0, 1, 2, 3, 4, 7, 8, 9] ?_
          exact t_157 10000 (z143 - 1) nn 0 (nn + 1) (va_up w131.2 nn (some (tt_ia 12 (fun _ => 0)))) _ hn150 hb150 hs
        · rw [if_neg c136] at hs
          refine tt_iconst (v := 0) X dL_law_139 (by decide) ?_
          exact lw_out X dL_law_140 hs hρ hnn
      have t_122 : ∀ (x7 : Int32) (ux0 : Int32) (nn : Nat) (h : tt_H) (ad : Nat → Nat), nn ≤ 100000 → ad 1000000 = b → s_L_law_J122 Ls xs (s_L_law_L76 Ls xs n76) x7 ux0 nn h = some ρ → tt_T tt_cl (lw_K p l e s m below meth c b D ca) ad nn (5000 + 24 * nn) 122 [(0, .ref 1000000), (1, .ref 0), (2, .ref 49), (3, .ref 50), (4, .ref 51), (7, .int x7)] [.int ux0] h := by
        intro x7 ux0 nn h ad hnn hb hs
        unfold s_L_law_J122 at hs
        refine tt_istore X dL_law_122 (Nat.le_of_ble_eq_true rfl) ?_
        refine tt_iinc (v := x7 + 1) X dL_law_124 rfl rfl (Nat.le_of_ble_eq_true rfl) ?_
        refine tt_goto (tgt := 76) X dL_law_127 (by decide) ?_
        refine tt_drop [0, 1, 2, 3, 4, 6, 7] ?_
        exact t_76 ux0 (x7 + 1) nn h _ hnn hb hs
      refine tt_iload X dL_law_76 rfl ?_
      refine tt_aload_n X dL_law_78 rfl ?_
      refine tt_iconst (v := 0) X dL_law_79 (by decide) ?_
      obtain ⟨z80, e80, hs⟩ := gg_bind hs
      refine zr_il X e80 dL_law_80 ?_
      refine tt_icmp_ge (tgt := 130) X dL_law_81 (by decide) (fun c81 => ?_) (fun c81 => ?_)
      · rw [if_pos c81] at hs
        refine tt_drop [0, 1, 2, 3, 4, 6] ?_
        exact t_130 x6 nn h _ hnn hb hs
      · rw [if_neg c81] at hs
        refine tt_iload X dL_law_84 rfl ?_
        refine tt_if_ge (tgt := 130) X dL_law_86 (by decide) (fun c86 => ?_) (fun c86 => ?_)
        · rw [if_pos c86] at hs
          refine tt_drop [0, 1, 2, 3, 4, 6] ?_
          exact t_130 x6 nn h _ hnn hb hs
        · rw [if_neg c86] at hs
          refine tt_aload_n X dL_law_89 rfl ?_
          refine tt_iload X dL_law_90 rfl ?_
          refine tt_iconst (v := 1) X dL_law_92 (by decide) ?_
          refine tt_isub X dL_law_93 ?_
          obtain ⟨z94, e94, hs⟩ := gg_bind hs
          refine zr_jl X e94 dL_law_94 ?_
          refine tt_aload_n X dL_law_95 rfl ?_
          refine tt_iload X dL_law_96 rfl ?_
          obtain ⟨z98, e98, hs⟩ := gg_bind hs
          refine zr_il X e98 dL_law_98 ?_
          refine tt_aload_n X dL_law_99 rfl ?_
          refine tt_iload X dL_law_100 rfl ?_
          obtain ⟨z102, e102, hs⟩ := gg_bind hs
          refine zr_jl X e102 dL_law_102 ?_
          refine tt_aload_n X dL_law_103 rfl ?_
          refine tt_iconst (v := 1) X dL_law_104 (by decide) ?_
          refine tt_iload X dL_law_105 rfl ?_
          refine tt_iadd X dL_law_107 ?_
          obtain ⟨z108, e108, hs⟩ := gg_bind hs
          refine zr_il X e108 dL_law_108 ?_
          obtain ⟨w109, e109, hs⟩ := gg_bind hs
          refine zr_callS X (c_L_within l e109) (fun hts => va_cwS 4 hts gL_law_L_within rfl rfl rfl (by decide +kernel) ⟨Nat.le_of_ble_eq_true rfl, Nat.le_of_ble_eq_true rfl⟩) rfl rfl (Nat.le_of_ble_eq_true rfl) dL_law_109 (lw_room hnn) ?_
          refine tt_if_eq (tgt := 120) X dL_law_112 (by decide) (fun c112 => ?_) (fun c112 => ?_)
          · rw [if_pos c112] at hs
            refine tt_iload X dL_law_120 rfl ?_
            refine tt_drop [0, 1, 2, 3, 4, 7] ?_
            exact t_122 x7 x7 nn w109.2 _ hnn hb hs
          · rw [if_neg c112] at hs
            refine tt_bipush (v := (-9)) X dL_law_115 (by decide) ?_
            refine tt_goto (tgt := 122) X dL_law_117 (by decide) ?_
            refine tt_drop [0, 1, 2, 3, 4, 7] ?_
            exact t_122 x7 ((-9)) nn w109.2 _ hnn hb hs
  refine tt_aload_n X dL_law_24 rfl ?_
  refine tt_aload_n X dL_law_25 rfl ?_
  refine tt_iconst (v := 0) X dL_law_26 (by decide) ?_
  refine tt_bipush (v := 12) X dL_law_27 (by decide) ?_
  refine tt_aload_n X dL_law_29 rfl ?_
  refine tt_aload_n X dL_law_30 rfl ?_
  obtain ⟨w31, e31, hs⟩ := gg_bind hs
  refine zr_callSY X (lw_Y hX hbl hb) (c_L_put l e31) (fun hts => va_cwS 6 hts gL_law_L_put rfl rfl rfl (by decide +kernel) ⟨Nat.le_of_ble_eq_true rfl, Nat.le_of_ble_eq_true rfl⟩) rfl rfl (Nat.le_of_ble_eq_true rfl) dL_law_31 (lw_room hnn) ?_
  refine tt_istore X dL_law_34 (Nat.le_of_ble_eq_true rfl) ?_
  refine tt_iload X dL_law_36 rfl ?_
  refine tt_iconst (v := 1) X dL_law_38 (by decide) ?_
  refine tt_icmp_lt (tgt := 67) X dL_law_39 (by decide) (fun c39 => ?_) (fun c39 => ?_)
  · rw [if_pos c39] at hs
    refine tt_iconst (v := 0) X dL_law_67 (by decide) ?_
    exact lw_out X dL_law_68 hs hρ hnn
  · rw [if_neg c39] at hs
    refine tt_aload_n X dL_law_42 rfl ?_
    refine tt_iconst (v := 0) X dL_law_43 (by decide) ?_
    refine tt_iconst (v := 0) X dL_law_44 (by decide) ?_
    refine tt_iconst (v := 0) X dL_law_45 (by decide) ?_
    refine tt_iload X dL_law_46 rfl ?_
    obtain ⟨o48, f48, hs⟩ := gg_bind hs
    obtain ⟨w48, e48, hs⟩ := gg_bind hs
    refine zr_callV X f48 rfl (c_X8_cries l e48) (fun hts => cwV 4 hts gL_law_X8_cries rfl rfl rfl (by decide +kernel) ⟨Nat.le_of_ble_eq_true rfl, Nat.le_of_ble_eq_true rfl⟩) rfl rfl (Nat.le_of_ble_eq_true rfl) dL_law_48 (lw_room hnn) ?_
    refine tt_aload_n X dL_law_51 rfl ?_
    refine tt_iconst (v := 0) X dL_law_52 (by decide) ?_
    obtain ⟨z53, e53, hs⟩ := gg_bind hs
    refine zr_il X e53 dL_law_53 ?_
    refine tt_icmp_ne (tgt := 67) X dL_law_54 (by decide) (fun c54 => ?_) (fun c54 => ?_)
    · rw [if_neg c54] at hs
      refine tt_iconst (v := 0) X dL_law_67 (by decide) ?_
      exact lw_out X dL_law_68 hs hρ hnn
    · rw [if_pos c54] at hs
      refine tt_aload_n X dL_law_57 rfl ?_
      obtain ⟨o58, f58, hs⟩ := gg_bind hs
      obtain ⟨w58, e58, hs⟩ := gg_bind hs
      refine zr_callV X f58 rfl (c_X8_many l e58) (fun hts => cwV 0 hts gL_law_X8_many rfl rfl rfl (by decide +kernel) ⟨Nat.le_of_ble_eq_true rfl, Nat.le_of_ble_eq_true rfl⟩) rfl rfl (Nat.le_of_ble_eq_true rfl) dL_law_58 (lw_room hnn) ?_
      refine tt_aload_n X dL_law_61 rfl ?_
      refine tt_iconst (v := 0) X dL_law_62 (by decide) ?_
      obtain ⟨z63, e63, hs⟩ := gg_bind hs
      refine zr_il X e63 dL_law_63 ?_
      refine tt_icmp_eq (tgt := 69) X dL_law_64 (by decide) (fun c64 => ?_) (fun c64 => ?_)
      · rw [if_pos c64] at hs
        refine tt_bipush (v := (-9)) X dL_law_69 (by decide) ?_
        refine tt_istore X dL_law_71 (Nat.le_of_ble_eq_true rfl) ?_
        refine tt_iconst (v := 1) X dL_law_73 (by decide) ?_
        refine tt_istore X dL_law_74 (Nat.le_of_ble_eq_true rfl) ?_
        refine tt_drop [0, 1, 2, 3, 4, 6, 7] ?_
        exact t_76 10000 ((-9)) 1 nn w58.2 _ hnn hb hs
      · rw [if_neg c64] at hs
        refine tt_iconst (v := 0) X dL_law_67 (by decide) ?_
        exact lw_out X dL_law_68 hs hρ hnn
