/-! the other cases -/
section LWC
variable {p : Program} {l : Launch} {e : Env} {s : State} {m : MethodId} {below : List Frame} {meth : Method} {c : Code} {b : Nat} {D : va_G} {ca : Nat → ClassId} {ad : Nat → Nat} {L : Nat} {xs : Nat → Int32}
set_option maxHeartbeats 4000000 in
theorem lc_15 (X : tt_X tt_cl (lw_K p l e s m below meth c b D ca) code RL ret wsL_law) (hX : va_X b L xs s s.heap) (hbl : b < s.heap.size) (hb : ad 1000000 = b) (hL : L ≤ 3072) {i : Nat} (hi : i + 6 ≤ L) {h : tt_H} (hI : pp_Inv h) (kk : ∀ h2, pp_Inv h2 → tt_T tt_cl (lw_K p l e s m below meth c b D ca) ad 600000 7302250 1209 (lw_Lc i) [] h2) : tt_T tt_cl (lw_K p l e s m below meth c b D ca) ad 600000 7302250 742 (lw_Lc i) [] h := by
  obtain ⟨r, h1, h2, e1, e2, hI2, fs2, g2⟩ := E_roots hI (xs (i + 1)) (xs (i + 2))
  obtain ⟨fs1, g1⟩ := lw_obj hI
  refine tt_aload_n X dL_law_742 rfl ?_
  refine lw_arg (k := 1) (pc2 := 748) X hX hbl hb hL hi (by decide) dL_law_743 dL_law_744 dL_law_745 (by decide) dL_law_746 dL_law_747 rfl ?_
  refine lw_arg (k := 2) (pc2 := 753) X hX hbl hb hL hi (by decide) dL_law_748 dL_law_749 dL_law_750 (by decide) dL_law_751 dL_law_752 rfl ?_
  refine zr_callV X g1 rfl (c_X8_roots l e1) (fun hts => cwV 2 hts gL_law_X8_roots rfl rfl rfl (by decide +kernel) ⟨Nat.le_of_ble_eq_true rfl, Nat.le_of_ble_eq_true rfl⟩) rfl rfl (Nat.le_of_ble_eq_true rfl) dL_law_753 ⟨Nat.le_refl _, Nat.le_refl _⟩ ?_
  refine tt_aload_n X dL_law_756 rfl ?_
  refine lw_arg (k := 1) (pc2 := 762) X hX hbl hb hL hi (by decide) dL_law_757 dL_law_758 dL_law_759 (by decide) dL_law_760 dL_law_761 rfl ?_
  refine lw_arg (k := 2) (pc2 := 767) X hX hbl hb hL hi (by decide) dL_law_762 dL_law_763 dL_law_764 (by decide) dL_law_765 dL_law_766 rfl ?_
  refine zr_callV X g2 rfl (c_X9_roots l e2) (fun hts => cwV 2 hts gL_law_X9_roots rfl rfl rfl (by decide +kernel) ⟨Nat.le_of_ble_eq_true rfl, Nat.le_of_ble_eq_true rfl⟩) rfl rfl (Nat.le_of_ble_eq_true rfl) dL_law_767 ⟨Nat.le_refl _, Nat.le_refl _⟩ ?_
  refine tt_lcmp X dL_law_770 ?_
  exact tt_if_eq (tgt := 1209) X dL_law_771 (by decide) (fun _ => kk h2 hI2) (fun q => absurd ((lg_cmp_eq r r).mpr rfl) q)
set_option maxHeartbeats 4000000 in
theorem lc_16 (X : tt_X tt_cl (lw_K p l e s m below meth c b D ca) code RL ret wsL_law) (hX : va_X b L xs s s.heap) (hbl : b < s.heap.size) (hb : ad 1000000 = b) (hL : L ≤ 3072) {i : Nat} (hi : i + 6 ≤ L) {h : tt_H} (hI : pp_Inv h) (kk : ∀ h2, pp_Inv h2 → tt_T tt_cl (lw_K p l e s m below meth c b D ca) ad 600000 7302250 1209 (lw_Lc i) [] h2) : tt_T tt_cl (lw_K p l e s m below meth c b D ca) ad 600000 7302250 776 (lw_Lc i) [] h := by
  obtain ⟨r, h1, h2, e1, e2, hI2, fs2, g2⟩ := E_breaths hI (xs (i + 1)) (xs (i + 2))
  obtain ⟨fs1, g1⟩ := lw_obj hI
  refine tt_aload_n X dL_law_776 rfl ?_
  refine lw_arg (k := 1) (pc2 := 782) X hX hbl hb hL hi (by decide) dL_law_777 dL_law_778 dL_law_779 (by decide) dL_law_780 dL_law_781 rfl ?_
  refine lw_arg (k := 2) (pc2 := 787) X hX hbl hb hL hi (by decide) dL_law_782 dL_law_783 dL_law_784 (by decide) dL_law_785 dL_law_786 rfl ?_
  refine zr_callV X g1 rfl (c_X8_breaths l e1) (fun hts => cwV 2 hts gL_law_X8_breaths rfl rfl rfl (by decide +kernel) ⟨Nat.le_of_ble_eq_true rfl, Nat.le_of_ble_eq_true rfl⟩) rfl rfl (Nat.le_of_ble_eq_true rfl) dL_law_787 ⟨Nat.le_refl _, Nat.le_refl _⟩ ?_
  refine tt_aload_n X dL_law_790 rfl ?_
  refine lw_arg (k := 1) (pc2 := 796) X hX hbl hb hL hi (by decide) dL_law_791 dL_law_792 dL_law_793 (by decide) dL_law_794 dL_law_795 rfl ?_
  refine lw_arg (k := 2) (pc2 := 801) X hX hbl hb hL hi (by decide) dL_law_796 dL_law_797 dL_law_798 (by decide) dL_law_799 dL_law_800 rfl ?_
  refine zr_callV X g2 rfl (c_X9_breaths l e2) (fun hts => cwV 2 hts gL_law_X9_breaths rfl rfl rfl (by decide +kernel) ⟨Nat.le_of_ble_eq_true rfl, Nat.le_of_ble_eq_true rfl⟩) rfl rfl (Nat.le_of_ble_eq_true rfl) dL_law_801 ⟨Nat.le_refl _, Nat.le_refl _⟩ ?_
  exact tt_icmp_eq (tgt := 1209) X dL_law_804 (by decide) (fun _ => kk h2 hI2) (fun q => absurd rfl q)
set_option maxHeartbeats 4000000 in
theorem lc_17 (X : tt_X tt_cl (lw_K p l e s m below meth c b D ca) code RL ret wsL_law) (hX : va_X b L xs s s.heap) (hbl : b < s.heap.size) (hb : ad 1000000 = b) (hL : L ≤ 3072) {i : Nat} (hi : i + 6 ≤ L) {h : tt_H} (hI : pp_Inv h) (kk : ∀ h2, pp_Inv h2 → tt_T tt_cl (lw_K p l e s m below meth c b D ca) ad 600000 7302250 1209 (lw_Lc i) [] h2) : tt_T tt_cl (lw_K p l e s m below meth c b D ca) ad 600000 7302250 809 (lw_Lc i) [] h := by
  obtain ⟨r, h1, h2, e1, e2, hI2, fs2, g2⟩ := E_once hI (xs (i + 1)) (xs (i + 2)) (xs (i + 3))
  obtain ⟨fs1, g1⟩ := lw_obj hI
  refine tt_aload_n X dL_law_809 rfl ?_
  refine lw_arg (k := 1) (pc2 := 815) X hX hbl hb hL hi (by decide) dL_law_810 dL_law_811 dL_law_812 (by decide) dL_law_813 dL_law_814 rfl ?_
  refine lw_arg (k := 2) (pc2 := 820) X hX hbl hb hL hi (by decide) dL_law_815 dL_law_816 dL_law_817 (by decide) dL_law_818 dL_law_819 rfl ?_
  refine lw_arg (k := 3) (pc2 := 825) X hX hbl hb hL hi (by decide) dL_law_820 dL_law_821 dL_law_822 (by decide) dL_law_823 dL_law_824 rfl ?_
  refine zr_callV X g1 rfl (c_X8_once l e1) (fun hts => cwV 3 hts gL_law_X8_once rfl rfl rfl (by decide +kernel) ⟨Nat.le_of_ble_eq_true rfl, Nat.le_of_ble_eq_true rfl⟩) rfl rfl (Nat.le_of_ble_eq_true rfl) dL_law_825 ⟨Nat.le_refl _, Nat.le_refl _⟩ ?_
  refine tt_aload_n X dL_law_828 rfl ?_
  refine lw_arg (k := 1) (pc2 := 834) X hX hbl hb hL hi (by decide) dL_law_829 dL_law_830 dL_law_831 (by decide) dL_law_832 dL_law_833 rfl ?_
  refine lw_arg (k := 2) (pc2 := 839) X hX hbl hb hL hi (by decide) dL_law_834 dL_law_835 dL_law_836 (by decide) dL_law_837 dL_law_838 rfl ?_
  refine lw_arg (k := 3) (pc2 := 844) X hX hbl hb hL hi (by decide) dL_law_839 dL_law_840 dL_law_841 (by decide) dL_law_842 dL_law_843 rfl ?_
  refine zr_callV X g2 rfl (c_X9_once l e2) (fun hts => cwV 3 hts gL_law_X9_once rfl rfl rfl (by decide +kernel) ⟨Nat.le_of_ble_eq_true rfl, Nat.le_of_ble_eq_true rfl⟩) rfl rfl (Nat.le_of_ble_eq_true rfl) dL_law_844 ⟨Nat.le_refl _, Nat.le_refl _⟩ ?_
  exact tt_icmp_eq (tgt := 1209) X dL_law_847 (by decide) (fun _ => kk h2 hI2) (fun q => absurd rfl q)
set_option maxHeartbeats 4000000 in
theorem lc_18 (X : tt_X tt_cl (lw_K p l e s m below meth c b D ca) code RL ret wsL_law) (hX : va_X b L xs s s.heap) (hbl : b < s.heap.size) (hb : ad 1000000 = b) (hL : L ≤ 3072) {i : Nat} (hi : i + 6 ≤ L) {h : tt_H} (hI : pp_Inv h) (kk : ∀ h2, pp_Inv h2 → tt_T tt_cl (lw_K p l e s m below meth c b D ca) ad 600000 7302250 1209 (lw_Lc i) [] h2) : tt_T tt_cl (lw_K p l e s m below meth c b D ca) ad 600000 7302250 852 (lw_Lc i) [] h := by
  obtain ⟨r, h1, h2, e1, e2, hI2, fs2, g2⟩ := E_twice hI (xs (i + 1))
  obtain ⟨fs1, g1⟩ := lw_obj hI
  refine tt_aload_n X dL_law_852 rfl ?_
  refine lw_arg (k := 1) (pc2 := 858) X hX hbl hb hL hi (by decide) dL_law_853 dL_law_854 dL_law_855 (by decide) dL_law_856 dL_law_857 rfl ?_
  refine zr_callV X g1 rfl (c_X8_twice l e1) (fun hts => cwV 1 hts gL_law_X8_twice rfl rfl rfl (by decide +kernel) ⟨Nat.le_of_ble_eq_true rfl, Nat.le_of_ble_eq_true rfl⟩) rfl rfl (Nat.le_of_ble_eq_true rfl) dL_law_858 ⟨Nat.le_refl _, Nat.le_refl _⟩ ?_
  refine tt_aload_n X dL_law_861 rfl ?_
  refine lw_arg (k := 1) (pc2 := 867) X hX hbl hb hL hi (by decide) dL_law_862 dL_law_863 dL_law_864 (by decide) dL_law_865 dL_law_866 rfl ?_
  refine zr_callV X g2 rfl (c_X9_twice l e2) (fun hts => cwV 1 hts gL_law_X9_twice rfl rfl rfl (by decide +kernel) ⟨Nat.le_of_ble_eq_true rfl, Nat.le_of_ble_eq_true rfl⟩) rfl rfl (Nat.le_of_ble_eq_true rfl) dL_law_867 ⟨Nat.le_refl _, Nat.le_refl _⟩ ?_
  exact tt_icmp_eq (tgt := 1209) X dL_law_870 (by decide) (fun _ => kk h2 hI2) (fun q => absurd rfl q)
set_option maxHeartbeats 4000000 in
theorem lc_19 (X : tt_X tt_cl (lw_K p l e s m below meth c b D ca) code RL ret wsL_law) (hX : va_X b L xs s s.heap) (hbl : b < s.heap.size) (hb : ad 1000000 = b) (hL : L ≤ 3072) {i : Nat} (hi : i + 6 ≤ L) {h : tt_H} (hI : pp_Inv h) (kk : ∀ h2, pp_Inv h2 → tt_T tt_cl (lw_K p l e s m below meth c b D ca) ad 600000 7302250 1209 (lw_Lc i) [] h2) : tt_T tt_cl (lw_K p l e s m below meth c b D ca) ad 600000 7302250 875 (lw_Lc i) [] h := by
  obtain ⟨r, h1, h2, e1, e2, hI2, fs2, g2⟩ := E_sheet hI (xs (i + 1)) (xs (i + 2)) (xs (i + 3))
  obtain ⟨fs1, g1⟩ := lw_obj hI
  refine tt_aload_n X dL_law_875 rfl ?_
  refine lw_arg (k := 1) (pc2 := 881) X hX hbl hb hL hi (by decide) dL_law_876 dL_law_877 dL_law_878 (by decide) dL_law_879 dL_law_880 rfl ?_
  refine lw_arg (k := 2) (pc2 := 886) X hX hbl hb hL hi (by decide) dL_law_881 dL_law_882 dL_law_883 (by decide) dL_law_884 dL_law_885 rfl ?_
  refine lw_arg (k := 3) (pc2 := 891) X hX hbl hb hL hi (by decide) dL_law_886 dL_law_887 dL_law_888 (by decide) dL_law_889 dL_law_890 rfl ?_
  refine zr_callV X g1 rfl (c_X8_sheet l e1) (fun hts => cwV 3 hts gL_law_X8_sheet rfl rfl rfl (by decide +kernel) ⟨Nat.le_of_ble_eq_true rfl, Nat.le_of_ble_eq_true rfl⟩) rfl rfl (Nat.le_of_ble_eq_true rfl) dL_law_891 ⟨Nat.le_refl _, Nat.le_refl _⟩ ?_
  refine tt_aload_n X dL_law_894 rfl ?_
  refine lw_arg (k := 1) (pc2 := 900) X hX hbl hb hL hi (by decide) dL_law_895 dL_law_896 dL_law_897 (by decide) dL_law_898 dL_law_899 rfl ?_
  refine lw_arg (k := 2) (pc2 := 905) X hX hbl hb hL hi (by decide) dL_law_900 dL_law_901 dL_law_902 (by decide) dL_law_903 dL_law_904 rfl ?_
  refine lw_arg (k := 3) (pc2 := 910) X hX hbl hb hL hi (by decide) dL_law_905 dL_law_906 dL_law_907 (by decide) dL_law_908 dL_law_909 rfl ?_
  refine zr_callV X g2 rfl (c_X9_sheet l e2) (fun hts => cwV 3 hts gL_law_X9_sheet rfl rfl rfl (by decide +kernel) ⟨Nat.le_of_ble_eq_true rfl, Nat.le_of_ble_eq_true rfl⟩) rfl rfl (Nat.le_of_ble_eq_true rfl) dL_law_910 ⟨Nat.le_refl _, Nat.le_refl _⟩ ?_
  exact tt_icmp_eq (tgt := 1209) X dL_law_913 (by decide) (fun _ => kk h2 hI2) (fun q => absurd rfl q)
set_option maxHeartbeats 4000000 in
theorem lc_20 (X : tt_X tt_cl (lw_K p l e s m below meth c b D ca) code RL ret wsL_law) (hX : va_X b L xs s s.heap) (hbl : b < s.heap.size) (hb : ad 1000000 = b) (hL : L ≤ 3072) {i : Nat} (hi : i + 6 ≤ L) {h : tt_H} (hI : pp_Inv h) (kk : ∀ h2, pp_Inv h2 → tt_T tt_cl (lw_K p l e s m below meth c b D ca) ad 600000 7302250 1209 (lw_Lc i) [] h2) : tt_T tt_cl (lw_K p l e s m below meth c b D ca) ad 600000 7302250 918 (lw_Lc i) [] h := by
  obtain ⟨r, h1, h2, e1, e2, hI2, fs2, g2⟩ := E_lose hI (xs (i + 1))
  obtain ⟨fs1, g1⟩ := lw_obj hI
  refine tt_aload_n X dL_law_918 rfl ?_
  refine lw_arg (k := 1) (pc2 := 924) X hX hbl hb hL hi (by decide) dL_law_919 dL_law_920 dL_law_921 (by decide) dL_law_922 dL_law_923 rfl ?_
  refine zr_callV X g1 rfl (c_X8_lose l e1) (fun hts => cwV 1 hts gL_law_X8_lose rfl rfl rfl (by decide +kernel) ⟨Nat.le_of_ble_eq_true rfl, Nat.le_of_ble_eq_true rfl⟩) rfl rfl (Nat.le_of_ble_eq_true rfl) dL_law_924 ⟨Nat.le_refl _, Nat.le_refl _⟩ ?_
  refine tt_aload_n X dL_law_927 rfl ?_
  refine lw_arg (k := 1) (pc2 := 933) X hX hbl hb hL hi (by decide) dL_law_928 dL_law_929 dL_law_930 (by decide) dL_law_931 dL_law_932 rfl ?_
  refine zr_callV X g2 rfl (c_X9_lose l e2) (fun hts => cwV 1 hts gL_law_X9_lose rfl rfl rfl (by decide +kernel) ⟨Nat.le_of_ble_eq_true rfl, Nat.le_of_ble_eq_true rfl⟩) rfl rfl (Nat.le_of_ble_eq_true rfl) dL_law_933 ⟨Nat.le_refl _, Nat.le_refl _⟩ ?_
  exact tt_icmp_eq (tgt := 1209) X dL_law_936 (by decide) (fun _ => kk h2 hI2) (fun q => absurd rfl q)
set_option maxHeartbeats 4000000 in
theorem lc_21 (X : tt_X tt_cl (lw_K p l e s m below meth c b D ca) code RL ret wsL_law) (hX : va_X b L xs s s.heap) (hbl : b < s.heap.size) (hb : ad 1000000 = b) (hL : L ≤ 3072) {i : Nat} (hi : i + 6 ≤ L) {h : tt_H} (hI : pp_Inv h) (kk : ∀ h2, pp_Inv h2 → tt_T tt_cl (lw_K p l e s m below meth c b D ca) ad 600000 7302250 1209 (lw_Lc i) [] h2) : tt_T tt_cl (lw_K p l e s m below meth c b D ca) ad 600000 7302250 941 (lw_Lc i) [] h := by
  obtain ⟨r, h1, h2, e1, e2, hI2, fs2, g2⟩ := E_put hI (xs (i + 1)) (xs (i + 2)) (xs (i + 3))
  obtain ⟨fs1, g1⟩ := lw_obj hI
  refine tt_aload_n X dL_law_941 rfl ?_
  refine lw_arg (k := 1) (pc2 := 947) X hX hbl hb hL hi (by decide) dL_law_942 dL_law_943 dL_law_944 (by decide) dL_law_945 dL_law_946 rfl ?_
  refine lw_arg (k := 2) (pc2 := 952) X hX hbl hb hL hi (by decide) dL_law_947 dL_law_948 dL_law_949 (by decide) dL_law_950 dL_law_951 rfl ?_
  refine lw_arg (k := 3) (pc2 := 957) X hX hbl hb hL hi (by decide) dL_law_952 dL_law_953 dL_law_954 (by decide) dL_law_955 dL_law_956 rfl ?_
  refine zr_callV X g1 rfl (c_X8_put l e1) (fun hts => cwV 3 hts gL_law_X8_put rfl rfl rfl (by decide +kernel) ⟨Nat.le_of_ble_eq_true rfl, Nat.le_of_ble_eq_true rfl⟩) rfl rfl (Nat.le_of_ble_eq_true rfl) dL_law_957 ⟨Nat.le_refl _, Nat.le_refl _⟩ ?_
  refine tt_aload_n X dL_law_960 rfl ?_
  refine lw_arg (k := 1) (pc2 := 966) X hX hbl hb hL hi (by decide) dL_law_961 dL_law_962 dL_law_963 (by decide) dL_law_964 dL_law_965 rfl ?_
  refine lw_arg (k := 2) (pc2 := 971) X hX hbl hb hL hi (by decide) dL_law_966 dL_law_967 dL_law_968 (by decide) dL_law_969 dL_law_970 rfl ?_
  refine lw_arg (k := 3) (pc2 := 976) X hX hbl hb hL hi (by decide) dL_law_971 dL_law_972 dL_law_973 (by decide) dL_law_974 dL_law_975 rfl ?_
  refine zr_callV X g2 rfl (c_X9_put l e2) (fun hts => cwV 3 hts gL_law_X9_put rfl rfl rfl (by decide +kernel) ⟨Nat.le_of_ble_eq_true rfl, Nat.le_of_ble_eq_true rfl⟩) rfl rfl (Nat.le_of_ble_eq_true rfl) dL_law_976 ⟨Nat.le_refl _, Nat.le_refl _⟩ ?_
  exact tt_icmp_eq (tgt := 1209) X dL_law_979 (by decide) (fun _ => kk h2 hI2) (fun q => absurd rfl q)
set_option maxHeartbeats 4000000 in
theorem lc_22 (X : tt_X tt_cl (lw_K p l e s m below meth c b D ca) code RL ret wsL_law) (hX : va_X b L xs s s.heap) (hbl : b < s.heap.size) (hb : ad 1000000 = b) (hL : L ≤ 3072) {i : Nat} (hi : i + 6 ≤ L) {h : tt_H} (hI : pp_Inv h) (kk : ∀ h2, pp_Inv h2 → tt_T tt_cl (lw_K p l e s m below meth c b D ca) ad 600000 7302250 1209 (lw_Lc i) [] h2) : tt_T tt_cl (lw_K p l e s m below meth c b D ca) ad 600000 7302250 984 (lw_Lc i) [] h := by
  obtain ⟨r, h1, h2, e1, e2, hI2, fs2, g2⟩ := E_cell hI (xs (i + 1)) (xs (i + 2)) (xs (i + 3))
  obtain ⟨fs1, g1⟩ := lw_obj hI
  refine tt_aload_n X dL_law_984 rfl ?_
  refine lw_arg (k := 1) (pc2 := 990) X hX hbl hb hL hi (by decide) dL_law_985 dL_law_986 dL_law_987 (by decide) dL_law_988 dL_law_989 rfl ?_
  refine lw_arg (k := 2) (pc2 := 995) X hX hbl hb hL hi (by decide) dL_law_990 dL_law_991 dL_law_992 (by decide) dL_law_993 dL_law_994 rfl ?_
  refine lw_arg (k := 3) (pc2 := 1000) X hX hbl hb hL hi (by decide) dL_law_995 dL_law_996 dL_law_997 (by decide) dL_law_998 dL_law_999 rfl ?_
  refine zr_callV X g1 rfl (c_X8_cell l e1) (fun hts => cwV 3 hts gL_law_X8_cell rfl rfl rfl (by decide +kernel) ⟨Nat.le_of_ble_eq_true rfl, Nat.le_of_ble_eq_true rfl⟩) rfl rfl (Nat.le_of_ble_eq_true rfl) dL_law_1000 ⟨Nat.le_refl _, Nat.le_refl _⟩ ?_
  refine tt_aload_n X dL_law_1003 rfl ?_
  refine lw_arg (k := 1) (pc2 := 1009) X hX hbl hb hL hi (by decide) dL_law_1004 dL_law_1005 dL_law_1006 (by decide) dL_law_1007 dL_law_1008 rfl ?_
  refine lw_arg (k := 2) (pc2 := 1014) X hX hbl hb hL hi (by decide) dL_law_1009 dL_law_1010 dL_law_1011 (by decide) dL_law_1012 dL_law_1013 rfl ?_
  refine lw_arg (k := 3) (pc2 := 1019) X hX hbl hb hL hi (by decide) dL_law_1014 dL_law_1015 dL_law_1016 (by decide) dL_law_1017 dL_law_1018 rfl ?_
  refine zr_callV X g2 rfl (c_X9_cell l e2) (fun hts => cwV 3 hts gL_law_X9_cell rfl rfl rfl (by decide +kernel) ⟨Nat.le_of_ble_eq_true rfl, Nat.le_of_ble_eq_true rfl⟩) rfl rfl (Nat.le_of_ble_eq_true rfl) dL_law_1019 ⟨Nat.le_refl _, Nat.le_refl _⟩ ?_
  refine tt_lcmp X dL_law_1022 ?_
  exact tt_if_eq (tgt := 1209) X dL_law_1023 (by decide) (fun _ => kk h2 hI2) (fun q => absurd ((lg_cmp_eq r r).mpr rfl) q)
set_option maxHeartbeats 4000000 in
theorem lc_23 (X : tt_X tt_cl (lw_K p l e s m below meth c b D ca) code RL ret wsL_law) (hX : va_X b L xs s s.heap) (hbl : b < s.heap.size) (hb : ad 1000000 = b) (hL : L ≤ 3072) {i : Nat} (hi : i + 6 ≤ L) {h : tt_H} (hI : pp_Inv h) (kk : ∀ h2, pp_Inv h2 → tt_T tt_cl (lw_K p l e s m below meth c b D ca) ad 600000 7302250 1209 (lw_Lc i) [] h2) : tt_T tt_cl (lw_K p l e s m below meth c b D ca) ad 600000 7302250 1028 (lw_Lc i) [] h := by
  obtain ⟨r, h1, h2, e1, e2, hI2, fs2, g2⟩ := E_copy hI (xs (i + 1)) (xs (i + 2)) (xs (i + 3)) (xs (i + 4)) (xs (i + 5))
  obtain ⟨fs1, g1⟩ := lw_obj hI
  refine tt_aload_n X dL_law_1028 rfl ?_
  refine lw_arg (k := 1) (pc2 := 1034) X hX hbl hb hL hi (by decide) dL_law_1029 dL_law_1030 dL_law_1031 (by decide) dL_law_1032 dL_law_1033 rfl ?_
  refine lw_arg (k := 2) (pc2 := 1039) X hX hbl hb hL hi (by decide) dL_law_1034 dL_law_1035 dL_law_1036 (by decide) dL_law_1037 dL_law_1038 rfl ?_
  refine lw_arg (k := 3) (pc2 := 1044) X hX hbl hb hL hi (by decide) dL_law_1039 dL_law_1040 dL_law_1041 (by decide) dL_law_1042 dL_law_1043 rfl ?_
  refine lw_arg (k := 4) (pc2 := 1049) X hX hbl hb hL hi (by decide) dL_law_1044 dL_law_1045 dL_law_1046 (by decide) dL_law_1047 dL_law_1048 rfl ?_
  refine lw_arg (k := 5) (pc2 := 1054) X hX hbl hb hL hi (by decide) dL_law_1049 dL_law_1050 dL_law_1051 (by decide) dL_law_1052 dL_law_1053 rfl ?_
  refine zr_callV X g1 rfl (c_X8_copy l e1) (fun hts => cwV 5 hts gL_law_X8_copy rfl rfl rfl (by decide +kernel) ⟨Nat.le_of_ble_eq_true rfl, Nat.le_of_ble_eq_true rfl⟩) rfl rfl (Nat.le_of_ble_eq_true rfl) dL_law_1054 ⟨Nat.le_refl _, Nat.le_refl _⟩ ?_
  refine tt_aload_n X dL_law_1057 rfl ?_
  refine lw_arg (k := 1) (pc2 := 1063) X hX hbl hb hL hi (by decide) dL_law_1058 dL_law_1059 dL_law_1060 (by decide) dL_law_1061 dL_law_1062 rfl ?_
  refine lw_arg (k := 2) (pc2 := 1068) X hX hbl hb hL hi (by decide) dL_law_1063 dL_law_1064 dL_law_1065 (by decide) dL_law_1066 dL_law_1067 rfl ?_
  refine lw_arg (k := 3) (pc2 := 1073) X hX hbl hb hL hi (by decide) dL_law_1068 dL_law_1069 dL_law_1070 (by decide) dL_law_1071 dL_law_1072 rfl ?_
  refine lw_arg (k := 4) (pc2 := 1078) X hX hbl hb hL hi (by decide) dL_law_1073 dL_law_1074 dL_law_1075 (by decide) dL_law_1076 dL_law_1077 rfl ?_
  refine lw_arg (k := 5) (pc2 := 1083) X hX hbl hb hL hi (by decide) dL_law_1078 dL_law_1079 dL_law_1080 (by decide) dL_law_1081 dL_law_1082 rfl ?_
  refine zr_callV X g2 rfl (c_X9_copy l e2) (fun hts => cwV 5 hts gL_law_X9_copy rfl rfl rfl (by decide +kernel) ⟨Nat.le_of_ble_eq_true rfl, Nat.le_of_ble_eq_true rfl⟩) rfl rfl (Nat.le_of_ble_eq_true rfl) dL_law_1083 ⟨Nat.le_refl _, Nat.le_refl _⟩ ?_
  exact tt_icmp_eq (tgt := 1209) X dL_law_1086 (by decide) (fun _ => kk h2 hI2) (fun q => absurd rfl q)
set_option maxHeartbeats 4000000 in
theorem lc_24 (X : tt_X tt_cl (lw_K p l e s m below meth c b D ca) code RL ret wsL_law) (hX : va_X b L xs s s.heap) (hbl : b < s.heap.size) (hb : ad 1000000 = b) (hL : L ≤ 3072) {i : Nat} (hi : i + 6 ≤ L) {h : tt_H} (hI : pp_Inv h) (kk : ∀ h2, pp_Inv h2 → tt_T tt_cl (lw_K p l e s m below meth c b D ca) ad 600000 7302250 1209 (lw_Lc i) [] h2) : tt_T tt_cl (lw_K p l e s m below meth c b D ca) ad 600000 7302250 1091 (lw_Lc i) [] h := by
  obtain ⟨r, h1, h2, e1, e2, hI2, fs2, g2⟩ := E_tell hI (xs (i + 1))
  obtain ⟨fs1, g1⟩ := lw_obj hI
  refine tt_aload_n X dL_law_1091 rfl ?_
  refine lw_arg (k := 1) (pc2 := 1097) X hX hbl hb hL hi (by decide) dL_law_1092 dL_law_1093 dL_law_1094 (by decide) dL_law_1095 dL_law_1096 rfl ?_
  refine zr_callV X g1 rfl (c_X8_tell l e1) (fun hts => cwV 1 hts gL_law_X8_tell rfl rfl rfl (by decide +kernel) ⟨Nat.le_of_ble_eq_true rfl, Nat.le_of_ble_eq_true rfl⟩) rfl rfl (Nat.le_of_ble_eq_true rfl) dL_law_1097 ⟨Nat.le_refl _, Nat.le_refl _⟩ ?_
  refine tt_aload_n X dL_law_1100 rfl ?_
  refine lw_arg (k := 1) (pc2 := 1106) X hX hbl hb hL hi (by decide) dL_law_1101 dL_law_1102 dL_law_1103 (by decide) dL_law_1104 dL_law_1105 rfl ?_
  refine zr_callV X g2 rfl (c_X9_tell l e2) (fun hts => cwV 1 hts gL_law_X9_tell rfl rfl rfl (by decide +kernel) ⟨Nat.le_of_ble_eq_true rfl, Nat.le_of_ble_eq_true rfl⟩) rfl rfl (Nat.le_of_ble_eq_true rfl) dL_law_1106 ⟨Nat.le_refl _, Nat.le_refl _⟩ ?_
  exact tt_icmp_eq (tgt := 1209) X dL_law_1109 (by decide) (fun _ => kk h2 hI2) (fun q => absurd rfl q)
set_option maxHeartbeats 4000000 in
theorem lc_25 (X : tt_X tt_cl (lw_K p l e s m below meth c b D ca) code RL ret wsL_law) (hX : va_X b L xs s s.heap) (hbl : b < s.heap.size) (hb : ad 1000000 = b) (hL : L ≤ 3072) {i : Nat} (hi : i + 6 ≤ L) {h : tt_H} (hI : pp_Inv h) (kk : ∀ h2, pp_Inv h2 → tt_T tt_cl (lw_K p l e s m below meth c b D ca) ad 600000 7302250 1209 (lw_Lc i) [] h2) : tt_T tt_cl (lw_K p l e s m below meth c b D ca) ad 600000 7302250 1114 (lw_Lc i) [] h := by
  obtain ⟨r, h1, h2, e1, e2, hI2, fs2, g2⟩ := E_sing hI (xs (i + 1))
  obtain ⟨fs1, g1⟩ := lw_obj hI
  refine tt_aload_n X dL_law_1114 rfl ?_
  refine lw_arg (k := 1) (pc2 := 1120) X hX hbl hb hL hi (by decide) dL_law_1115 dL_law_1116 dL_law_1117 (by decide) dL_law_1118 dL_law_1119 rfl ?_
  refine zr_callV X g1 rfl (c_X8_sing l e1) (fun hts => cwV 1 hts gL_law_X8_sing rfl rfl rfl (by decide +kernel) ⟨Nat.le_of_ble_eq_true rfl, Nat.le_of_ble_eq_true rfl⟩) rfl rfl (Nat.le_of_ble_eq_true rfl) dL_law_1120 ⟨Nat.le_refl _, Nat.le_refl _⟩ ?_
  refine tt_aload_n X dL_law_1123 rfl ?_
  refine lw_arg (k := 1) (pc2 := 1129) X hX hbl hb hL hi (by decide) dL_law_1124 dL_law_1125 dL_law_1126 (by decide) dL_law_1127 dL_law_1128 rfl ?_
  refine zr_callV X g2 rfl (c_X9_sing l e2) (fun hts => cwV 1 hts gL_law_X9_sing rfl rfl rfl (by decide +kernel) ⟨Nat.le_of_ble_eq_true rfl, Nat.le_of_ble_eq_true rfl⟩) rfl rfl (Nat.le_of_ble_eq_true rfl) dL_law_1129 ⟨Nat.le_refl _, Nat.le_refl _⟩ ?_
  exact tt_icmp_eq (tgt := 1209) X dL_law_1132 (by decide) (fun _ => kk h2 hI2) (fun q => absurd rfl q)
set_option maxHeartbeats 4000000 in
theorem lc_26 (X : tt_X tt_cl (lw_K p l e s m below meth c b D ca) code RL ret wsL_law) (hX : va_X b L xs s s.heap) (hbl : b < s.heap.size) (hb : ad 1000000 = b) (hL : L ≤ 3072) {i : Nat} (hi : i + 6 ≤ L) {h : tt_H} (hI : pp_Inv h) (kk : ∀ h2, pp_Inv h2 → tt_T tt_cl (lw_K p l e s m below meth c b D ca) ad 600000 7302250 1209 (lw_Lc i) [] h2) : tt_T tt_cl (lw_K p l e s m below meth c b D ca) ad 600000 7302250 1137 (lw_Lc i) [] h := by
  obtain ⟨r, h1, h2, e1, e2, hI2, fs2, g2⟩ := E_as hI (xs (i + 1)) (xs (i + 2))
  obtain ⟨fs1, g1⟩ := lw_obj hI
  refine tt_aload_n X dL_law_1137 rfl ?_
  refine lw_arg (k := 1) (pc2 := 1143) X hX hbl hb hL hi (by decide) dL_law_1138 dL_law_1139 dL_law_1140 (by decide) dL_law_1141 dL_law_1142 rfl ?_
  refine lw_arg (k := 2) (pc2 := 1148) X hX hbl hb hL hi (by decide) dL_law_1143 dL_law_1144 dL_law_1145 (by decide) dL_law_1146 dL_law_1147 rfl ?_
  refine zr_callV X g1 rfl (c_X8_as l e1) (fun hts => cwV 2 hts gL_law_X8_as rfl rfl rfl (by decide +kernel) ⟨Nat.le_of_ble_eq_true rfl, Nat.le_of_ble_eq_true rfl⟩) rfl rfl (Nat.le_of_ble_eq_true rfl) dL_law_1148 ⟨Nat.le_refl _, Nat.le_refl _⟩ ?_
  refine tt_aload_n X dL_law_1151 rfl ?_
  refine lw_arg (k := 1) (pc2 := 1157) X hX hbl hb hL hi (by decide) dL_law_1152 dL_law_1153 dL_law_1154 (by decide) dL_law_1155 dL_law_1156 rfl ?_
  refine lw_arg (k := 2) (pc2 := 1162) X hX hbl hb hL hi (by decide) dL_law_1157 dL_law_1158 dL_law_1159 (by decide) dL_law_1160 dL_law_1161 rfl ?_
  refine zr_callV X g2 rfl (c_X9_as l e2) (fun hts => cwV 2 hts gL_law_X9_as rfl rfl rfl (by decide +kernel) ⟨Nat.le_of_ble_eq_true rfl, Nat.le_of_ble_eq_true rfl⟩) rfl rfl (Nat.le_of_ble_eq_true rfl) dL_law_1162 ⟨Nat.le_refl _, Nat.le_refl _⟩ ?_
  exact tt_icmp_eq (tgt := 1209) X dL_law_1165 (by decide) (fun _ => kk h2 hI2) (fun q => absurd rfl q)
set_option maxHeartbeats 4000000 in
theorem lc_27 (X : tt_X tt_cl (lw_K p l e s m below meth c b D ca) code RL ret wsL_law) (hX : va_X b L xs s s.heap) (hbl : b < s.heap.size) (hb : ad 1000000 = b) (hL : L ≤ 3072) {i : Nat} (hi : i + 6 ≤ L) {h : tt_H} (hI : pp_Inv h) (kk : ∀ h2, pp_Inv h2 → tt_T tt_cl (lw_K p l e s m below meth c b D ca) ad 600000 7302250 1209 (lw_Lc i) [] h2) : tt_T tt_cl (lw_K p l e s m below meth c b D ca) ad 600000 7302250 1170 (lw_Lc i) [] h := by
  obtain ⟨r, h1, h2, e1, e2, hI2, fs2, g2⟩ := E_trace hI
  obtain ⟨fs1, g1⟩ := lw_obj hI
  refine tt_aload_n X dL_law_1170 rfl ?_
  refine zr_callV X g1 rfl (c_X8_trace l e1) (fun hts => cwV 0 hts gL_law_X8_trace rfl rfl rfl (by decide +kernel) ⟨Nat.le_of_ble_eq_true rfl, Nat.le_of_ble_eq_true rfl⟩) rfl rfl (Nat.le_of_ble_eq_true rfl) dL_law_1171 ⟨Nat.le_refl _, Nat.le_refl _⟩ ?_
  refine tt_aload_n X dL_law_1174 rfl ?_
  refine zr_callV X g2 rfl (c_X9_trace l e2) (fun hts => cwV 0 hts gL_law_X9_trace rfl rfl rfl (by decide +kernel) ⟨Nat.le_of_ble_eq_true rfl, Nat.le_of_ble_eq_true rfl⟩) rfl rfl (Nat.le_of_ble_eq_true rfl) dL_law_1175 ⟨Nat.le_refl _, Nat.le_refl _⟩ ?_
  exact tt_icmp_eq (tgt := 1209) X dL_law_1178 (by decide) (fun _ => kk h2 hI2) (fun q => absurd rfl q)
set_option maxHeartbeats 4000000 in
theorem lc_28 (X : tt_X tt_cl (lw_K p l e s m below meth c b D ca) code RL ret wsL_law) (hX : va_X b L xs s s.heap) (hbl : b < s.heap.size) (hb : ad 1000000 = b) (hL : L ≤ 3072) {i : Nat} (hi : i + 6 ≤ L) {h : tt_H} (hI : pp_Inv h) (kk : ∀ h2, pp_Inv h2 → tt_T tt_cl (lw_K p l e s m below meth c b D ca) ad 600000 7302250 1209 (lw_Lc i) [] h2) : tt_T tt_cl (lw_K p l e s m below meth c b D ca) ad 600000 7302250 1183 (lw_Lc i) [] h := by
  obtain ⟨r, h1, h2, e1, e2, hI2, fs2, g2⟩ := E_fault hI
  obtain ⟨fs1, g1⟩ := lw_obj hI
  refine tt_aload_n X dL_law_1183 rfl ?_
  refine zr_callV X g1 rfl (c_X8_fault l e1) (fun hts => cwV 0 hts gL_law_X8_fault rfl rfl rfl (by decide +kernel) ⟨Nat.le_of_ble_eq_true rfl, Nat.le_of_ble_eq_true rfl⟩) rfl rfl (Nat.le_of_ble_eq_true rfl) dL_law_1184 ⟨Nat.le_refl _, Nat.le_refl _⟩ ?_
  refine tt_aload_n X dL_law_1187 rfl ?_
  refine zr_callV X g2 rfl (c_X9_fault l e2) (fun hts => cwV 0 hts gL_law_X9_fault rfl rfl rfl (by decide +kernel) ⟨Nat.le_of_ble_eq_true rfl, Nat.le_of_ble_eq_true rfl⟩) rfl rfl (Nat.le_of_ble_eq_true rfl) dL_law_1188 ⟨Nat.le_refl _, Nat.le_refl _⟩ ?_
  exact tt_icmp_eq (tgt := 1209) X dL_law_1191 (by decide) (fun _ => kk h2 hI2) (fun q => absurd rfl q)
set_option maxHeartbeats 4000000 in
theorem lc_29 (X : tt_X tt_cl (lw_K p l e s m below meth c b D ca) code RL ret wsL_law) (hX : va_X b L xs s s.heap) (hbl : b < s.heap.size) (hb : ad 1000000 = b) (hL : L ≤ 3072) {i : Nat} (hi : i + 6 ≤ L) {h : tt_H} (hI : pp_Inv h) (kk : ∀ h2, pp_Inv h2 → tt_T tt_cl (lw_K p l e s m below meth c b D ca) ad 600000 7302250 1209 (lw_Lc i) [] h2) : tt_T tt_cl (lw_K p l e s m below meth c b D ca) ad 600000 7302250 1196 (lw_Lc i) [] h := by
  obtain ⟨r, h1, h2, e1, e2, hI2, fs2, g2⟩ := E_many hI
  obtain ⟨fs1, g1⟩ := lw_obj hI
  refine tt_aload_n X dL_law_1196 rfl ?_
  refine zr_callV X g1 rfl (c_X8_many l e1) (fun hts => cwV 0 hts gL_law_X8_many rfl rfl rfl (by decide +kernel) ⟨Nat.le_of_ble_eq_true rfl, Nat.le_of_ble_eq_true rfl⟩) rfl rfl (Nat.le_of_ble_eq_true rfl) dL_law_1197 ⟨Nat.le_refl _, Nat.le_refl _⟩ ?_
  refine tt_aload_n X dL_law_1200 rfl ?_
  refine zr_callV X g2 rfl (c_X9_many l e2) (fun hts => cwV 0 hts gL_law_X9_many rfl rfl rfl (by decide +kernel) ⟨Nat.le_of_ble_eq_true rfl, Nat.le_of_ble_eq_true rfl⟩) rfl rfl (Nat.le_of_ble_eq_true rfl) dL_law_1201 ⟨Nat.le_refl _, Nat.le_refl _⟩ ?_
  exact tt_icmp_eq (tgt := 1209) X dL_law_1204 (by decide) (fun _ => kk h2 hI2) (fun q => absurd rfl q)
end LWC
