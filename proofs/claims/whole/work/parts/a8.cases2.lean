/-! THE LAW: its cases, second half -/
theorem lw_17 {w : WC} {x k N bc bs : Nat} {i : Int} {μ : Mem} {S : LSt} (hS : CS w μ x S N) (hM : Mst w μ (x + 99) S) (h0 : 0 ≤ i) (h1 : i + 8 ≤ ((wX w).2.1 : Int)) (h4 : (wX w).2.1 ≤ 4096) (hbc : 200 * (k + 1) ≤ bc) (hbs : 12002 * (k + 1) + pot N ≤ bs) (kk : LwK w x k i) : G w 48 mL_law LwQ bc bs 903 [some (vP (some (wX w).1)), some (vP (some x)), some (vP (some (x + 99))), some (vI i)] [] μ := by
  refine g_aload_n (j := 1) rfl dL_law_903 ?_
  refine g_aload_n (j := 0) rfl dL_law_904 ?_
  refine g_iload_n (j := 3) rfl dL_law_905 ?_
  refine g_iconst dL_law_906 ?_
  refine g_iadd dL_law_907 ?_
  refine g_xald dL_law_908 (by omega) (by omega) h4 ?_
  obtain ⟨bs0, hb0, hC⟩ := k_X11_bars (d := 0) hS (sq_i w i 1)
  refine g_callV dL_law_909 mlL_93 mvX11_bars (ci := 11) ⟨by decide, rfl⟩ hS.o hC sv1 rfl (by omega) (Nat.le_of_ble_eq_true rfl) (bc1 := bc - 200) (bs1 := bs - bs0) (by omega) (by omega) (fun v μ1 hR => ?_)
  obtain ⟨rfl, N1, hS1, hF1, hb1⟩ := hR
  have hM1 := hM.fa hF1
  clear hC
  refine g_aload_n (j := 2) rfl dL_law_912 ?_
  refine g_aload_n (j := 0) rfl dL_law_913 ?_
  refine g_iload_n (j := 3) rfl dL_law_914 ?_
  refine g_iconst dL_law_915 ?_
  refine g_iadd dL_law_916 ?_
  refine g_xald dL_law_917 (by omega) (by omega) h4 ?_
  refine g_callV dL_law_918 mlL_96 mvX12_bars (ci := 12) ⟨by decide, rfl⟩ hM1.1.1.o (k_X12_bars (d := 0) hM1 (sq_i w i 1)) sv1 rfl (by omega) (Nat.le_of_ble_eq_true rfl) (bc1 := bc - 200) (bs1 := bs - bs0) (by omega) (by omega) (fun v μ2 hR => ?_)
  obtain ⟨rfl, hM2, hF2⟩ := hR
  refine g_icmpS (tgt := 1615) dL_law_921 (by decide) ?_
  exact kk μ2 _ N1 _ _ (hS1.fb hF2) hM2 (by omega) (by omega)
theorem lw_18 {w : WC} {x k N bc bs : Nat} {i : Int} {μ : Mem} {S : LSt} (hS : CS w μ x S N) (hM : Mst w μ (x + 99) S) (h0 : 0 ≤ i) (h1 : i + 8 ≤ ((wX w).2.1 : Int)) (h4 : (wX w).2.1 ≤ 4096) (hbc : 200 * (k + 1) ≤ bc) (hbs : 12002 * (k + 1) + pot N ≤ bs) (kk : LwK w x k i) : G w 48 mL_law LwQ bc bs 926 [some (vP (some (wX w).1)), some (vP (some x)), some (vP (some (x + 99))), some (vI i)] [] μ := by
  refine g_aload_n (j := 1) rfl dL_law_926 ?_
  refine g_aload_n (j := 0) rfl dL_law_927 ?_
  refine g_iload_n (j := 3) rfl dL_law_928 ?_
  refine g_iconst dL_law_929 ?_
  refine g_iadd dL_law_930 ?_
  refine g_xald dL_law_931 (by omega) (by omega) h4 ?_
  refine g_aload_n (j := 0) rfl dL_law_932 ?_
  refine g_iload_n (j := 3) rfl dL_law_933 ?_
  refine g_iconst dL_law_934 ?_
  refine g_iadd dL_law_935 ?_
  refine g_xald dL_law_936 (by omega) (by omega) h4 ?_
  refine g_aload_n (j := 0) rfl dL_law_937 ?_
  refine g_iload_n (j := 3) rfl dL_law_938 ?_
  refine g_iconst dL_law_939 ?_
  refine g_iadd dL_law_940 ?_
  refine g_xald dL_law_941 (by omega) (by omega) h4 ?_
  refine g_aload_n (j := 0) rfl dL_law_942 ?_
  refine g_iload_n (j := 3) rfl dL_law_943 ?_
  refine g_iconst dL_law_944 ?_
  refine g_iadd dL_law_945 ?_
  refine g_xald dL_law_946 (by omega) (by omega) h4 ?_
  refine g_if_eq (tgt := 954) dL_law_947 (by decide) (sq_i w i 4) (fun hx => ?_) (fun hx => ?_)
  · refine g_iconst dL_law_954 ?_
    obtain ⟨bs0, hb0, hC⟩ := k_X11_many (d := 0) (ex := 0) hS (sq_i w i 1) (sq_i w i 2) (sq_i w i 3) (by omega)
    refine g_callV dL_law_955 mlL_97 mvX11_many (ci := 11) ⟨by decide, rfl⟩ hS.o hC sv4 rfl (by omega) (Nat.le_of_ble_eq_true rfl) (bc1 := bc - 200) (bs1 := bs - bs0) (by omega) (by omega) (fun v μ1 hR => ?_)
    obtain ⟨rfl, N1, hS1, hF1, hb1⟩ := hR
    have hM1 := hM.fa hF1
    clear hC
    refine g_aload_n (j := 2) rfl dL_law_958 ?_
    refine g_aload_n (j := 0) rfl dL_law_959 ?_
    refine g_iload_n (j := 3) rfl dL_law_960 ?_
    refine g_iconst dL_law_961 ?_
    refine g_iadd dL_law_962 ?_
    refine g_xald dL_law_963 (by omega) (by omega) h4 ?_
    refine g_aload_n (j := 0) rfl dL_law_964 ?_
    refine g_iload_n (j := 3) rfl dL_law_965 ?_
    refine g_iconst dL_law_966 ?_
    refine g_iadd dL_law_967 ?_
    refine g_xald dL_law_968 (by omega) (by omega) h4 ?_
    refine g_aload_n (j := 0) rfl dL_law_969 ?_
    refine g_iload_n (j := 3) rfl dL_law_970 ?_
    refine g_iconst dL_law_971 ?_
    refine g_iadd dL_law_972 ?_
    refine g_xald dL_law_973 (by omega) (by omega) h4 ?_
    refine g_aload_n (j := 0) rfl dL_law_974 ?_
    refine g_iload_n (j := 3) rfl dL_law_975 ?_
    refine g_iconst dL_law_976 ?_
    refine g_iadd dL_law_977 ?_
    refine g_xald dL_law_978 (by omega) (by omega) h4 ?_
    refine g_if_eq (tgt := 986) dL_law_979 (by decide) (sq_i w i 4) (fun _ => ?_) (fun hy => absurd hx hy)
    refine g_iconst dL_law_986 ?_
    refine g_callV dL_law_987 mlL_101 mvX12_many (ci := 12) ⟨by decide, rfl⟩ hM1.1.1.o (k_X12_many (d := 0) (ex := 0) hM1 (sq_i w i 1) (sq_i w i 2) (sq_i w i 3) (by omega)) sv4 rfl (by omega) (Nat.le_of_ble_eq_true rfl) (bc1 := bc - 200) (bs1 := bs - bs0) (by omega) (by omega) (fun v μ2 hR => ?_)
    obtain ⟨rfl, hM2, hF2⟩ := hR
    refine g_icmpS (tgt := 1615) dL_law_990 (by decide) ?_
    exact kk μ2 _ N1 _ _ (hS1.fb hF2) hM2 (by omega) (by omega)
  · refine g_iconst dL_law_950 ?_
    refine g_goto (tgt := 955) (by decide) dL_law_951 ?_
    obtain ⟨bs0, hb0, hC⟩ := k_X11_many (d := 0) (ex := 1) hS (sq_i w i 1) (sq_i w i 2) (sq_i w i 3) (by omega)
    refine g_callV dL_law_955 mlL_97 mvX11_many (ci := 11) ⟨by decide, rfl⟩ hS.o hC sv4 rfl (by omega) (Nat.le_of_ble_eq_true rfl) (bc1 := bc - 200) (bs1 := bs - bs0) (by omega) (by omega) (fun v μ1 hR => ?_)
    obtain ⟨rfl, N1, hS1, hF1, hb1⟩ := hR
    have hM1 := hM.fa hF1
    clear hC
    refine g_aload_n (j := 2) rfl dL_law_958 ?_
    refine g_aload_n (j := 0) rfl dL_law_959 ?_
    refine g_iload_n (j := 3) rfl dL_law_960 ?_
    refine g_iconst dL_law_961 ?_
    refine g_iadd dL_law_962 ?_
    refine g_xald dL_law_963 (by omega) (by omega) h4 ?_
    refine g_aload_n (j := 0) rfl dL_law_964 ?_
    refine g_iload_n (j := 3) rfl dL_law_965 ?_
    refine g_iconst dL_law_966 ?_
    refine g_iadd dL_law_967 ?_
    refine g_xald dL_law_968 (by omega) (by omega) h4 ?_
    refine g_aload_n (j := 0) rfl dL_law_969 ?_
    refine g_iload_n (j := 3) rfl dL_law_970 ?_
    refine g_iconst dL_law_971 ?_
    refine g_iadd dL_law_972 ?_
    refine g_xald dL_law_973 (by omega) (by omega) h4 ?_
    refine g_aload_n (j := 0) rfl dL_law_974 ?_
    refine g_iload_n (j := 3) rfl dL_law_975 ?_
    refine g_iconst dL_law_976 ?_
    refine g_iadd dL_law_977 ?_
    refine g_xald dL_law_978 (by omega) (by omega) h4 ?_
    refine g_if_eq (tgt := 986) dL_law_979 (by decide) (sq_i w i 4) (fun hy => absurd hy hx) (fun _ => ?_)
    refine g_iconst dL_law_982 ?_
    refine g_goto (tgt := 987) (by decide) dL_law_983 ?_
    refine g_callV dL_law_987 mlL_101 mvX12_many (ci := 12) ⟨by decide, rfl⟩ hM1.1.1.o (k_X12_many (d := 0) (ex := 1) hM1 (sq_i w i 1) (sq_i w i 2) (sq_i w i 3) (by omega)) sv4 rfl (by omega) (Nat.le_of_ble_eq_true rfl) (bc1 := bc - 200) (bs1 := bs - bs0) (by omega) (by omega) (fun v μ2 hR => ?_)
    obtain ⟨rfl, hM2, hF2⟩ := hR
    refine g_icmpS (tgt := 1615) dL_law_990 (by decide) ?_
    exact kk μ2 _ N1 _ _ (hS1.fb hF2) hM2 (by omega) (by omega)
theorem lw_19 {w : WC} {x k N bc bs : Nat} {i : Int} {μ : Mem} {S : LSt} (hS : CS w μ x S N) (hM : Mst w μ (x + 99) S) (h0 : 0 ≤ i) (h1 : i + 8 ≤ ((wX w).2.1 : Int)) (h4 : (wX w).2.1 ≤ 4096) (hbc : 200 * (k + 1) ≤ bc) (hbs : 12002 * (k + 1) + pot N ≤ bs) (kk : LwK w x k i) : G w 48 mL_law LwQ bc bs 995 [some (vP (some (wX w).1)), some (vP (some x)), some (vP (some (x + 99))), some (vI i)] [] μ := by
  refine g_aload_n (j := 1) rfl dL_law_995 ?_
  refine g_aload_n (j := 0) rfl dL_law_996 ?_
  refine g_iload_n (j := 3) rfl dL_law_997 ?_
  refine g_iconst dL_law_998 ?_
  refine g_iadd dL_law_999 ?_
  refine g_xald dL_law_1000 (by omega) (by omega) h4 ?_
  refine g_aload_n (j := 0) rfl dL_law_1001 ?_
  refine g_iload_n (j := 3) rfl dL_law_1002 ?_
  refine g_iconst dL_law_1003 ?_
  refine g_iadd dL_law_1004 ?_
  refine g_xald dL_law_1005 (by omega) (by omega) h4 ?_
  refine g_aload_n (j := 0) rfl dL_law_1006 ?_
  refine g_iload_n (j := 3) rfl dL_law_1007 ?_
  refine g_iconst dL_law_1008 ?_
  refine g_iadd dL_law_1009 ?_
  refine g_xald dL_law_1010 (by omega) (by omega) h4 ?_
  obtain ⟨bs0, hb0, hC⟩ := k_X11_greed (d := 0) hS (sq_i w i 1) (sq_i w i 2) (sq_i w i 3)
  refine g_callV dL_law_1011 mlL_102 mvX11_greed (ci := 11) ⟨by decide, rfl⟩ hS.o hC sv3 rfl (by omega) (Nat.le_of_ble_eq_true rfl) (bc1 := bc - 200) (bs1 := bs - bs0) (by omega) (by omega) (fun v μ1 hR => ?_)
  obtain ⟨rfl, N1, hS1, hF1, hb1⟩ := hR
  have hM1 := hM.fa hF1
  clear hC
  refine g_aload_n (j := 2) rfl dL_law_1014 ?_
  refine g_aload_n (j := 0) rfl dL_law_1015 ?_
  refine g_iload_n (j := 3) rfl dL_law_1016 ?_
  refine g_iconst dL_law_1017 ?_
  refine g_iadd dL_law_1018 ?_
  refine g_xald dL_law_1019 (by omega) (by omega) h4 ?_
  refine g_aload_n (j := 0) rfl dL_law_1020 ?_
  refine g_iload_n (j := 3) rfl dL_law_1021 ?_
  refine g_iconst dL_law_1022 ?_
  refine g_iadd dL_law_1023 ?_
  refine g_xald dL_law_1024 (by omega) (by omega) h4 ?_
  refine g_aload_n (j := 0) rfl dL_law_1025 ?_
  refine g_iload_n (j := 3) rfl dL_law_1026 ?_
  refine g_iconst dL_law_1027 ?_
  refine g_iadd dL_law_1028 ?_
  refine g_xald dL_law_1029 (by omega) (by omega) h4 ?_
  refine g_callV dL_law_1030 mlL_105 mvX12_greed (ci := 12) ⟨by decide, rfl⟩ hM1.1.1.o (k_X12_greed (d := 0) hM1 (sq_i w i 1) (sq_i w i 2) (sq_i w i 3)) sv3 rfl (by omega) (Nat.le_of_ble_eq_true rfl) (bc1 := bc - 200) (bs1 := bs - bs0) (by omega) (by omega) (fun v μ2 hR => ?_)
  obtain ⟨rfl, hM2, hF2⟩ := hR
  refine g_icmpS (tgt := 1615) dL_law_1033 (by decide) ?_
  exact kk μ2 _ N1 _ _ (hS1.fb hF2) hM2 (by omega) (by omega)
theorem lw_20 {w : WC} {x k N bc bs : Nat} {i : Int} {μ : Mem} {S : LSt} (hS : CS w μ x S N) (hM : Mst w μ (x + 99) S) (h0 : 0 ≤ i) (h1 : i + 8 ≤ ((wX w).2.1 : Int)) (h4 : (wX w).2.1 ≤ 4096) (hbc : 200 * (k + 1) ≤ bc) (hbs : 12002 * (k + 1) + pot N ≤ bs) (kk : LwK w x k i) : G w 48 mL_law LwQ bc bs 1038 [some (vP (some (wX w).1)), some (vP (some x)), some (vP (some (x + 99))), some (vI i)] [] μ := by
  refine g_aload_n (j := 1) rfl dL_law_1038 ?_
  refine g_aload_n (j := 0) rfl dL_law_1039 ?_
  refine g_iload_n (j := 3) rfl dL_law_1040 ?_
  refine g_iconst dL_law_1041 ?_
  refine g_iadd dL_law_1042 ?_
  refine g_xald dL_law_1043 (by omega) (by omega) h4 ?_
  refine g_aload_n (j := 0) rfl dL_law_1044 ?_
  refine g_iload_n (j := 3) rfl dL_law_1045 ?_
  refine g_iconst dL_law_1046 ?_
  refine g_iadd dL_law_1047 ?_
  refine g_xald dL_law_1048 (by omega) (by omega) h4 ?_
  obtain ⟨bs0, hb0, hC⟩ := k_X11_nearest (d := 0) hS (sq_i w i 1) (sq_i w i 2)
  refine g_callV dL_law_1049 mlL_106 mvX11_nearest (ci := 11) ⟨by decide, rfl⟩ hS.o hC sv2 rfl (by omega) (Nat.le_of_ble_eq_true rfl) (bc1 := bc - 200) (bs1 := bs - bs0) (by omega) (by omega) (fun v μ1 hR => ?_)
  obtain ⟨rfl, N1, hS1, hF1, hb1⟩ := hR
  have hM1 := hM.fa hF1
  clear hC
  refine g_aload_n (j := 2) rfl dL_law_1052 ?_
  refine g_aload_n (j := 0) rfl dL_law_1053 ?_
  refine g_iload_n (j := 3) rfl dL_law_1054 ?_
  refine g_iconst dL_law_1055 ?_
  refine g_iadd dL_law_1056 ?_
  refine g_xald dL_law_1057 (by omega) (by omega) h4 ?_
  refine g_aload_n (j := 0) rfl dL_law_1058 ?_
  refine g_iload_n (j := 3) rfl dL_law_1059 ?_
  refine g_iconst dL_law_1060 ?_
  refine g_iadd dL_law_1061 ?_
  refine g_xald dL_law_1062 (by omega) (by omega) h4 ?_
  refine g_callV dL_law_1063 mlL_110 mvX12_nearest (ci := 12) ⟨by decide, rfl⟩ hM1.1.1.o (k_X12_nearest (d := 0) hM1 (sq_i w i 1) (sq_i w i 2)) sv2 rfl (by omega) (Nat.le_of_ble_eq_true rfl) (bc1 := bc - 200) (bs1 := bs - bs0) (by omega) (by omega) (fun v μ2 hR => ?_)
  obtain ⟨rfl, hM2, hF2⟩ := hR
  refine g_icmpS (tgt := 1615) dL_law_1066 (by decide) ?_
  exact kk μ2 _ N1 _ _ (hS1.fb hF2) hM2 (by omega) (by omega)
theorem lw_21 {w : WC} {x k N bc bs : Nat} {i : Int} {μ : Mem} {S : LSt} (hS : CS w μ x S N) (hM : Mst w μ (x + 99) S) (h0 : 0 ≤ i) (h1 : i + 8 ≤ ((wX w).2.1 : Int)) (h4 : (wX w).2.1 ≤ 4096) (hbc : 200 * (k + 1) ≤ bc) (hbs : 12002 * (k + 1) + pot N ≤ bs) (kk : LwK w x k i) : G w 48 mL_law LwQ bc bs 1071 [some (vP (some (wX w).1)), some (vP (some x)), some (vP (some (x + 99))), some (vI i)] [] μ := by
  refine g_aload_n (j := 1) rfl dL_law_1071 ?_
  refine g_aload_n (j := 0) rfl dL_law_1072 ?_
  refine g_iload_n (j := 3) rfl dL_law_1073 ?_
  refine g_iconst dL_law_1074 ?_
  refine g_iadd dL_law_1075 ?_
  refine g_xald dL_law_1076 (by omega) (by omega) h4 ?_
  refine g_aload_n (j := 0) rfl dL_law_1077 ?_
  refine g_iload_n (j := 3) rfl dL_law_1078 ?_
  refine g_iconst dL_law_1079 ?_
  refine g_iadd dL_law_1080 ?_
  refine g_xald dL_law_1081 (by omega) (by omega) h4 ?_
  obtain ⟨bs0, hb0, hC⟩ := k_X11_enough (d := 0) hS (sq_i w i 1) (sq_i w i 2)
  refine g_callV dL_law_1082 mlL_111 mvX11_enough (ci := 11) ⟨by decide, rfl⟩ hS.o hC sv2 rfl (by omega) (Nat.le_of_ble_eq_true rfl) (bc1 := bc - 200) (bs1 := bs - bs0) (by omega) (by omega) (fun v μ1 hR => ?_)
  obtain ⟨rfl, N1, hS1, hF1, hb1⟩ := hR
  have hM1 := hM.fa hF1
  clear hC
  refine g_aload_n (j := 2) rfl dL_law_1085 ?_
  refine g_aload_n (j := 0) rfl dL_law_1086 ?_
  refine g_iload_n (j := 3) rfl dL_law_1087 ?_
  refine g_iconst dL_law_1088 ?_
  refine g_iadd dL_law_1089 ?_
  refine g_xald dL_law_1090 (by omega) (by omega) h4 ?_
  refine g_aload_n (j := 0) rfl dL_law_1091 ?_
  refine g_iload_n (j := 3) rfl dL_law_1092 ?_
  refine g_iconst dL_law_1093 ?_
  refine g_iadd dL_law_1094 ?_
  refine g_xald dL_law_1095 (by omega) (by omega) h4 ?_
  refine g_callV dL_law_1096 mlL_114 mvX12_enough (ci := 12) ⟨by decide, rfl⟩ hM1.1.1.o (k_X12_enough (d := 0) hM1 (sq_i w i 1) (sq_i w i 2)) sv2 rfl (by omega) (Nat.le_of_ble_eq_true rfl) (bc1 := bc - 200) (bs1 := bs - bs0) (by omega) (by omega) (fun v μ2 hR => ?_)
  obtain ⟨rfl, hM2, hF2⟩ := hR
  refine g_icmpS (tgt := 1615) dL_law_1099 (by decide) ?_
  exact kk μ2 _ N1 _ _ (hS1.fb hF2) hM2 (by omega) (by omega)
theorem lw_22 {w : WC} {x k N bc bs : Nat} {i : Int} {μ : Mem} {S : LSt} (hS : CS w μ x S N) (hM : Mst w μ (x + 99) S) (h0 : 0 ≤ i) (h1 : i + 8 ≤ ((wX w).2.1 : Int)) (h4 : (wX w).2.1 ≤ 4096) (hbc : 200 * (k + 1) ≤ bc) (hbs : 12002 * (k + 1) + pot N ≤ bs) (kk : LwK w x k i) : G w 48 mL_law LwQ bc bs 1104 [some (vP (some (wX w).1)), some (vP (some x)), some (vP (some (x + 99))), some (vI i)] [] μ := by
  refine g_aload_n (j := 1) rfl dL_law_1104 ?_
  refine g_aload_n (j := 0) rfl dL_law_1105 ?_
  refine g_iload_n (j := 3) rfl dL_law_1106 ?_
  refine g_iconst dL_law_1107 ?_
  refine g_iadd dL_law_1108 ?_
  refine g_xald dL_law_1109 (by omega) (by omega) h4 ?_
  refine g_aload_n (j := 0) rfl dL_law_1110 ?_
  refine g_iload_n (j := 3) rfl dL_law_1111 ?_
  refine g_iconst dL_law_1112 ?_
  refine g_iadd dL_law_1113 ?_
  refine g_xald dL_law_1114 (by omega) (by omega) h4 ?_
  refine g_aload_n (j := 0) rfl dL_law_1115 ?_
  refine g_iload_n (j := 3) rfl dL_law_1116 ?_
  refine g_iconst dL_law_1117 ?_
  refine g_iadd dL_law_1118 ?_
  refine g_xald dL_law_1119 (by omega) (by omega) h4 ?_
  obtain ⟨bs0, hb0, hC⟩ := k_X11_join (d := 0) hS (sq_i w i 1) (sq_i w i 2) (sq_i w i 3)
  refine g_callV dL_law_1120 mlL_115 mvX11_join (ci := 11) ⟨by decide, rfl⟩ hS.o hC sv3 rfl (by omega) (Nat.le_of_ble_eq_true rfl) (bc1 := bc - 200) (bs1 := bs - bs0) (by omega) (by omega) (fun v μ1 hR => ?_)
  obtain ⟨rfl, N1, hS1, hF1, hb1⟩ := hR
  have hM1 := hM.fa hF1
  clear hC
  refine g_aload_n (j := 2) rfl dL_law_1123 ?_
  refine g_aload_n (j := 0) rfl dL_law_1124 ?_
  refine g_iload_n (j := 3) rfl dL_law_1125 ?_
  refine g_iconst dL_law_1126 ?_
  refine g_iadd dL_law_1127 ?_
  refine g_xald dL_law_1128 (by omega) (by omega) h4 ?_
  refine g_aload_n (j := 0) rfl dL_law_1129 ?_
  refine g_iload_n (j := 3) rfl dL_law_1130 ?_
  refine g_iconst dL_law_1131 ?_
  refine g_iadd dL_law_1132 ?_
  refine g_xald dL_law_1133 (by omega) (by omega) h4 ?_
  refine g_aload_n (j := 0) rfl dL_law_1134 ?_
  refine g_iload_n (j := 3) rfl dL_law_1135 ?_
  refine g_iconst dL_law_1136 ?_
  refine g_iadd dL_law_1137 ?_
  refine g_xald dL_law_1138 (by omega) (by omega) h4 ?_
  refine g_callV dL_law_1139 mlL_119 mvX12_join (ci := 12) ⟨by decide, rfl⟩ hM1.1.1.o (k_X12_join (d := 0) hM1 (sq_i w i 1) (sq_i w i 2) (sq_i w i 3)) sv3 rfl (by omega) (Nat.le_of_ble_eq_true rfl) (bc1 := bc - 200) (bs1 := bs - bs0) (by omega) (by omega) (fun v μ2 hR => ?_)
  obtain ⟨rfl, hM2, hF2⟩ := hR
  refine g_icmpS (tgt := 1615) dL_law_1142 (by decide) ?_
  exact kk μ2 _ N1 _ _ (hS1.fb hF2) hM2 (by omega) (by omega)
theorem lw_23 {w : WC} {x k N bc bs : Nat} {i : Int} {μ : Mem} {S : LSt} (hS : CS w μ x S N) (hM : Mst w μ (x + 99) S) (h0 : 0 ≤ i) (h1 : i + 8 ≤ ((wX w).2.1 : Int)) (h4 : (wX w).2.1 ≤ 4096) (hbc : 200 * (k + 1) ≤ bc) (hbs : 12002 * (k + 1) + pot N ≤ bs) (kk : LwK w x k i) : G w 48 mL_law LwQ bc bs 1147 [some (vP (some (wX w).1)), some (vP (some x)), some (vP (some (x + 99))), some (vI i)] [] μ := by
  refine g_aload_n (j := 1) rfl dL_law_1147 ?_
  refine g_aload_n (j := 0) rfl dL_law_1148 ?_
  refine g_iload_n (j := 3) rfl dL_law_1149 ?_
  refine g_iconst dL_law_1150 ?_
  refine g_iadd dL_law_1151 ?_
  refine g_xald dL_law_1152 (by omega) (by omega) h4 ?_
  refine g_aload_n (j := 0) rfl dL_law_1153 ?_
  refine g_iload_n (j := 3) rfl dL_law_1154 ?_
  refine g_iconst dL_law_1155 ?_
  refine g_iadd dL_law_1156 ?_
  refine g_xald dL_law_1157 (by omega) (by omega) h4 ?_
  obtain ⟨bs0, hb0, hC⟩ := k_X11_drop (d := 0) hS (sq_i w i 1) (sq_i w i 2)
  refine g_callV dL_law_1158 mlL_120 mvX11_drop (ci := 11) ⟨by decide, rfl⟩ hS.o hC sv2 rfl (by omega) (Nat.le_of_ble_eq_true rfl) (bc1 := bc - 200) (bs1 := bs - bs0) (by omega) (by omega) (fun v μ1 hR => ?_)
  obtain ⟨rfl, N1, hS1, hF1, hb1⟩ := hR
  have hM1 := hM.fa hF1
  clear hC
  refine g_aload_n (j := 2) rfl dL_law_1161 ?_
  refine g_aload_n (j := 0) rfl dL_law_1162 ?_
  refine g_iload_n (j := 3) rfl dL_law_1163 ?_
  refine g_iconst dL_law_1164 ?_
  refine g_iadd dL_law_1165 ?_
  refine g_xald dL_law_1166 (by omega) (by omega) h4 ?_
  refine g_aload_n (j := 0) rfl dL_law_1167 ?_
  refine g_iload_n (j := 3) rfl dL_law_1168 ?_
  refine g_iconst dL_law_1169 ?_
  refine g_iadd dL_law_1170 ?_
  refine g_xald dL_law_1171 (by omega) (by omega) h4 ?_
  refine g_callV dL_law_1172 mlL_124 mvX12_drop (ci := 12) ⟨by decide, rfl⟩ hM1.1.1.o (k_X12_drop (d := 0) hM1 (sq_i w i 1) (sq_i w i 2)) sv2 rfl (by omega) (Nat.le_of_ble_eq_true rfl) (bc1 := bc - 200) (bs1 := bs - bs0) (by omega) (by omega) (fun v μ2 hR => ?_)
  obtain ⟨rfl, hM2, hF2⟩ := hR
  refine g_icmpS (tgt := 1615) dL_law_1175 (by decide) ?_
  exact kk μ2 _ N1 _ _ (hS1.fb hF2) hM2 (by omega) (by omega)
theorem lw_24 {w : WC} {x k N bc bs : Nat} {i : Int} {μ : Mem} {S : LSt} (hS : CS w μ x S N) (hM : Mst w μ (x + 99) S) (h0 : 0 ≤ i) (h1 : i + 8 ≤ ((wX w).2.1 : Int)) (h4 : (wX w).2.1 ≤ 4096) (hbc : 200 * (k + 1) ≤ bc) (hbs : 12002 * (k + 1) + pot N ≤ bs) (kk : LwK w x k i) : G w 48 mL_law LwQ bc bs 1180 [some (vP (some (wX w).1)), some (vP (some x)), some (vP (some (x + 99))), some (vI i)] [] μ := by
  refine g_aload_n (j := 1) rfl dL_law_1180 ?_
  refine g_aload_n (j := 0) rfl dL_law_1181 ?_
  refine g_iload_n (j := 3) rfl dL_law_1182 ?_
  refine g_iconst dL_law_1183 ?_
  refine g_iadd dL_law_1184 ?_
  refine g_xald dL_law_1185 (by omega) (by omega) h4 ?_
  refine g_aload_n (j := 0) rfl dL_law_1186 ?_
  refine g_iload_n (j := 3) rfl dL_law_1187 ?_
  refine g_iconst dL_law_1188 ?_
  refine g_iadd dL_law_1189 ?_
  refine g_xald dL_law_1190 (by omega) (by omega) h4 ?_
  obtain ⟨bs0, hb0, hC⟩ := k_X11_lead (d := 0) hS (sq_i w i 1) (sq_i w i 2)
  refine g_callV dL_law_1191 mlL_125 mvX11_lead (ci := 11) ⟨by decide, rfl⟩ hS.o hC sv2 rfl (by omega) (Nat.le_of_ble_eq_true rfl) (bc1 := bc - 200) (bs1 := bs - bs0) (by omega) (by omega) (fun v μ1 hR => ?_)
  obtain ⟨rfl, N1, hS1, hF1, hb1⟩ := hR
  have hM1 := hM.fa hF1
  clear hC
  refine g_aload_n (j := 2) rfl dL_law_1194 ?_
  refine g_aload_n (j := 0) rfl dL_law_1195 ?_
  refine g_iload_n (j := 3) rfl dL_law_1196 ?_
  refine g_iconst dL_law_1197 ?_
  refine g_iadd dL_law_1198 ?_
  refine g_xald dL_law_1199 (by omega) (by omega) h4 ?_
  refine g_aload_n (j := 0) rfl dL_law_1200 ?_
  refine g_iload_n (j := 3) rfl dL_law_1201 ?_
  refine g_iconst dL_law_1202 ?_
  refine g_iadd dL_law_1203 ?_
  refine g_xald dL_law_1204 (by omega) (by omega) h4 ?_
  refine g_callV dL_law_1205 mlL_128 mvX12_lead (ci := 12) ⟨by decide, rfl⟩ hM1.1.1.o (k_X12_lead (d := 0) hM1 (sq_i w i 1) (sq_i w i 2)) sv2 rfl (by omega) (Nat.le_of_ble_eq_true rfl) (bc1 := bc - 200) (bs1 := bs - bs0) (by omega) (by omega) (fun v μ2 hR => ?_)
  obtain ⟨rfl, hM2, hF2⟩ := hR
  refine g_icmpS (tgt := 1615) dL_law_1208 (by decide) ?_
  exact kk μ2 _ N1 _ _ (hS1.fb hF2) hM2 (by omega) (by omega)
theorem lw_25 {w : WC} {x k N bc bs : Nat} {i : Int} {μ : Mem} {S : LSt} (hS : CS w μ x S N) (hM : Mst w μ (x + 99) S) (h0 : 0 ≤ i) (h1 : i + 8 ≤ ((wX w).2.1 : Int)) (h4 : (wX w).2.1 ≤ 4096) (hbc : 200 * (k + 1) ≤ bc) (hbs : 12002 * (k + 1) + pot N ≤ bs) (kk : LwK w x k i) : G w 48 mL_law LwQ bc bs 1213 [some (vP (some (wX w).1)), some (vP (some x)), some (vP (some (x + 99))), some (vI i)] [] μ := by
  refine g_aload_n (j := 1) rfl dL_law_1213 ?_
  refine g_aload_n (j := 0) rfl dL_law_1214 ?_
  refine g_iload_n (j := 3) rfl dL_law_1215 ?_
  refine g_iconst dL_law_1216 ?_
  refine g_iadd dL_law_1217 ?_
  refine g_xald dL_law_1218 (by omega) (by omega) h4 ?_
  refine g_aload_n (j := 0) rfl dL_law_1219 ?_
  refine g_iload_n (j := 3) rfl dL_law_1220 ?_
  refine g_iconst dL_law_1221 ?_
  refine g_iadd dL_law_1222 ?_
  refine g_xald dL_law_1223 (by omega) (by omega) h4 ?_
  refine g_aload_n (j := 0) rfl dL_law_1224 ?_
  refine g_iload_n (j := 3) rfl dL_law_1225 ?_
  refine g_iconst dL_law_1226 ?_
  refine g_iadd dL_law_1227 ?_
  refine g_xald dL_law_1228 (by omega) (by omega) h4 ?_
  refine g_aload_n (j := 0) rfl dL_law_1229 ?_
  refine g_iload_n (j := 3) rfl dL_law_1230 ?_
  refine g_iconst dL_law_1231 ?_
  refine g_iadd dL_law_1232 ?_
  refine g_xald dL_law_1233 (by omega) (by omega) h4 ?_
  refine g_aload_n (j := 0) rfl dL_law_1234 ?_
  refine g_iload_n (j := 3) rfl dL_law_1235 ?_
  refine g_iconst dL_law_1236 ?_
  refine g_iadd dL_law_1237 ?_
  refine g_xald dL_law_1238 (by omega) (by omega) h4 ?_
  obtain ⟨bs0, hb0, hC⟩ := k_X11_common (d := 0) hS (sq_i w i 1) (sq_i w i 2) (sq_i w i 3) (sq_i w i 4) (sq_i w i 5)
  refine g_callV dL_law_1239 mlL_129 mvX11_common (ci := 11) ⟨by decide, rfl⟩ hS.o hC sv5 rfl (by omega) (Nat.le_of_ble_eq_true rfl) (bc1 := bc - 200) (bs1 := bs - bs0) (by omega) (by omega) (fun v μ1 hR => ?_)
  obtain ⟨rfl, N1, hS1, hF1, hb1⟩ := hR
  have hM1 := hM.fa hF1
  clear hC
  refine g_aload_n (j := 2) rfl dL_law_1242 ?_
  refine g_aload_n (j := 0) rfl dL_law_1243 ?_
  refine g_iload_n (j := 3) rfl dL_law_1244 ?_
  refine g_iconst dL_law_1245 ?_
  refine g_iadd dL_law_1246 ?_
  refine g_xald dL_law_1247 (by omega) (by omega) h4 ?_
  refine g_aload_n (j := 0) rfl dL_law_1248 ?_
  refine g_iload_n (j := 3) rfl dL_law_1249 ?_
  refine g_iconst dL_law_1250 ?_
  refine g_iadd dL_law_1251 ?_
  refine g_xald dL_law_1252 (by omega) (by omega) h4 ?_
  refine g_aload_n (j := 0) rfl dL_law_1253 ?_
  refine g_iload_n (j := 3) rfl dL_law_1254 ?_
  refine g_iconst dL_law_1255 ?_
  refine g_iadd dL_law_1256 ?_
  refine g_xald dL_law_1257 (by omega) (by omega) h4 ?_
  refine g_aload_n (j := 0) rfl dL_law_1258 ?_
  refine g_iload_n (j := 3) rfl dL_law_1259 ?_
  refine g_iconst dL_law_1260 ?_
  refine g_iadd dL_law_1261 ?_
  refine g_xald dL_law_1262 (by omega) (by omega) h4 ?_
  refine g_aload_n (j := 0) rfl dL_law_1263 ?_
  refine g_iload_n (j := 3) rfl dL_law_1264 ?_
  refine g_iconst dL_law_1265 ?_
  refine g_iadd dL_law_1266 ?_
  refine g_xald dL_law_1267 (by omega) (by omega) h4 ?_
  refine g_callV dL_law_1268 mlL_132 mvX12_common (ci := 12) ⟨by decide, rfl⟩ hM1.1.1.o (k_X12_common (d := 0) hM1 (sq_i w i 1) (sq_i w i 2) (sq_i w i 3) (sq_i w i 4) (sq_i w i 5)) sv5 rfl (by omega) (Nat.le_of_ble_eq_true rfl) (bc1 := bc - 200) (bs1 := bs - bs0) (by omega) (by omega) (fun v μ2 hR => ?_)
  obtain ⟨rfl, hM2, hF2⟩ := hR
  refine g_icmpS (tgt := 1615) dL_law_1271 (by decide) ?_
  exact kk μ2 _ N1 _ _ (hS1.fb hF2) hM2 (by omega) (by omega)
theorem lw_26 {w : WC} {x k N bc bs : Nat} {i : Int} {μ : Mem} {S : LSt} (hS : CS w μ x S N) (hM : Mst w μ (x + 99) S) (h0 : 0 ≤ i) (h1 : i + 8 ≤ ((wX w).2.1 : Int)) (h4 : (wX w).2.1 ≤ 4096) (hbc : 200 * (k + 1) ≤ bc) (hbs : 12002 * (k + 1) + pot N ≤ bs) (kk : LwK w x k i) : G w 48 mL_law LwQ bc bs 1276 [some (vP (some (wX w).1)), some (vP (some x)), some (vP (some (x + 99))), some (vI i)] [] μ := by
  refine g_aload_n (j := 1) rfl dL_law_1276 ?_
  refine g_aload_n (j := 0) rfl dL_law_1277 ?_
  refine g_iload_n (j := 3) rfl dL_law_1278 ?_
  refine g_iconst dL_law_1279 ?_
  refine g_iadd dL_law_1280 ?_
  refine g_xald dL_law_1281 (by omega) (by omega) h4 ?_
  refine g_aload_n (j := 0) rfl dL_law_1282 ?_
  refine g_iload_n (j := 3) rfl dL_law_1283 ?_
  refine g_iconst dL_law_1284 ?_
  refine g_iadd dL_law_1285 ?_
  refine g_xald dL_law_1286 (by omega) (by omega) h4 ?_
  obtain ⟨bs0, hb0, hC⟩ := k_X11_tried (d := 0) hS (sq_i w i 1) (sq_i w i 2)
  refine g_callV dL_law_1287 mlL_133 mvX11_tried (ci := 11) ⟨by decide, rfl⟩ hS.o hC sv2 rfl (by omega) (Nat.le_of_ble_eq_true rfl) (bc1 := bc - 200) (bs1 := bs - bs0) (by omega) (by omega) (fun v μ1 hR => ?_)
  obtain ⟨rfl, N1, hS1, hF1, hb1⟩ := hR
  have hM1 := hM.fa hF1
  clear hC
  refine g_aload_n (j := 2) rfl dL_law_1290 ?_
  refine g_aload_n (j := 0) rfl dL_law_1291 ?_
  refine g_iload_n (j := 3) rfl dL_law_1292 ?_
  refine g_iconst dL_law_1293 ?_
  refine g_iadd dL_law_1294 ?_
  refine g_xald dL_law_1295 (by omega) (by omega) h4 ?_
  refine g_aload_n (j := 0) rfl dL_law_1296 ?_
  refine g_iload_n (j := 3) rfl dL_law_1297 ?_
  refine g_iconst dL_law_1298 ?_
  refine g_iadd dL_law_1299 ?_
  refine g_xald dL_law_1300 (by omega) (by omega) h4 ?_
  refine g_callV dL_law_1301 mlL_136 mvX12_tried (ci := 12) ⟨by decide, rfl⟩ hM1.1.1.o (k_X12_tried (d := 0) (hw := hS.1) hM1 (sq_i w i 1) (sq_i w i 2)) sv2 rfl (by omega) (Nat.le_of_ble_eq_true rfl) (bc1 := bc - 200) (bs1 := bs - bs0) (by omega) (by omega) (fun v μ2 hR => ?_)
  obtain ⟨rfl, hM2, hF2⟩ := hR
  refine g_icmpS (tgt := 1615) dL_law_1304 (by decide) ?_
  exact kk μ2 _ N1 _ _ (hS1.fb hF2) hM2 (by omega) (by omega)
theorem lw_27 {w : WC} {x k N bc bs : Nat} {i : Int} {μ : Mem} {S : LSt} (hS : CS w μ x S N) (hM : Mst w μ (x + 99) S) (h0 : 0 ≤ i) (h1 : i + 8 ≤ ((wX w).2.1 : Int)) (h4 : (wX w).2.1 ≤ 4096) (hbc : 200 * (k + 1) ≤ bc) (hbs : 12002 * (k + 1) + pot N ≤ bs) (kk : LwK w x k i) : G w 48 mL_law LwQ bc bs 1309 [some (vP (some (wX w).1)), some (vP (some x)), some (vP (some (x + 99))), some (vI i)] [] μ := by
  refine g_aload_n (j := 1) rfl dL_law_1309 ?_
  refine g_aload_n (j := 0) rfl dL_law_1310 ?_
  refine g_iload_n (j := 3) rfl dL_law_1311 ?_
  refine g_iconst dL_law_1312 ?_
  refine g_iadd dL_law_1313 ?_
  refine g_xald dL_law_1314 (by omega) (by omega) h4 ?_
  refine g_aload_n (j := 0) rfl dL_law_1315 ?_
  refine g_iload_n (j := 3) rfl dL_law_1316 ?_
  refine g_iconst dL_law_1317 ?_
  refine g_iadd dL_law_1318 ?_
  refine g_xald dL_law_1319 (by omega) (by omega) h4 ?_
  refine g_aload_n (j := 0) rfl dL_law_1320 ?_
  refine g_iload_n (j := 3) rfl dL_law_1321 ?_
  refine g_iconst dL_law_1322 ?_
  refine g_iadd dL_law_1323 ?_
  refine g_xald dL_law_1324 (by omega) (by omega) h4 ?_
  refine g_aload_n (j := 0) rfl dL_law_1325 ?_
  refine g_iload_n (j := 3) rfl dL_law_1326 ?_
  refine g_iconst dL_law_1327 ?_
  refine g_iadd dL_law_1328 ?_
  refine g_xald dL_law_1329 (by omega) (by omega) h4 ?_
  refine g_aload_n (j := 0) rfl dL_law_1330 ?_
  refine g_iload_n (j := 3) rfl dL_law_1331 ?_
  refine g_iconst dL_law_1332 ?_
  refine g_iadd dL_law_1333 ?_
  refine g_xald dL_law_1334 (by omega) (by omega) h4 ?_
  refine g_aload_n (j := 0) rfl dL_law_1335 ?_
  refine g_iload_n (j := 3) rfl dL_law_1336 ?_
  refine g_bipush dL_law_1337 (by omega) ?_
  refine g_iadd dL_law_1339 ?_
  refine g_xald dL_law_1340 (by omega) (by omega) h4 ?_
  refine g_aload_n (j := 0) rfl dL_law_1341 ?_
  refine g_iload_n (j := 3) rfl dL_law_1342 ?_
  refine g_bipush dL_law_1343 (by omega) ?_
  refine g_iadd dL_law_1345 ?_
  refine g_xald dL_law_1346 (by omega) (by omega) h4 ?_
  obtain ⟨bs0, hb0, hC⟩ := k_X11_side (d := 0) hS (sq_i w i 1) (sq_i w i 2) (sq_i w i 3) (sq_i w i 4) (sq_i w i 5) (sq_i w i 6) (sq_i w i 7)
  refine g_callV dL_law_1347 mlL_137 mvX11_side (ci := 11) ⟨by decide, rfl⟩ hS.o hC sv7 rfl (by omega) (Nat.le_of_ble_eq_true rfl) (bc1 := bc - 200) (bs1 := bs - bs0) (by omega) (by omega) (fun v μ1 hR => ?_)
  obtain ⟨rfl, N1, hS1, hF1, hb1⟩ := hR
  have hM1 := hM.fa hF1
  clear hC
  refine g_aload_n (j := 2) rfl dL_law_1350 ?_
  refine g_aload_n (j := 0) rfl dL_law_1351 ?_
  refine g_iload_n (j := 3) rfl dL_law_1352 ?_
  refine g_iconst dL_law_1353 ?_
  refine g_iadd dL_law_1354 ?_
  refine g_xald dL_law_1355 (by omega) (by omega) h4 ?_
  refine g_aload_n (j := 0) rfl dL_law_1356 ?_
  refine g_iload_n (j := 3) rfl dL_law_1357 ?_
  refine g_iconst dL_law_1358 ?_
  refine g_iadd dL_law_1359 ?_
  refine g_xald dL_law_1360 (by omega) (by omega) h4 ?_
  refine g_aload_n (j := 0) rfl dL_law_1361 ?_
  refine g_iload_n (j := 3) rfl dL_law_1362 ?_
  refine g_iconst dL_law_1363 ?_
  refine g_iadd dL_law_1364 ?_
  refine g_xald dL_law_1365 (by omega) (by omega) h4 ?_
  refine g_aload_n (j := 0) rfl dL_law_1366 ?_
  refine g_iload_n (j := 3) rfl dL_law_1367 ?_
  refine g_iconst dL_law_1368 ?_
  refine g_iadd dL_law_1369 ?_
  refine g_xald dL_law_1370 (by omega) (by omega) h4 ?_
  refine g_aload_n (j := 0) rfl dL_law_1371 ?_
  refine g_iload_n (j := 3) rfl dL_law_1372 ?_
  refine g_iconst dL_law_1373 ?_
  refine g_iadd dL_law_1374 ?_
  refine g_xald dL_law_1375 (by omega) (by omega) h4 ?_
  refine g_aload_n (j := 0) rfl dL_law_1376 ?_
  refine g_iload_n (j := 3) rfl dL_law_1377 ?_
  refine g_bipush dL_law_1378 (by omega) ?_
  refine g_iadd dL_law_1380 ?_
  refine g_xald dL_law_1381 (by omega) (by omega) h4 ?_
  refine g_aload_n (j := 0) rfl dL_law_1382 ?_
  refine g_iload_n (j := 3) rfl dL_law_1383 ?_
  refine g_bipush dL_law_1384 (by omega) ?_
  refine g_iadd dL_law_1386 ?_
  refine g_xald dL_law_1387 (by omega) (by omega) h4 ?_
  refine g_callV dL_law_1388 mlL_140 mvX12_side (ci := 12) ⟨by decide, rfl⟩ hM1.1.1.o (k_X12_side (d := 0) (hw := hS.1) hM1 (sq_i w i 1) (sq_i w i 2) (sq_i w i 3) (sq_i w i 4) (sq_i w i 5) (sq_i w i 6) (sq_i w i 7)) sv7 rfl (by omega) (Nat.le_of_ble_eq_true rfl) (bc1 := bc - 200) (bs1 := bs - bs0) (by omega) (by omega) (fun v μ2 hR => ?_)
  obtain ⟨rfl, hM2, hF2⟩ := hR
  refine g_lcmpS dL_law_1391 ?_
  refine g_if_eq (tgt := 1615) dL_law_1392 (by decide) i32_0 (fun _ => ?_) (fun hy => absurd rfl hy)
  exact kk μ2 _ N1 _ _ (hS1.fb hF2) hM2 (by omega) (by omega)
theorem lw_28 {w : WC} {x k N bc bs : Nat} {i : Int} {μ : Mem} {S : LSt} (hS : CS w μ x S N) (hM : Mst w μ (x + 99) S) (h0 : 0 ≤ i) (h1 : i + 8 ≤ ((wX w).2.1 : Int)) (h4 : (wX w).2.1 ≤ 4096) (hbc : 200 * (k + 1) ≤ bc) (hbs : 12002 * (k + 1) + pot N ≤ bs) (kk : LwK w x k i) : G w 48 mL_law LwQ bc bs 1397 [some (vP (some (wX w).1)), some (vP (some x)), some (vP (some (x + 99))), some (vI i)] [] μ := by
  refine g_aload_n (j := 1) rfl dL_law_1397 ?_
  refine g_aload_n (j := 0) rfl dL_law_1398 ?_
  refine g_iload_n (j := 3) rfl dL_law_1399 ?_
  refine g_iconst dL_law_1400 ?_
  refine g_iadd dL_law_1401 ?_
  refine g_xald dL_law_1402 (by omega) (by omega) h4 ?_
  obtain ⟨bs0, hb0, hC⟩ := k_X11_spell (d := 0) hS (sq_i w i 1)
  refine g_callV dL_law_1403 mlL_141 mvX11_spell (ci := 11) ⟨by decide, rfl⟩ hS.o hC sv1 rfl (by omega) (Nat.le_of_ble_eq_true rfl) (bc1 := bc - 200) (bs1 := bs - bs0) (by omega) (by omega) (fun v μ1 hR => ?_)
  obtain ⟨rfl, N1, hS1, hF1, hb1⟩ := hR
  have hM1 := hM.fa hF1
  clear hC
  refine g_aload_n (j := 2) rfl dL_law_1406 ?_
  refine g_aload_n (j := 0) rfl dL_law_1407 ?_
  refine g_iload_n (j := 3) rfl dL_law_1408 ?_
  refine g_iconst dL_law_1409 ?_
  refine g_iadd dL_law_1410 ?_
  refine g_xald dL_law_1411 (by omega) (by omega) h4 ?_
  refine g_callV dL_law_1412 mlL_144 mvX12_spell (ci := 12) ⟨by decide, rfl⟩ hM1.1.1.o (k_X12_spell (d := 0) hM1 (sq_i w i 1)) sv1 rfl (by omega) (Nat.le_of_ble_eq_true rfl) (bc1 := bc - 200) (bs1 := bs - bs0) (by omega) (by omega) (fun v μ2 hR => ?_)
  obtain ⟨rfl, hM2, hF2⟩ := hR
  refine g_icmpS (tgt := 1615) dL_law_1415 (by decide) ?_
  exact kk μ2 _ N1 _ _ (hS1.fb hF2) hM2 (by omega) (by omega)
theorem lw_29 {w : WC} {x k N bc bs : Nat} {i : Int} {μ : Mem} {S : LSt} (hS : CS w μ x S N) (hM : Mst w μ (x + 99) S) (h0 : 0 ≤ i) (h1 : i + 8 ≤ ((wX w).2.1 : Int)) (h4 : (wX w).2.1 ≤ 4096) (hbc : 200 * (k + 1) ≤ bc) (hbs : 12002 * (k + 1) + pot N ≤ bs) (kk : LwK w x k i) : G w 48 mL_law LwQ bc bs 1420 [some (vP (some (wX w).1)), some (vP (some x)), some (vP (some (x + 99))), some (vI i)] [] μ := by
  refine g_aload_n (j := 1) rfl dL_law_1420 ?_
  refine g_aload_n (j := 0) rfl dL_law_1421 ?_
  refine g_iload_n (j := 3) rfl dL_law_1422 ?_
  refine g_iconst dL_law_1423 ?_
  refine g_iadd dL_law_1424 ?_
  refine g_xald dL_law_1425 (by omega) (by omega) h4 ?_
  refine g_aload_n (j := 0) rfl dL_law_1426 ?_
  refine g_iload_n (j := 3) rfl dL_law_1427 ?_
  refine g_iconst dL_law_1428 ?_
  refine g_iadd dL_law_1429 ?_
  refine g_xald dL_law_1430 (by omega) (by omega) h4 ?_
  refine g_aload_n (j := 0) rfl dL_law_1431 ?_
  refine g_iload_n (j := 3) rfl dL_law_1432 ?_
  refine g_iconst dL_law_1433 ?_
  refine g_iadd dL_law_1434 ?_
  refine g_xald dL_law_1435 (by omega) (by omega) h4 ?_
  obtain ⟨bs0, hb0, hC⟩ := k_X11_write (d := 0) hS (sq_i w i 1) (sq_i w i 2) (sq_i w i 3)
  refine g_callV dL_law_1436 mlL_145 mvX11_write (ci := 11) ⟨by decide, rfl⟩ hS.o hC sv3 rfl (by omega) (Nat.le_of_ble_eq_true rfl) (bc1 := bc - 200) (bs1 := bs - bs0) (by omega) (by omega) (fun v μ1 hR => ?_)
  obtain ⟨rfl, N1, hS1, hF1, hb1⟩ := hR
  have hM1 := hM.fa hF1
  clear hC
  refine g_aload_n (j := 2) rfl dL_law_1439 ?_
  refine g_aload_n (j := 0) rfl dL_law_1440 ?_
  refine g_iload_n (j := 3) rfl dL_law_1441 ?_
  refine g_iconst dL_law_1442 ?_
  refine g_iadd dL_law_1443 ?_
  refine g_xald dL_law_1444 (by omega) (by omega) h4 ?_
  refine g_aload_n (j := 0) rfl dL_law_1445 ?_
  refine g_iload_n (j := 3) rfl dL_law_1446 ?_
  refine g_iconst dL_law_1447 ?_
  refine g_iadd dL_law_1448 ?_
  refine g_xald dL_law_1449 (by omega) (by omega) h4 ?_
  refine g_aload_n (j := 0) rfl dL_law_1450 ?_
  refine g_iload_n (j := 3) rfl dL_law_1451 ?_
  refine g_iconst dL_law_1452 ?_
  refine g_iadd dL_law_1453 ?_
  refine g_xald dL_law_1454 (by omega) (by omega) h4 ?_
  refine g_callV dL_law_1455 mlL_148 mvX12_write (ci := 12) ⟨by decide, rfl⟩ hM1.1.1.o (k_X12_write (d := 0) hM1 (sq_i w i 1) (sq_i w i 2) (sq_i w i 3)) sv3 rfl (by omega) (Nat.le_of_ble_eq_true rfl) (bc1 := bc - 200) (bs1 := bs - bs0) (by omega) (by omega) (fun v μ2 hR => ?_)
  obtain ⟨rfl, hM2, hF2⟩ := hR
  refine g_icmpS (tgt := 1615) dL_law_1458 (by decide) ?_
  exact kk μ2 _ N1 _ _ (hS1.fb hF2) hM2 (by omega) (by omega)
theorem lw_30 {w : WC} {x k N bc bs : Nat} {i : Int} {μ : Mem} {S : LSt} (hS : CS w μ x S N) (hM : Mst w μ (x + 99) S) (h0 : 0 ≤ i) (h1 : i + 8 ≤ ((wX w).2.1 : Int)) (h4 : (wX w).2.1 ≤ 4096) (hbc : 200 * (k + 1) ≤ bc) (hbs : 12002 * (k + 1) + pot N ≤ bs) (kk : LwK w x k i) : G w 48 mL_law LwQ bc bs 1463 [some (vP (some (wX w).1)), some (vP (some x)), some (vP (some (x + 99))), some (vI i)] [] μ := by
  refine g_aload_n (j := 1) rfl dL_law_1463 ?_
  refine g_aload_n (j := 0) rfl dL_law_1464 ?_
  refine g_iload_n (j := 3) rfl dL_law_1465 ?_
  refine g_iconst dL_law_1466 ?_
  refine g_iadd dL_law_1467 ?_
  refine g_xald dL_law_1468 (by omega) (by omega) h4 ?_
  obtain ⟨bs0, hb0, hC⟩ := k_X11_out (d := 0) hS (sq_i w i 1)
  refine g_callV dL_law_1469 mlL_149 mvX11_out (ci := 11) ⟨by decide, rfl⟩ hS.o hC sv1 rfl (by omega) (Nat.le_of_ble_eq_true rfl) (bc1 := bc - 200) (bs1 := bs - bs0) (by omega) (by omega) (fun v μ1 hR => ?_)
  obtain ⟨rfl, N1, hS1, hF1, hb1⟩ := hR
  have hM1 := hM.fa hF1
  clear hC
  refine g_aload_n (j := 2) rfl dL_law_1472 ?_
  refine g_aload_n (j := 0) rfl dL_law_1473 ?_
  refine g_iload_n (j := 3) rfl dL_law_1474 ?_
  refine g_iconst dL_law_1475 ?_
  refine g_iadd dL_law_1476 ?_
  refine g_xald dL_law_1477 (by omega) (by omega) h4 ?_
  refine g_callV dL_law_1478 mlL_152 mvX12_out (ci := 12) ⟨by decide, rfl⟩ hM1.1.1.o (k_X12_out (d := 0) hM1 (sq_i w i 1)) sv1 rfl (by omega) (Nat.le_of_ble_eq_true rfl) (bc1 := bc - 200) (bs1 := bs - bs0) (by omega) (by omega) (fun v μ2 hR => ?_)
  obtain ⟨rfl, hM2, hF2⟩ := hR
  refine g_icmpS (tgt := 1615) dL_law_1481 (by decide) ?_
  exact kk μ2 _ N1 _ _ (hS1.fb hF2) hM2 (by omega) (by omega)
theorem lw_31 {w : WC} {x k N bc bs : Nat} {i : Int} {μ : Mem} {S : LSt} (hS : CS w μ x S N) (hM : Mst w μ (x + 99) S) (h0 : 0 ≤ i) (h1 : i + 8 ≤ ((wX w).2.1 : Int)) (h4 : (wX w).2.1 ≤ 4096) (hbc : 200 * (k + 1) ≤ bc) (hbs : 12002 * (k + 1) + pot N ≤ bs) (kk : LwK w x k i) : G w 48 mL_law LwQ bc bs 1486 [some (vP (some (wX w).1)), some (vP (some x)), some (vP (some (x + 99))), some (vI i)] [] μ := by
  refine g_aload_n (j := 1) rfl dL_law_1486 ?_
  refine g_aload_n (j := 0) rfl dL_law_1487 ?_
  refine g_iload_n (j := 3) rfl dL_law_1488 ?_
  refine g_iconst dL_law_1489 ?_
  refine g_iadd dL_law_1490 ?_
  refine g_xald dL_law_1491 (by omega) (by omega) h4 ?_
  refine g_aload_n (j := 0) rfl dL_law_1492 ?_
  refine g_iload_n (j := 3) rfl dL_law_1493 ?_
  refine g_iconst dL_law_1494 ?_
  refine g_iadd dL_law_1495 ?_
  refine g_xald dL_law_1496 (by omega) (by omega) h4 ?_
  refine g_aload_n (j := 0) rfl dL_law_1497 ?_
  refine g_iload_n (j := 3) rfl dL_law_1498 ?_
  refine g_iconst dL_law_1499 ?_
  refine g_iadd dL_law_1500 ?_
  refine g_xald dL_law_1501 (by omega) (by omega) h4 ?_
  refine g_aload_n (j := 0) rfl dL_law_1502 ?_
  refine g_iload_n (j := 3) rfl dL_law_1503 ?_
  refine g_iconst dL_law_1504 ?_
  refine g_iadd dL_law_1505 ?_
  refine g_xald dL_law_1506 (by omega) (by omega) h4 ?_
  obtain ⟨bs0, hb0, hC⟩ := k_X11_gap (d := 0) hS (sq_i w i 1) (sq_i w i 2) (sq_i w i 3) (sq_i w i 4)
  refine g_callV dL_law_1507 mlL_153 mvX11_gap (ci := 11) ⟨by decide, rfl⟩ hS.o hC sv4 rfl (by omega) (Nat.le_of_ble_eq_true rfl) (bc1 := bc - 200) (bs1 := bs - bs0) (by omega) (by omega) (fun v μ1 hR => ?_)
  obtain ⟨rfl, N1, hS1, hF1, hb1⟩ := hR
  have hM1 := hM.fa hF1
  clear hC
  refine g_aload_n (j := 2) rfl dL_law_1510 ?_
  refine g_aload_n (j := 0) rfl dL_law_1511 ?_
  refine g_iload_n (j := 3) rfl dL_law_1512 ?_
  refine g_iconst dL_law_1513 ?_
  refine g_iadd dL_law_1514 ?_
  refine g_xald dL_law_1515 (by omega) (by omega) h4 ?_
  refine g_aload_n (j := 0) rfl dL_law_1516 ?_
  refine g_iload_n (j := 3) rfl dL_law_1517 ?_
  refine g_iconst dL_law_1518 ?_
  refine g_iadd dL_law_1519 ?_
  refine g_xald dL_law_1520 (by omega) (by omega) h4 ?_
  refine g_aload_n (j := 0) rfl dL_law_1521 ?_
  refine g_iload_n (j := 3) rfl dL_law_1522 ?_
  refine g_iconst dL_law_1523 ?_
  refine g_iadd dL_law_1524 ?_
  refine g_xald dL_law_1525 (by omega) (by omega) h4 ?_
  refine g_aload_n (j := 0) rfl dL_law_1526 ?_
  refine g_iload_n (j := 3) rfl dL_law_1527 ?_
  refine g_iconst dL_law_1528 ?_
  refine g_iadd dL_law_1529 ?_
  refine g_xald dL_law_1530 (by omega) (by omega) h4 ?_
  refine g_callV dL_law_1531 mlL_156 mvX12_gap (ci := 12) ⟨by decide, rfl⟩ hM1.1.1.o (k_X12_gap (d := 0) hM1 (sq_i w i 1) (sq_i w i 2) (sq_i w i 3) (sq_i w i 4)) sv4 rfl (by omega) (Nat.le_of_ble_eq_true rfl) (bc1 := bc - 200) (bs1 := bs - bs0) (by omega) (by omega) (fun v μ2 hR => ?_)
  obtain ⟨rfl, hM2, hF2⟩ := hR
  refine g_icmpS (tgt := 1615) dL_law_1534 (by decide) ?_
  exact kk μ2 _ N1 _ _ (hS1.fb hF2) hM2 (by omega) (by omega)
theorem lw_32 {w : WC} {x k N bc bs : Nat} {i : Int} {μ : Mem} {S : LSt} (hS : CS w μ x S N) (hM : Mst w μ (x + 99) S) (h0 : 0 ≤ i) (h1 : i + 8 ≤ ((wX w).2.1 : Int)) (h4 : (wX w).2.1 ≤ 4096) (hbc : 200 * (k + 1) ≤ bc) (hbs : 12002 * (k + 1) + pot N ≤ bs) (kk : LwK w x k i) : G w 48 mL_law LwQ bc bs 1539 [some (vP (some (wX w).1)), some (vP (some x)), some (vP (some (x + 99))), some (vI i)] [] μ := by
  refine g_aload_n (j := 1) rfl dL_law_1539 ?_
  refine g_aload_n (j := 0) rfl dL_law_1540 ?_
  refine g_iload_n (j := 3) rfl dL_law_1541 ?_
  refine g_iconst dL_law_1542 ?_
  refine g_iadd dL_law_1543 ?_
  refine g_xald dL_law_1544 (by omega) (by omega) h4 ?_
  refine g_aload_n (j := 0) rfl dL_law_1545 ?_
  refine g_iload_n (j := 3) rfl dL_law_1546 ?_
  refine g_iconst dL_law_1547 ?_
  refine g_iadd dL_law_1548 ?_
  refine g_xald dL_law_1549 (by omega) (by omega) h4 ?_
  refine g_aload_n (j := 0) rfl dL_law_1550 ?_
  refine g_iload_n (j := 3) rfl dL_law_1551 ?_
  refine g_iconst dL_law_1552 ?_
  refine g_iadd dL_law_1553 ?_
  refine g_xald dL_law_1554 (by omega) (by omega) h4 ?_
  refine g_aload_n (j := 0) rfl dL_law_1555 ?_
  refine g_iload_n (j := 3) rfl dL_law_1556 ?_
  refine g_iconst dL_law_1557 ?_
  refine g_iadd dL_law_1558 ?_
  refine g_xald dL_law_1559 (by omega) (by omega) h4 ?_
  obtain ⟨bs0, hb0, hC⟩ := k_X11_rank (d := 0) hS (sq_i w i 1) (sq_i w i 2) (sq_i w i 3) (sq_i w i 4)
  refine g_callV dL_law_1560 mlL_157 mvX11_rank (ci := 11) ⟨by decide, rfl⟩ hS.o hC sv4 rfl (by omega) (Nat.le_of_ble_eq_true rfl) (bc1 := bc - 200) (bs1 := bs - bs0) (by omega) (by omega) (fun v μ1 hR => ?_)
  obtain ⟨rfl, N1, hS1, hF1, hb1⟩ := hR
  have hM1 := hM.fa hF1
  clear hC
  refine g_aload_n (j := 2) rfl dL_law_1563 ?_
  refine g_aload_n (j := 0) rfl dL_law_1564 ?_
  refine g_iload_n (j := 3) rfl dL_law_1565 ?_
  refine g_iconst dL_law_1566 ?_
  refine g_iadd dL_law_1567 ?_
  refine g_xald dL_law_1568 (by omega) (by omega) h4 ?_
  refine g_aload_n (j := 0) rfl dL_law_1569 ?_
  refine g_iload_n (j := 3) rfl dL_law_1570 ?_
  refine g_iconst dL_law_1571 ?_
  refine g_iadd dL_law_1572 ?_
  refine g_xald dL_law_1573 (by omega) (by omega) h4 ?_
  refine g_aload_n (j := 0) rfl dL_law_1574 ?_
  refine g_iload_n (j := 3) rfl dL_law_1575 ?_
  refine g_iconst dL_law_1576 ?_
  refine g_iadd dL_law_1577 ?_
  refine g_xald dL_law_1578 (by omega) (by omega) h4 ?_
  refine g_aload_n (j := 0) rfl dL_law_1579 ?_
  refine g_iload_n (j := 3) rfl dL_law_1580 ?_
  refine g_iconst dL_law_1581 ?_
  refine g_iadd dL_law_1582 ?_
  refine g_xald dL_law_1583 (by omega) (by omega) h4 ?_
  refine g_callV dL_law_1584 mlL_160 mvX12_rank (ci := 12) ⟨by decide, rfl⟩ hM1.1.1.o (k_X12_rank (d := 0) hM1 (sq_i w i 1) (sq_i w i 2) (sq_i w i 3) (sq_i w i 4)) sv4 rfl (by omega) (Nat.le_of_ble_eq_true rfl) (bc1 := bc - 200) (bs1 := bs - bs0) (by omega) (by omega) (fun v μ2 hR => ?_)
  obtain ⟨rfl, hM2, hF2⟩ := hR
  refine g_icmpS (tgt := 1615) dL_law_1587 (by decide) ?_
  exact kk μ2 _ N1 _ _ (hS1.fb hF2) hM2 (by omega) (by omega)
theorem lw_33 {w : WC} {x k N bc bs : Nat} {i : Int} {μ : Mem} {S : LSt} (hS : CS w μ x S N) (hM : Mst w μ (x + 99) S) (h0 : 0 ≤ i) (h1 : i + 8 ≤ ((wX w).2.1 : Int)) (h4 : (wX w).2.1 ≤ 4096) (hbc : 200 * (k + 1) ≤ bc) (hbs : 12002 * (k + 1) + pot N ≤ bs) (kk : LwK w x k i) : G w 48 mL_law LwQ bc bs 1592 [some (vP (some (wX w).1)), some (vP (some x)), some (vP (some (x + 99))), some (vI i)] [] μ := by
  refine g_aload_n (j := 1) rfl dL_law_1592 ?_
  refine g_aload_n (j := 0) rfl dL_law_1593 ?_
  refine g_iload_n (j := 3) rfl dL_law_1594 ?_
  refine g_iconst dL_law_1595 ?_
  refine g_iadd dL_law_1596 ?_
  refine g_xald dL_law_1597 (by omega) (by omega) h4 ?_
  obtain ⟨bs0, hb0, hC⟩ := k_X11_look (d := 0) hS (sq_i w i 1)
  refine g_callV dL_law_1598 mlL_161 mvX11_look (ci := 11) ⟨by decide, rfl⟩ hS.o hC sv1 rfl (by omega) (Nat.le_of_ble_eq_true rfl) (bc1 := bc - 200) (bs1 := bs - bs0) (by omega) (by omega) (fun v μ1 hR => ?_)
  obtain ⟨rfl, N1, hS1, hF1, hb1⟩ := hR
  have hM1 := hM.fa hF1
  clear hC
  refine g_aload_n (j := 2) rfl dL_law_1601 ?_
  refine g_aload_n (j := 0) rfl dL_law_1602 ?_
  refine g_iload_n (j := 3) rfl dL_law_1603 ?_
  refine g_iconst dL_law_1604 ?_
  refine g_iadd dL_law_1605 ?_
  refine g_xald dL_law_1606 (by omega) (by omega) h4 ?_
  refine g_callV dL_law_1607 mlL_164 mvX12_look (ci := 12) ⟨by decide, rfl⟩ hM1.1.1.o (k_X12_look (d := 0) hM1 (sq_i w i 1)) sv1 rfl (by omega) (Nat.le_of_ble_eq_true rfl) (bc1 := bc - 200) (bs1 := bs - bs0) (by omega) (by omega) (fun v μ2 hR => ?_)
  obtain ⟨rfl, hM2, hF2⟩ := hR
  refine g_icmpS (tgt := 1615) dL_law_1610 (by decide) ?_
  exact kk μ2 _ N1 _ _ (hS1.fb hF2) hM2 (by omega) (by omega)
