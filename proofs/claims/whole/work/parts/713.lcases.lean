/-! THE LAW: call by call, on -/
theorem lc_reply {E : EL} {V : VL} {σ τ : St} {i : Nat} (X : CxL E V) (hi : i + 6 ≤ V.2.1) (h : Rl σ τ) (k : ∀ σ1 τ1, Rl σ1 τ1 → AtL E V σ1 τ1 1548 (LL V i) []) : AtL E V σ τ 919 (LL V i) [] := by
  obtain ⟨r, σ1, τ1, e1, e2, hr1⟩ : ∃ r σ1 τ1, fX11_reply (xV V (i + 1)) (xV V (i + 2)) (xV V (i + 3)) σ = some (r, σ1) ∧ fX12_reply (xV V (i + 1)) (xV V (i + 2)) (xV V (i + 3)) τ = some (r, τ1) ∧ Rl σ1 τ1 := by
    have hs : Sim (fX11_reply (xV V (i + 1)) (xV V (i + 2)) (xV V (i + 3)) σ) (fX12_reply (xV V (i + 1)) (xV V (i + 2)) (xV V (i + 3)) τ) := s_reply h 
    obtain ⟨r, σ1, e1, r2, τ1, e2, er, hr1⟩ := hs
    exact ⟨r, σ1, τ1, e1, by rw [e2, er], hr1⟩
  refine l_aload X 1 dL_law_919 rfl ?_
  refine l_arg X 1 (by decide) hi dL_law_920 dL_law_921 dL_law_922 dL_law_923 dL_law_924 ?_
  refine l_arg X 2 (by decide) hi dL_law_925 dL_law_926 dL_law_927 dL_law_928 dL_law_929 ?_
  refine l_arg X 3 (by decide) hi dL_law_930 dL_law_931 dL_law_932 dL_law_933 dL_law_934 ?_
  refine l_callX X dL_law_935 q_1279 wX11_reply sx_0 rfl ⟨Nat.le_of_ble_eq_true rfl, Nat.le_of_ble_eq_true rfl⟩ [.int (pI (xV V (i + 1))), .int (pI (xV V (i + 2))), .int (pI (xV V (i + 3)))] [] rfl rfl (Nat.le_of_ble_eq_true rfl) (ct_X11_reply (xV V (i + 1)) (xV V (i + 2)) (xV V (i + 3)) (int_rg _) (int_rg _) (int_rg _) (gX V) _ _ _ e1) ?_
  refine l_aload X 2 dL_law_938 rfl ?_
  refine l_arg X 1 (by decide) hi dL_law_939 dL_law_940 dL_law_941 dL_law_942 dL_law_943 ?_
  refine l_arg X 2 (by decide) hi dL_law_944 dL_law_945 dL_law_946 dL_law_947 dL_law_948 ?_
  refine l_arg X 3 (by decide) hi dL_law_949 dL_law_950 dL_law_951 dL_law_952 dL_law_953 ?_
  refine l_callM X dL_law_954 q_2213 wX12_reply sm_0 rfl ⟨Nat.le_of_ble_eq_true rfl, Nat.le_of_ble_eq_true rfl⟩ [.int (pI (xV V (i + 1))), .int (pI (xV V (i + 2))), .int (pI (xV V (i + 3)))] [.int (pI r)] rfl rfl (Nat.le_of_ble_eq_true rfl) (ct_X12_reply (xV V (i + 1)) (xV V (i + 2)) (xV V (i + 3)) (int_rg _) (int_rg _) (int_rg _) (gM V) _ _ _ e2) ?_
  refine l_eq (tgt := 1548) X dL_law_957 (by decide) ?_
  exact k σ1 τ1 hr1
theorem lc_family {E : EL} {V : VL} {σ τ : St} {i : Nat} (X : CxL E V) (hi : i + 6 ≤ V.2.1) (h : Rl σ τ) (k : ∀ σ1 τ1, Rl σ1 τ1 → AtL E V σ1 τ1 1548 (LL V i) []) : AtL E V σ τ 962 (LL V i) [] := by
  obtain ⟨r, σ1, τ1, e1, e2, hr1⟩ : ∃ r σ1 τ1, fX11_family (xV V (i + 1)) σ = some (r, σ1) ∧ fX12_family (xV V (i + 1)) τ = some (r, τ1) ∧ Rl σ1 τ1 := by
    have hs : Sim (fX11_family (xV V (i + 1)) σ) (fX12_family (xV V (i + 1)) τ) := s_family h 
    obtain ⟨r, σ1, e1, r2, τ1, e2, er, hr1⟩ := hs
    exact ⟨r, σ1, τ1, e1, by rw [e2, er], hr1⟩
  refine l_aload X 1 dL_law_962 rfl ?_
  refine l_arg X 1 (by decide) hi dL_law_963 dL_law_964 dL_law_965 dL_law_966 dL_law_967 ?_
  refine l_callX X dL_law_968 q_1293 wX11_family sx_0 rfl ⟨Nat.le_of_ble_eq_true rfl, Nat.le_of_ble_eq_true rfl⟩ [.int (pI (xV V (i + 1)))] [] rfl rfl (Nat.le_of_ble_eq_true rfl) (ct_X11_family (xV V (i + 1)) (int_rg _) (gX V) _ _ _ e1) ?_
  refine l_aload X 2 dL_law_971 rfl ?_
  refine l_arg X 1 (by decide) hi dL_law_972 dL_law_973 dL_law_974 dL_law_975 dL_law_976 ?_
  refine l_callM X dL_law_977 q_2218 wX12_family sm_0 rfl ⟨Nat.le_of_ble_eq_true rfl, Nat.le_of_ble_eq_true rfl⟩ [.int (pI (xV V (i + 1)))] [.int (pI r)] rfl rfl (Nat.le_of_ble_eq_true rfl) (ct_X12_family (xV V (i + 1)) (int_rg _) (gM V) _ _ _ e2) ?_
  refine l_eq (tgt := 1548) X dL_law_980 (by decide) ?_
  exact k σ1 τ1 hr1
theorem lc_storm {E : EL} {V : VL} {σ τ : St} {i : Nat} (X : CxL E V) (hi : i + 6 ≤ V.2.1) (h : Rl σ τ) (k : ∀ σ1 τ1, Rl σ1 τ1 → AtL E V σ1 τ1 1548 (LL V i) []) : AtL E V σ τ 985 (LL V i) [] := by
  obtain ⟨r, σ1, τ1, e1, e2, hr1⟩ : ∃ r σ1 τ1, fX11_storm (xV V (i + 1)) (xV V (i + 2)) σ = some (r, σ1) ∧ fX12_storm (xV V (i + 1)) (xV V (i + 2)) τ = some (r, τ1) ∧ Rl σ1 τ1 := by
    have hs : Sim (fX11_storm (xV V (i + 1)) (xV V (i + 2)) σ) (fX12_storm (xV V (i + 1)) (xV V (i + 2)) τ) := s_storm h 
    obtain ⟨r, σ1, e1, r2, τ1, e2, er, hr1⟩ := hs
    exact ⟨r, σ1, τ1, e1, by rw [e2, er], hr1⟩
  refine l_aload X 1 dL_law_985 rfl ?_
  refine l_arg X 1 (by decide) hi dL_law_986 dL_law_987 dL_law_988 dL_law_989 dL_law_990 ?_
  refine l_arg X 2 (by decide) hi dL_law_991 dL_law_992 dL_law_993 dL_law_994 dL_law_995 ?_
  refine l_callX X dL_law_996 q_1298 wX11_storm sx_0 rfl ⟨Nat.le_of_ble_eq_true rfl, Nat.le_of_ble_eq_true rfl⟩ [.int (pI (xV V (i + 1))), .int (pI (xV V (i + 2)))] [] rfl rfl (Nat.le_of_ble_eq_true rfl) (ct_X11_storm (xV V (i + 1)) (xV V (i + 2)) (int_rg _) (int_rg _) (gX V) _ _ _ e1) ?_
  refine l_aload X 2 dL_law_999 rfl ?_
  refine l_arg X 1 (by decide) hi dL_law_1000 dL_law_1001 dL_law_1002 dL_law_1003 dL_law_1004 ?_
  refine l_arg X 2 (by decide) hi dL_law_1005 dL_law_1006 dL_law_1007 dL_law_1008 dL_law_1009 ?_
  refine l_callM X dL_law_1010 q_2222 wX12_storm sm_0 rfl ⟨Nat.le_of_ble_eq_true rfl, Nat.le_of_ble_eq_true rfl⟩ [.int (pI (xV V (i + 1))), .int (pI (xV V (i + 2)))] [.int (pI r)] rfl rfl (Nat.le_of_ble_eq_true rfl) (ct_X12_storm (xV V (i + 1)) (xV V (i + 2)) (int_rg _) (int_rg _) (gM V) _ _ _ e2) ?_
  refine l_eq (tgt := 1548) X dL_law_1013 (by decide) ?_
  exact k σ1 τ1 hr1
theorem lc_board {E : EL} {V : VL} {σ τ : St} {i : Nat} (X : CxL E V) (hi : i + 6 ≤ V.2.1) (h : Rl σ τ) (k : ∀ σ1 τ1, Rl σ1 τ1 → AtL E V σ1 τ1 1548 (LL V i) []) : AtL E V σ τ 1018 (LL V i) [] := by
  obtain ⟨r, σ1, τ1, e1, e2, hr1⟩ : ∃ r σ1 τ1, fX11_board (xV V (i + 1)) σ = some (r, σ1) ∧ fX12_board (xV V (i + 1)) τ = some (r, τ1) ∧ Rl σ1 τ1 := by
    have hs : Sim (fX11_board (xV V (i + 1)) σ) (fX12_board (xV V (i + 1)) τ) := s_board h 
    obtain ⟨r, σ1, e1, r2, τ1, e2, er, hr1⟩ := hs
    exact ⟨r, σ1, τ1, e1, by rw [e2, er], hr1⟩
  refine l_aload X 1 dL_law_1018 rfl ?_
  refine l_arg X 1 (by decide) hi dL_law_1019 dL_law_1020 dL_law_1021 dL_law_1022 dL_law_1023 ?_
  refine l_callX X dL_law_1024 q_1320 wX11_board sx_0 rfl ⟨Nat.le_of_ble_eq_true rfl, Nat.le_of_ble_eq_true rfl⟩ [.int (pI (xV V (i + 1)))] [] rfl rfl (Nat.le_of_ble_eq_true rfl) (ct_X11_board (xV V (i + 1)) (int_rg _) (gX V) _ _ _ e1) ?_
  refine l_aload X 2 dL_law_1027 rfl ?_
  refine l_arg X 1 (by decide) hi dL_law_1028 dL_law_1029 dL_law_1030 dL_law_1031 dL_law_1032 ?_
  refine l_callM X dL_law_1033 q_2238 wX12_board sm_0 rfl ⟨Nat.le_of_ble_eq_true rfl, Nat.le_of_ble_eq_true rfl⟩ [.int (pI (xV V (i + 1)))] [.int (pI r)] rfl rfl (Nat.le_of_ble_eq_true rfl) (ct_X12_board (xV V (i + 1)) (int_rg _) (gM V) _ _ _ e2) ?_
  refine l_eq (tgt := 1548) X dL_law_1036 (by decide) ?_
  exact k σ1 τ1 hr1
theorem lc_level {E : EL} {V : VL} {σ τ : St} {i : Nat} (X : CxL E V) (hi : i + 6 ≤ V.2.1) (h : Rl σ τ) (k : ∀ σ1 τ1, Rl σ1 τ1 → AtL E V σ1 τ1 1548 (LL V i) []) : AtL E V σ τ 1041 (LL V i) [] := by
  obtain ⟨r, σ1, τ1, e1, e2, hr1⟩ : ∃ r σ1 τ1, fX11_level (xV V (i + 1)) σ = some (r, σ1) ∧ fX12_level (xV V (i + 1)) τ = some (r, τ1) ∧ Rl σ1 τ1 := by
    have hs : Sim (fX11_level (xV V (i + 1)) σ) (fX12_level (xV V (i + 1)) τ) := s_level h 
    obtain ⟨r, σ1, e1, r2, τ1, e2, er, hr1⟩ := hs
    exact ⟨r, σ1, τ1, e1, by rw [e2, er], hr1⟩
  refine l_aload X 1 dL_law_1041 rfl ?_
  refine l_arg X 1 (by decide) hi dL_law_1042 dL_law_1043 dL_law_1044 dL_law_1045 dL_law_1046 ?_
  refine l_callX X dL_law_1047 q_1324 wX11_level sx_0 rfl ⟨Nat.le_of_ble_eq_true rfl, Nat.le_of_ble_eq_true rfl⟩ [.int (pI (xV V (i + 1)))] [] rfl rfl (Nat.le_of_ble_eq_true rfl) (ct_X11_level (xV V (i + 1)) (int_rg _) (gX V) _ _ _ e1) ?_
  refine l_aload X 2 dL_law_1050 rfl ?_
  refine l_arg X 1 (by decide) hi dL_law_1051 dL_law_1052 dL_law_1053 dL_law_1054 dL_law_1055 ?_
  refine l_callM X dL_law_1056 q_2242 wX12_level sm_0 rfl ⟨Nat.le_of_ble_eq_true rfl, Nat.le_of_ble_eq_true rfl⟩ [.int (pI (xV V (i + 1)))] [.int (pI r)] rfl rfl (Nat.le_of_ble_eq_true rfl) (ct_X12_level (xV V (i + 1)) (int_rg _) (gM V) _ _ _ e2) ?_
  refine l_eq (tgt := 1548) X dL_law_1059 (by decide) ?_
  exact k σ1 τ1 hr1
theorem lc_talk {E : EL} {V : VL} {σ τ : St} {i : Nat} (X : CxL E V) (hi : i + 6 ≤ V.2.1) (h : Rl σ τ) (k : ∀ σ1 τ1, Rl σ1 τ1 → AtL E V σ1 τ1 1548 (LL V i) []) : AtL E V σ τ 1064 (LL V i) [] := by
  obtain ⟨r, σ1, τ1, e1, e2, hr1⟩ : ∃ r σ1 τ1, fX11_talk (xV V (i + 1)) σ = some (r, σ1) ∧ fX12_talk (xV V (i + 1)) τ = some (r, τ1) ∧ Rl σ1 τ1 := by
    have hs : Sim (fX11_talk (xV V (i + 1)) σ) (fX12_talk (xV V (i + 1)) τ) := s_talk h 
    obtain ⟨r, σ1, e1, r2, τ1, e2, er, hr1⟩ := hs
    exact ⟨r, σ1, τ1, e1, by rw [e2, er], hr1⟩
  refine l_aload X 1 dL_law_1064 rfl ?_
  refine l_arg X 1 (by decide) hi dL_law_1065 dL_law_1066 dL_law_1067 dL_law_1068 dL_law_1069 ?_
  refine l_callX X dL_law_1070 q_1339 wX11_talk sx_0 rfl ⟨Nat.le_of_ble_eq_true rfl, Nat.le_of_ble_eq_true rfl⟩ [.int (pI (xV V (i + 1)))] [] rfl rfl (Nat.le_of_ble_eq_true rfl) (ct_X11_talk (xV V (i + 1)) (int_rg _) (gX V) _ _ _ e1) ?_
  refine l_aload X 2 dL_law_1073 rfl ?_
  refine l_arg X 1 (by decide) hi dL_law_1074 dL_law_1075 dL_law_1076 dL_law_1077 dL_law_1078 ?_
  refine l_callM X dL_law_1079 q_2258 wX12_talk sm_0 rfl ⟨Nat.le_of_ble_eq_true rfl, Nat.le_of_ble_eq_true rfl⟩ [.int (pI (xV V (i + 1)))] [.int (pI r)] rfl rfl (Nat.le_of_ble_eq_true rfl) (ct_X12_talk (xV V (i + 1)) (int_rg _) (gM V) _ _ _ e2) ?_
  refine l_eq (tgt := 1548) X dL_law_1082 (by decide) ?_
  exact k σ1 τ1 hr1
theorem lc_talks {E : EL} {V : VL} {σ τ : St} {i : Nat} (X : CxL E V) (hi : i + 6 ≤ V.2.1) (h : Rl σ τ) (k : ∀ σ1 τ1, Rl σ1 τ1 → AtL E V σ1 τ1 1548 (LL V i) []) : AtL E V σ τ 1087 (LL V i) [] := by
  obtain ⟨r, σ1, τ1, e1, e2, hr1⟩ : ∃ r σ1 τ1, fX11_talks (xV V (i + 1)) σ = some (r, σ1) ∧ fX12_talks (xV V (i + 1)) τ = some (r, τ1) ∧ Rl σ1 τ1 := by
    have hs : Sim (fX11_talks (xV V (i + 1)) σ) (fX12_talks (xV V (i + 1)) τ) := s_talks h (int_rg _)
    obtain ⟨r, σ1, e1, r2, τ1, e2, er, hr1⟩ := hs
    exact ⟨r, σ1, τ1, e1, by rw [e2, er], hr1⟩
  refine l_aload X 1 dL_law_1087 rfl ?_
  refine l_arg X 1 (by decide) hi dL_law_1088 dL_law_1089 dL_law_1090 dL_law_1091 dL_law_1092 ?_
  refine l_callX X dL_law_1093 q_1343 wX11_talks sx_0 rfl ⟨Nat.le_of_ble_eq_true rfl, Nat.le_of_ble_eq_true rfl⟩ [.int (pI (xV V (i + 1)))] [] rfl rfl (Nat.le_of_ble_eq_true rfl) (ct_X11_talks (xV V (i + 1)) (int_rg _) (gX V) _ _ _ e1) ?_
  refine l_aload X 2 dL_law_1096 rfl ?_
  refine l_arg X 1 (by decide) hi dL_law_1097 dL_law_1098 dL_law_1099 dL_law_1100 dL_law_1101 ?_
  refine l_callM X dL_law_1102 q_2262 wX12_talks sm_0 rfl ⟨Nat.le_of_ble_eq_true rfl, Nat.le_of_ble_eq_true rfl⟩ [.int (pI (xV V (i + 1)))] [.int (pI r)] rfl rfl (Nat.le_of_ble_eq_true rfl) (ct_X12_talks (xV V (i + 1)) (int_rg _) (gM V) _ _ _ e2) ?_
  refine l_eq (tgt := 1548) X dL_law_1105 (by decide) ?_
  exact k σ1 τ1 hr1
theorem lc_half {E : EL} {V : VL} {σ τ : St} {i : Nat} (X : CxL E V) (hi : i + 6 ≤ V.2.1) (h : Rl σ τ) (k : ∀ σ1 τ1, Rl σ1 τ1 → AtL E V σ1 τ1 1548 (LL V i) []) : AtL E V σ τ 1110 (LL V i) [] := by
  obtain ⟨r, σ1, τ1, e1, e2, hr1⟩ : ∃ r σ1 τ1, fX11_half (xV V (i + 1)) (xV V (i + 2)) σ = some (r, σ1) ∧ fX12_half (xV V (i + 1)) (xV V (i + 2)) τ = some (r, τ1) ∧ Rl σ1 τ1 := by
    have hs : Sim (fX11_half (xV V (i + 1)) (xV V (i + 2)) σ) (fX12_half (xV V (i + 1)) (xV V (i + 2)) τ) := s_half h 
    obtain ⟨r, σ1, e1, r2, τ1, e2, er, hr1⟩ := hs
    exact ⟨r, σ1, τ1, e1, by rw [e2, er], hr1⟩
  refine l_aload X 1 dL_law_1110 rfl ?_
  refine l_arg X 1 (by decide) hi dL_law_1111 dL_law_1112 dL_law_1113 dL_law_1114 dL_law_1115 ?_
  refine l_arg X 2 (by decide) hi dL_law_1116 dL_law_1117 dL_law_1118 dL_law_1119 dL_law_1120 ?_
  refine l_callX X dL_law_1121 q_1360 wX11_half sx_0 rfl ⟨Nat.le_of_ble_eq_true rfl, Nat.le_of_ble_eq_true rfl⟩ [.int (pI (xV V (i + 1))), .int (pI (xV V (i + 2)))] [] rfl rfl (Nat.le_of_ble_eq_true rfl) (ct_X11_half (xV V (i + 1)) (xV V (i + 2)) (int_rg _) (int_rg _) (gX V) _ _ _ e1) ?_
  refine l_aload X 2 dL_law_1124 rfl ?_
  refine l_arg X 1 (by decide) hi dL_law_1125 dL_law_1126 dL_law_1127 dL_law_1128 dL_law_1129 ?_
  refine l_arg X 2 (by decide) hi dL_law_1130 dL_law_1131 dL_law_1132 dL_law_1133 dL_law_1134 ?_
  refine l_callM X dL_law_1135 q_2270 wX12_half sm_0 rfl ⟨Nat.le_of_ble_eq_true rfl, Nat.le_of_ble_eq_true rfl⟩ [.int (pI (xV V (i + 1))), .int (pI (xV V (i + 2)))] [.int (pI r)] rfl rfl (Nat.le_of_ble_eq_true rfl) (ct_X12_half (xV V (i + 1)) (xV V (i + 2)) (int_rg _) (int_rg _) (gM V) _ _ _ e2) ?_
  refine l_eq (tgt := 1548) X dL_law_1138 (by decide) ?_
  exact k σ1 τ1 hr1
theorem lc_halves {E : EL} {V : VL} {σ τ : St} {i : Nat} (X : CxL E V) (hi : i + 6 ≤ V.2.1) (h : Rl σ τ) (k : ∀ σ1 τ1, Rl σ1 τ1 → AtL E V σ1 τ1 1548 (LL V i) []) : AtL E V σ τ 1143 (LL V i) [] := by
  obtain ⟨r, σ1, τ1, e1, e2, hr1⟩ : ∃ r σ1 τ1, fX11_halves (xV V (i + 1)) σ = some (r, σ1) ∧ fX12_halves (xV V (i + 1)) τ = some (r, τ1) ∧ Rl σ1 τ1 := by
    have hs : Sim (fX11_halves (xV V (i + 1)) σ) (fX12_halves (xV V (i + 1)) τ) := s_halves h 
    obtain ⟨r, σ1, e1, r2, τ1, e2, er, hr1⟩ := hs
    exact ⟨r, σ1, τ1, e1, by rw [e2, er], hr1⟩
  refine l_aload X 1 dL_law_1143 rfl ?_
  refine l_arg X 1 (by decide) hi dL_law_1144 dL_law_1145 dL_law_1146 dL_law_1147 dL_law_1148 ?_
  refine l_callX X dL_law_1149 q_1368 wX11_halves sx_0 rfl ⟨Nat.le_of_ble_eq_true rfl, Nat.le_of_ble_eq_true rfl⟩ [.int (pI (xV V (i + 1)))] [] rfl rfl (Nat.le_of_ble_eq_true rfl) (ct_X11_halves (xV V (i + 1)) (int_rg _) (gX V) _ _ _ e1) ?_
  refine l_aload X 2 dL_law_1152 rfl ?_
  refine l_arg X 1 (by decide) hi dL_law_1153 dL_law_1154 dL_law_1155 dL_law_1156 dL_law_1157 ?_
  refine l_callM X dL_law_1158 q_2274 wX12_halves sm_0 rfl ⟨Nat.le_of_ble_eq_true rfl, Nat.le_of_ble_eq_true rfl⟩ [.int (pI (xV V (i + 1)))] [.int (pI r)] rfl rfl (Nat.le_of_ble_eq_true rfl) (ct_X12_halves (xV V (i + 1)) (int_rg _) (gM V) _ _ _ e2) ?_
  refine l_eq (tgt := 1548) X dL_law_1161 (by decide) ?_
  exact k σ1 τ1 hr1
theorem lc_swing {E : EL} {V : VL} {σ τ : St} {i : Nat} (X : CxL E V) (hi : i + 6 ≤ V.2.1) (h : Rl σ τ) (k : ∀ σ1 τ1, Rl σ1 τ1 → AtL E V σ1 τ1 1548 (LL V i) []) : AtL E V σ τ 1166 (LL V i) [] := by
  obtain ⟨r, σ1, τ1, e1, e2, hr1⟩ : ∃ r σ1 τ1, fX11_swing (xV V (i + 1)) σ = some (r, σ1) ∧ fX12_swing (xV V (i + 1)) τ = some (r, τ1) ∧ Rl σ1 τ1 := by
    have hs : Sim (fX11_swing (xV V (i + 1)) σ) (fX12_swing (xV V (i + 1)) τ) := s_swing h 
    obtain ⟨r, σ1, e1, r2, τ1, e2, er, hr1⟩ := hs
    exact ⟨r, σ1, τ1, e1, by rw [e2, er], hr1⟩
  refine l_aload X 1 dL_law_1166 rfl ?_
  refine l_arg X 1 (by decide) hi dL_law_1167 dL_law_1168 dL_law_1169 dL_law_1170 dL_law_1171 ?_
  refine l_callX X dL_law_1172 q_1376 wX11_swing sx_0 rfl ⟨Nat.le_of_ble_eq_true rfl, Nat.le_of_ble_eq_true rfl⟩ [.int (pI (xV V (i + 1)))] [] rfl rfl (Nat.le_of_ble_eq_true rfl) (ct_X11_swing (xV V (i + 1)) (int_rg _) (gX V) _ _ _ e1) ?_
  refine l_aload X 2 dL_law_1175 rfl ?_
  refine l_arg X 1 (by decide) hi dL_law_1176 dL_law_1177 dL_law_1178 dL_law_1179 dL_law_1180 ?_
  refine l_callM X dL_law_1181 q_2287 wX12_swing sm_0 rfl ⟨Nat.le_of_ble_eq_true rfl, Nat.le_of_ble_eq_true rfl⟩ [.int (pI (xV V (i + 1)))] [.int (pI r)] rfl rfl (Nat.le_of_ble_eq_true rfl) (ct_X12_swing (xV V (i + 1)) (int_rg _) (gM V) _ _ _ e2) ?_
  refine l_eq (tgt := 1548) X dL_law_1184 (by decide) ?_
  exact k σ1 τ1 hr1
theorem lc_swings {E : EL} {V : VL} {σ τ : St} {i : Nat} (X : CxL E V) (hi : i + 6 ≤ V.2.1) (h : Rl σ τ) (k : ∀ σ1 τ1, Rl σ1 τ1 → AtL E V σ1 τ1 1548 (LL V i) []) : AtL E V σ τ 1189 (LL V i) [] := by
  obtain ⟨r, σ1, τ1, e1, e2, hr1⟩ : ∃ r σ1 τ1, fX11_swings (xV V (i + 1)) σ = some (r, σ1) ∧ fX12_swings (xV V (i + 1)) τ = some (r, τ1) ∧ Rl σ1 τ1 := by
    have hs : Sim (fX11_swings (xV V (i + 1)) σ) (fX12_swings (xV V (i + 1)) τ) := s_swings h 
    obtain ⟨r, σ1, e1, r2, τ1, e2, er, hr1⟩ := hs
    exact ⟨r, σ1, τ1, e1, by rw [e2, er], hr1⟩
  refine l_aload X 1 dL_law_1189 rfl ?_
  refine l_arg X 1 (by decide) hi dL_law_1190 dL_law_1191 dL_law_1192 dL_law_1193 dL_law_1194 ?_
  refine l_callX X dL_law_1195 q_1380 wX11_swings sx_0 rfl ⟨Nat.le_of_ble_eq_true rfl, Nat.le_of_ble_eq_true rfl⟩ [.int (pI (xV V (i + 1)))] [] rfl rfl (Nat.le_of_ble_eq_true rfl) (ct_X11_swings (xV V (i + 1)) (int_rg _) (gX V) _ _ _ e1) ?_
  refine l_aload X 2 dL_law_1198 rfl ?_
  refine l_arg X 1 (by decide) hi dL_law_1199 dL_law_1200 dL_law_1201 dL_law_1202 dL_law_1203 ?_
  refine l_callM X dL_law_1204 q_2291 wX12_swings sm_0 rfl ⟨Nat.le_of_ble_eq_true rfl, Nat.le_of_ble_eq_true rfl⟩ [.int (pI (xV V (i + 1)))] [.int (pI r)] rfl rfl (Nat.le_of_ble_eq_true rfl) (ct_X12_swings (xV V (i + 1)) (int_rg _) (gM V) _ _ _ e2) ?_
  refine l_eq (tgt := 1548) X dL_law_1207 (by decide) ?_
  exact k σ1 τ1 hr1
theorem lc_quarrel {E : EL} {V : VL} {σ τ : St} {i : Nat} (X : CxL E V) (hi : i + 6 ≤ V.2.1) (h : Rl σ τ) (k : ∀ σ1 τ1, Rl σ1 τ1 → AtL E V σ1 τ1 1548 (LL V i) []) : AtL E V σ τ 1212 (LL V i) [] := by
  obtain ⟨r, σ1, τ1, e1, e2, hr1⟩ : ∃ r σ1 τ1, fX11_quarrel (xV V (i + 1)) (xV V (i + 2)) σ = some (r, σ1) ∧ fX12_quarrel (xV V (i + 1)) (xV V (i + 2)) τ = some (r, τ1) ∧ Rl σ1 τ1 := by
    have hs : Sim (fX11_quarrel (xV V (i + 1)) (xV V (i + 2)) σ) (fX12_quarrel (xV V (i + 1)) (xV V (i + 2)) τ) := s_quarrel h 
    obtain ⟨r, σ1, e1, r2, τ1, e2, er, hr1⟩ := hs
    exact ⟨r, σ1, τ1, e1, by rw [e2, er], hr1⟩
  refine l_aload X 1 dL_law_1212 rfl ?_
  refine l_arg X 1 (by decide) hi dL_law_1213 dL_law_1214 dL_law_1215 dL_law_1216 dL_law_1217 ?_
  refine l_arg X 2 (by decide) hi dL_law_1218 dL_law_1219 dL_law_1220 dL_law_1221 dL_law_1222 ?_
  refine l_callX X dL_law_1223 q_1399 wX11_quarrel sx_0 rfl ⟨Nat.le_of_ble_eq_true rfl, Nat.le_of_ble_eq_true rfl⟩ [.int (pI (xV V (i + 1))), .int (pI (xV V (i + 2)))] [] rfl rfl (Nat.le_of_ble_eq_true rfl) (ct_X11_quarrel (xV V (i + 1)) (xV V (i + 2)) (int_rg _) (int_rg _) (gX V) _ _ _ e1) ?_
  refine l_aload X 2 dL_law_1226 rfl ?_
  refine l_arg X 1 (by decide) hi dL_law_1227 dL_law_1228 dL_law_1229 dL_law_1230 dL_law_1231 ?_
  refine l_arg X 2 (by decide) hi dL_law_1232 dL_law_1233 dL_law_1234 dL_law_1235 dL_law_1236 ?_
  refine l_callM X dL_law_1237 q_2299 wX12_quarrel sm_0 rfl ⟨Nat.le_of_ble_eq_true rfl, Nat.le_of_ble_eq_true rfl⟩ [.int (pI (xV V (i + 1))), .int (pI (xV V (i + 2)))] [.int (pI r)] rfl rfl (Nat.le_of_ble_eq_true rfl) (ct_X12_quarrel (xV V (i + 1)) (xV V (i + 2)) (int_rg _) (int_rg _) (gM V) _ _ _ e2) ?_
  refine l_eq (tgt := 1548) X dL_law_1240 (by decide) ?_
  exact k σ1 τ1 hr1
theorem lc_seated {E : EL} {V : VL} {σ τ : St} {i : Nat} (X : CxL E V) (hi : i + 6 ≤ V.2.1) (h : Rl σ τ) (k : ∀ σ1 τ1, Rl σ1 τ1 → AtL E V σ1 τ1 1548 (LL V i) []) : AtL E V σ τ 1245 (LL V i) [] := by
  obtain ⟨r, σ1, τ1, e1, e2, hr1⟩ : ∃ r σ1 τ1, fX11_seated (xV V (i + 1)) (xV V (i + 2)) σ = some (r, σ1) ∧ fX12_seated (xV V (i + 1)) (xV V (i + 2)) τ = some (r, τ1) ∧ Rl σ1 τ1 := by
    have hs : Sim (fX11_seated (xV V (i + 1)) (xV V (i + 2)) σ) (fX12_seated (xV V (i + 1)) (xV V (i + 2)) τ) := s_seated h 
    obtain ⟨r, σ1, e1, r2, τ1, e2, er, hr1⟩ := hs
    exact ⟨r, σ1, τ1, e1, by rw [e2, er], hr1⟩
  refine l_aload X 1 dL_law_1245 rfl ?_
  refine l_arg X 1 (by decide) hi dL_law_1246 dL_law_1247 dL_law_1248 dL_law_1249 dL_law_1250 ?_
  refine l_arg X 2 (by decide) hi dL_law_1251 dL_law_1252 dL_law_1253 dL_law_1254 dL_law_1255 ?_
  refine l_callX X dL_law_1256 q_1403 wX11_seated sx_0 rfl ⟨Nat.le_of_ble_eq_true rfl, Nat.le_of_ble_eq_true rfl⟩ [.int (pI (xV V (i + 1))), .int (pI (xV V (i + 2)))] [] rfl rfl (Nat.le_of_ble_eq_true rfl) (ct_X11_seated (xV V (i + 1)) (xV V (i + 2)) (int_rg _) (int_rg _) (gX V) _ _ _ e1) ?_
  refine l_aload X 2 dL_law_1259 rfl ?_
  refine l_arg X 1 (by decide) hi dL_law_1260 dL_law_1261 dL_law_1262 dL_law_1263 dL_law_1264 ?_
  refine l_arg X 2 (by decide) hi dL_law_1265 dL_law_1266 dL_law_1267 dL_law_1268 dL_law_1269 ?_
  refine l_callM X dL_law_1270 q_2303 wX12_seated sm_0 rfl ⟨Nat.le_of_ble_eq_true rfl, Nat.le_of_ble_eq_true rfl⟩ [.int (pI (xV V (i + 1))), .int (pI (xV V (i + 2)))] [.int (pI r)] rfl rfl (Nat.le_of_ble_eq_true rfl) (ct_X12_seated (xV V (i + 1)) (xV V (i + 2)) (int_rg _) (int_rg _) (gM V) _ _ _ e2) ?_
  refine l_eq (tgt := 1548) X dL_law_1273 (by decide) ?_
  exact k σ1 τ1 hr1
theorem lc_last {E : EL} {V : VL} {σ τ : St} {i : Nat} (X : CxL E V) (hi : i + 6 ≤ V.2.1) (h : Rl σ τ) (k : ∀ σ1 τ1, Rl σ1 τ1 → AtL E V σ1 τ1 1548 (LL V i) []) : AtL E V σ τ 1278 (LL V i) [] := by
  obtain ⟨r, σ1, τ1, e1, e2, hr1⟩ : ∃ r σ1 τ1, fX11_last (xV V (i + 1)) (xV V (i + 2)) σ = some (r, σ1) ∧ fX12_last (xV V (i + 1)) (xV V (i + 2)) τ = some (r, τ1) ∧ Rl σ1 τ1 := by
    have hs : Sim (fX11_last (xV V (i + 1)) (xV V (i + 2)) σ) (fX12_last (xV V (i + 1)) (xV V (i + 2)) τ) := s_last h 
    obtain ⟨r, σ1, e1, r2, τ1, e2, er, hr1⟩ := hs
    exact ⟨r, σ1, τ1, e1, by rw [e2, er], hr1⟩
  refine l_aload X 1 dL_law_1278 rfl ?_
  refine l_arg X 1 (by decide) hi dL_law_1279 dL_law_1280 dL_law_1281 dL_law_1282 dL_law_1283 ?_
  refine l_arg X 2 (by decide) hi dL_law_1284 dL_law_1285 dL_law_1286 dL_law_1287 dL_law_1288 ?_
  refine l_callX X dL_law_1289 q_1419 wX11_last sx_0 rfl ⟨Nat.le_of_ble_eq_true rfl, Nat.le_of_ble_eq_true rfl⟩ [.int (pI (xV V (i + 1))), .int (pI (xV V (i + 2)))] [] rfl rfl (Nat.le_of_ble_eq_true rfl) (ct_X11_last (xV V (i + 1)) (xV V (i + 2)) (int_rg _) (int_rg _) (gX V) _ _ _ e1) ?_
  refine l_aload X 2 dL_law_1292 rfl ?_
  refine l_arg X 1 (by decide) hi dL_law_1293 dL_law_1294 dL_law_1295 dL_law_1296 dL_law_1297 ?_
  refine l_arg X 2 (by decide) hi dL_law_1298 dL_law_1299 dL_law_1300 dL_law_1301 dL_law_1302 ?_
  refine l_callM X dL_law_1303 q_2307 wX12_last sm_0 rfl ⟨Nat.le_of_ble_eq_true rfl, Nat.le_of_ble_eq_true rfl⟩ [.int (pI (xV V (i + 1))), .int (pI (xV V (i + 2)))] [.int (pI r)] rfl rfl (Nat.le_of_ble_eq_true rfl) (ct_X12_last (xV V (i + 1)) (xV V (i + 2)) (int_rg _) (int_rg _) (gM V) _ _ _ e2) ?_
  refine l_eq (tgt := 1548) X dL_law_1306 (by decide) ?_
  exact k σ1 τ1 hr1
theorem lc_steps {E : EL} {V : VL} {σ τ : St} {i : Nat} (X : CxL E V) (hi : i + 6 ≤ V.2.1) (h : Rl σ τ) (k : ∀ σ1 τ1, Rl σ1 τ1 → AtL E V σ1 τ1 1548 (LL V i) []) : AtL E V σ τ 1311 (LL V i) [] := by
  obtain ⟨r, σ1, τ1, e1, e2, hr1⟩ : ∃ r σ1 τ1, fX11_steps (xV V (i + 1)) (xV V (i + 2)) (xV V (i + 3)) σ = some (r, σ1) ∧ fX12_steps (xV V (i + 1)) (xV V (i + 2)) (xV V (i + 3)) τ = some (r, τ1) ∧ Rl σ1 τ1 := by
    have hs : Sim (fX11_steps (xV V (i + 1)) (xV V (i + 2)) (xV V (i + 3)) σ) (fX12_steps (xV V (i + 1)) (xV V (i + 2)) (xV V (i + 3)) τ) := s_steps h 
    obtain ⟨r, σ1, e1, r2, τ1, e2, er, hr1⟩ := hs
    exact ⟨r, σ1, τ1, e1, by rw [e2, er], hr1⟩
  refine l_aload X 1 dL_law_1311 rfl ?_
  refine l_arg X 1 (by decide) hi dL_law_1312 dL_law_1313 dL_law_1314 dL_law_1315 dL_law_1316 ?_
  refine l_arg X 2 (by decide) hi dL_law_1317 dL_law_1318 dL_law_1319 dL_law_1320 dL_law_1321 ?_
  refine l_arg X 3 (by decide) hi dL_law_1322 dL_law_1323 dL_law_1324 dL_law_1325 dL_law_1326 ?_
  refine l_callX X dL_law_1327 q_1431 wX11_steps sx_0 rfl ⟨Nat.le_of_ble_eq_true rfl, Nat.le_of_ble_eq_true rfl⟩ [.int (pI (xV V (i + 1))), .int (pI (xV V (i + 2))), .int (pI (xV V (i + 3)))] [] rfl rfl (Nat.le_of_ble_eq_true rfl) (ct_X11_steps (xV V (i + 1)) (xV V (i + 2)) (xV V (i + 3)) (int_rg _) (int_rg _) (int_rg _) (gX V) _ _ _ e1) ?_
  refine l_aload X 2 dL_law_1330 rfl ?_
  refine l_arg X 1 (by decide) hi dL_law_1331 dL_law_1332 dL_law_1333 dL_law_1334 dL_law_1335 ?_
  refine l_arg X 2 (by decide) hi dL_law_1336 dL_law_1337 dL_law_1338 dL_law_1339 dL_law_1340 ?_
  refine l_arg X 3 (by decide) hi dL_law_1341 dL_law_1342 dL_law_1343 dL_law_1344 dL_law_1345 ?_
  refine l_callM X dL_law_1346 q_2311 wX12_steps sm_0 rfl ⟨Nat.le_of_ble_eq_true rfl, Nat.le_of_ble_eq_true rfl⟩ [.int (pI (xV V (i + 1))), .int (pI (xV V (i + 2))), .int (pI (xV V (i + 3)))] [.int (pI r)] rfl rfl (Nat.le_of_ble_eq_true rfl) (ct_X12_steps (xV V (i + 1)) (xV V (i + 2)) (xV V (i + 3)) (int_rg _) (int_rg _) (int_rg _) (gM V) _ _ _ e2) ?_
  refine l_eq (tgt := 1548) X dL_law_1349 (by decide) ?_
  exact k σ1 τ1 hr1
theorem lc_lamps {E : EL} {V : VL} {σ τ : St} {i : Nat} (X : CxL E V) (hi : i + 6 ≤ V.2.1) (h : Rl σ τ) (k : ∀ σ1 τ1, Rl σ1 τ1 → AtL E V σ1 τ1 1548 (LL V i) []) : AtL E V σ τ 1354 (LL V i) [] := by
  obtain ⟨r, σ1, τ1, e1, e2, hr1⟩ : ∃ r σ1 τ1, fX11_lamps (xV V (i + 1)) (xV V (i + 2)) (xV V (i + 3)) (xV V (i + 4)) σ = some (r, σ1) ∧ fX12_lamps (xV V (i + 1)) (xV V (i + 2)) (xV V (i + 3)) (xV V (i + 4)) τ = some (r, τ1) ∧ Rl σ1 τ1 := by
    have hs : Sim (fX11_lamps (xV V (i + 1)) (xV V (i + 2)) (xV V (i + 3)) (xV V (i + 4)) σ) (fX12_lamps (xV V (i + 1)) (xV V (i + 2)) (xV V (i + 3)) (xV V (i + 4)) τ) := s_lamps h 
    obtain ⟨r, σ1, e1, r2, τ1, e2, er, hr1⟩ := hs
    exact ⟨r, σ1, τ1, e1, by rw [e2, er], hr1⟩
  refine l_aload X 1 dL_law_1354 rfl ?_
  refine l_arg X 1 (by decide) hi dL_law_1355 dL_law_1356 dL_law_1357 dL_law_1358 dL_law_1359 ?_
  refine l_arg X 2 (by decide) hi dL_law_1360 dL_law_1361 dL_law_1362 dL_law_1363 dL_law_1364 ?_
  refine l_arg X 3 (by decide) hi dL_law_1365 dL_law_1366 dL_law_1367 dL_law_1368 dL_law_1369 ?_
  refine l_arg X 4 (by decide) hi dL_law_1370 dL_law_1371 dL_law_1372 dL_law_1373 dL_law_1374 ?_
  refine l_callX X dL_law_1375 q_1447 wX11_lamps sx_0 rfl ⟨Nat.le_of_ble_eq_true rfl, Nat.le_of_ble_eq_true rfl⟩ [.int (pI (xV V (i + 1))), .int (pI (xV V (i + 2))), .int (pI (xV V (i + 3))), .int (pI (xV V (i + 4)))] [] rfl rfl (Nat.le_of_ble_eq_true rfl) (ct_X11_lamps (xV V (i + 1)) (xV V (i + 2)) (xV V (i + 3)) (xV V (i + 4)) (int_rg _) (int_rg _) (int_rg _) (int_rg _) (gX V) _ _ _ e1) ?_
  refine l_aload X 2 dL_law_1378 rfl ?_
  refine l_arg X 1 (by decide) hi dL_law_1379 dL_law_1380 dL_law_1381 dL_law_1382 dL_law_1383 ?_
  refine l_arg X 2 (by decide) hi dL_law_1384 dL_law_1385 dL_law_1386 dL_law_1387 dL_law_1388 ?_
  refine l_arg X 3 (by decide) hi dL_law_1389 dL_law_1390 dL_law_1391 dL_law_1392 dL_law_1393 ?_
  refine l_arg X 4 (by decide) hi dL_law_1394 dL_law_1395 dL_law_1396 dL_law_1397 dL_law_1398 ?_
  refine l_callM X dL_law_1399 q_2319 wX12_lamps sm_0 rfl ⟨Nat.le_of_ble_eq_true rfl, Nat.le_of_ble_eq_true rfl⟩ [.int (pI (xV V (i + 1))), .int (pI (xV V (i + 2))), .int (pI (xV V (i + 3))), .int (pI (xV V (i + 4)))] [.int (pI r)] rfl rfl (Nat.le_of_ble_eq_true rfl) (ct_X12_lamps (xV V (i + 1)) (xV V (i + 2)) (xV V (i + 3)) (xV V (i + 4)) (int_rg _) (int_rg _) (int_rg _) (int_rg _) (gM V) _ _ _ e2) ?_
  refine l_eq (tgt := 1548) X dL_law_1402 (by decide) ?_
  exact k σ1 τ1 hr1
theorem lc_hooks {E : EL} {V : VL} {σ τ : St} {i : Nat} (X : CxL E V) (hi : i + 6 ≤ V.2.1) (h : Rl σ τ) (k : ∀ σ1 τ1, Rl σ1 τ1 → AtL E V σ1 τ1 1548 (LL V i) []) : AtL E V σ τ 1407 (LL V i) [] := by
  obtain ⟨r, σ1, τ1, e1, e2, hr1⟩ : ∃ r σ1 τ1, fX11_hooks (xV V (i + 1)) (xV V (i + 2)) σ = some (r, σ1) ∧ fX12_hooks (xV V (i + 1)) (xV V (i + 2)) τ = some (r, τ1) ∧ Rl σ1 τ1 := by
    have hs : Sim (fX11_hooks (xV V (i + 1)) (xV V (i + 2)) σ) (fX12_hooks (xV V (i + 1)) (xV V (i + 2)) τ) := s_hooks h (int_rg _)
    obtain ⟨r, σ1, e1, r2, τ1, e2, er, hr1⟩ := hs
    exact ⟨r, σ1, τ1, e1, by rw [e2, er], hr1⟩
  refine l_aload X 1 dL_law_1407 rfl ?_
  refine l_arg X 1 (by decide) hi dL_law_1408 dL_law_1409 dL_law_1410 dL_law_1411 dL_law_1412 ?_
  refine l_arg X 2 (by decide) hi dL_law_1413 dL_law_1414 dL_law_1415 dL_law_1416 dL_law_1417 ?_
  refine l_callX X dL_law_1418 q_1467 wX11_hooks sx_0 rfl ⟨Nat.le_of_ble_eq_true rfl, Nat.le_of_ble_eq_true rfl⟩ [.int (pI (xV V (i + 1))), .int (pI (xV V (i + 2)))] [] rfl rfl (Nat.le_of_ble_eq_true rfl) (ct_X11_hooks (xV V (i + 1)) (xV V (i + 2)) (int_rg _) (int_rg _) (gX V) _ _ _ e1) ?_
  refine l_aload X 2 dL_law_1421 rfl ?_
  refine l_arg X 1 (by decide) hi dL_law_1422 dL_law_1423 dL_law_1424 dL_law_1425 dL_law_1426 ?_
  refine l_arg X 2 (by decide) hi dL_law_1427 dL_law_1428 dL_law_1429 dL_law_1430 dL_law_1431 ?_
  refine l_callM X dL_law_1432 q_2331 wX12_hooks sm_0 rfl ⟨Nat.le_of_ble_eq_true rfl, Nat.le_of_ble_eq_true rfl⟩ [.int (pI (xV V (i + 1))), .int (pI (xV V (i + 2)))] [.int (pI r)] rfl rfl (Nat.le_of_ble_eq_true rfl) (ct_X12_hooks (xV V (i + 1)) (xV V (i + 2)) (int_rg _) (int_rg _) (gM V) _ _ _ e2) ?_
  refine l_eq (tgt := 1548) X dL_law_1435 (by decide) ?_
  exact k σ1 τ1 hr1
theorem lc_game {E : EL} {V : VL} {σ τ : St} {i : Nat} (X : CxL E V) (hi : i + 6 ≤ V.2.1) (h : Rl σ τ) (k : ∀ σ1 τ1, Rl σ1 τ1 → AtL E V σ1 τ1 1548 (LL V i) []) : AtL E V σ τ 1440 (LL V i) [] := by
  obtain ⟨r, σ1, τ1, e1, e2, hr1⟩ : ∃ r σ1 τ1, fX11_game (xV V (i + 1)) (xV V (i + 2)) σ = some (r, σ1) ∧ fX12_game (xV V (i + 1)) (xV V (i + 2)) τ = some (r, τ1) ∧ Rl σ1 τ1 := by
    have hs : Sim (fX11_game (xV V (i + 1)) (xV V (i + 2)) σ) (fX12_game (xV V (i + 1)) (xV V (i + 2)) τ) := s_game h 
    obtain ⟨r, σ1, e1, r2, τ1, e2, er, hr1⟩ := hs
    exact ⟨r, σ1, τ1, e1, by rw [e2, er], hr1⟩
  refine l_aload X 1 dL_law_1440 rfl ?_
  refine l_arg X 1 (by decide) hi dL_law_1441 dL_law_1442 dL_law_1443 dL_law_1444 dL_law_1445 ?_
  refine l_arg X 2 (by decide) hi dL_law_1446 dL_law_1447 dL_law_1448 dL_law_1449 dL_law_1450 ?_
  refine l_callX X dL_law_1451 q_1491 wX11_game sx_0 rfl ⟨Nat.le_of_ble_eq_true rfl, Nat.le_of_ble_eq_true rfl⟩ [.int (pI (xV V (i + 1))), .int (pI (xV V (i + 2)))] [] rfl rfl (Nat.le_of_ble_eq_true rfl) (ct_X11_game (xV V (i + 1)) (xV V (i + 2)) (int_rg _) (int_rg _) (gX V) _ _ _ e1) ?_
  refine l_aload X 2 dL_law_1454 rfl ?_
  refine l_arg X 1 (by decide) hi dL_law_1455 dL_law_1456 dL_law_1457 dL_law_1458 dL_law_1459 ?_
  refine l_arg X 2 (by decide) hi dL_law_1460 dL_law_1461 dL_law_1462 dL_law_1463 dL_law_1464 ?_
  refine l_callM X dL_law_1465 q_2339 wX12_game sm_0 rfl ⟨Nat.le_of_ble_eq_true rfl, Nat.le_of_ble_eq_true rfl⟩ [.int (pI (xV V (i + 1))), .int (pI (xV V (i + 2)))] [.int (pI r)] rfl rfl (Nat.le_of_ble_eq_true rfl) (ct_X12_game (xV V (i + 1)) (xV V (i + 2)) (int_rg _) (int_rg _) (gM V) _ _ _ e2) ?_
  refine l_eq (tgt := 1548) X dL_law_1468 (by decide) ?_
  exact k σ1 τ1 hr1
theorem lc_undo {E : EL} {V : VL} {σ τ : St} {i : Nat} (X : CxL E V) (hi : i + 6 ≤ V.2.1) (h : Rl σ τ) (k : ∀ σ1 τ1, Rl σ1 τ1 → AtL E V σ1 τ1 1548 (LL V i) []) : AtL E V σ τ 1473 (LL V i) [] := by
  obtain ⟨r, σ1, τ1, e1, e2, hr1⟩ : ∃ r σ1 τ1, fX11_undo σ = some (r, σ1) ∧ fX12_undo τ = some (r, τ1) ∧ Rl σ1 τ1 := by
    have hs : Sim (fX11_undo σ) (fX12_undo τ) := s_undo h 
    obtain ⟨r, σ1, e1, r2, τ1, e2, er, hr1⟩ := hs
    exact ⟨r, σ1, τ1, e1, by rw [e2, er], hr1⟩
  refine l_aload X 1 dL_law_1473 rfl ?_
  refine l_callX X dL_law_1474 q_1504 wX11_undo sx_0 rfl ⟨Nat.le_of_ble_eq_true rfl, Nat.le_of_ble_eq_true rfl⟩ [] [] rfl rfl (Nat.le_of_ble_eq_true rfl) (ct_X11_undo (gX V) _ _ _ e1) ?_
  refine l_aload X 2 dL_law_1477 rfl ?_
  refine l_callM X dL_law_1478 q_1810 wX12_undo sm_0 rfl ⟨Nat.le_of_ble_eq_true rfl, Nat.le_of_ble_eq_true rfl⟩ [] [.int (pI r)] rfl rfl (Nat.le_of_ble_eq_true rfl) (ct_X12_undo (gM V) _ _ _ e2) ?_
  refine l_eq (tgt := 1548) X dL_law_1481 (by decide) ?_
  exact k σ1 τ1 hr1
theorem lc_image {E : EL} {V : VL} {σ τ : St} {i : Nat} (X : CxL E V) (hi : i + 6 ≤ V.2.1) (h : Rl σ τ) (k : ∀ σ1 τ1, Rl σ1 τ1 → AtL E V σ1 τ1 1548 (LL V i) []) : AtL E V σ τ 1486 (LL V i) [] := by
  obtain ⟨r, σ1, τ1, e1, e2, hr1⟩ : ∃ r σ1 τ1, fX11_image (tb1 (xV V (i + 1))) σ = some (r, σ1) ∧ fX12_image (tb1 (xV V (i + 1))) τ = some (r, τ1) ∧ Rl σ1 τ1 := by
    have hs : Sim (fX11_image (tb1 (xV V (i + 1))) σ) (fX12_image (tb1 (xV V (i + 1))) τ) := s_image h (tb1_01 _)
    obtain ⟨r, σ1, e1, r2, τ1, e2, er, hr1⟩ := hs
    exact ⟨r, σ1, τ1, e1, by rw [e2, er], hr1⟩
  refine l_aload X 1 dL_law_1486 rfl ?_
  refine l_arg X 1 (by decide) hi dL_law_1487 dL_law_1488 dL_law_1489 dL_law_1490 dL_law_1491 ?_
  refine l_bool X (int_rg _) dL_law_1492 dL_law_1495 dL_law_1496 dL_law_1499 ?_
  refine l_callX X dL_law_1500 q_1516 wX11_image sx_0 rfl ⟨Nat.le_of_ble_eq_true rfl, Nat.le_of_ble_eq_true rfl⟩ [.int (pI (tb1 (xV V (i + 1))))] [] rfl rfl (Nat.le_of_ble_eq_true rfl) (ct_X11_image (tb1 (xV V (i + 1))) (tb1_01 _) (gX V) _ _ _ e1) ?_
  refine l_aload X 2 dL_law_1503 rfl ?_
  refine l_arg X 1 (by decide) hi dL_law_1504 dL_law_1505 dL_law_1506 dL_law_1507 dL_law_1508 ?_
  refine l_bool X (int_rg _) dL_law_1509 dL_law_1512 dL_law_1513 dL_law_1516 ?_
  refine l_callM X dL_law_1517 q_2347 wX12_image sm_0 rfl ⟨Nat.le_of_ble_eq_true rfl, Nat.le_of_ble_eq_true rfl⟩ [.int (pI (tb1 (xV V (i + 1))))] [.int (pI r)] rfl rfl (Nat.le_of_ble_eq_true rfl) (ct_X12_image (tb1 (xV V (i + 1))) (tb1_01 _) (gM V) _ _ _ e2) ?_
  refine l_eq (tgt := 1548) X dL_law_1520 (by decide) ?_
  exact k σ1 τ1 hr1
theorem lc_look {E : EL} {V : VL} {σ τ : St} {i : Nat} (X : CxL E V) (hi : i + 6 ≤ V.2.1) (h : Rl σ τ) (k : ∀ σ1 τ1, Rl σ1 τ1 → AtL E V σ1 τ1 1548 (LL V i) []) : AtL E V σ τ 1525 (LL V i) [] := by
  obtain ⟨r, σ1, τ1, e1, e2, hr1⟩ : ∃ r σ1 τ1, fX11_look (xV V (i + 1)) σ = some (r, σ1) ∧ fX12_look (xV V (i + 1)) τ = some (r, τ1) ∧ Rl σ1 τ1 := by
    have hs : Sim (fX11_look (xV V (i + 1)) σ) (fX12_look (xV V (i + 1)) τ) := s_look h 
    obtain ⟨r, σ1, e1, r2, τ1, e2, er, hr1⟩ := hs
    exact ⟨r, σ1, τ1, e1, by rw [e2, er], hr1⟩
  refine l_aload X 1 dL_law_1525 rfl ?_
  refine l_arg X 1 (by decide) hi dL_law_1526 dL_law_1527 dL_law_1528 dL_law_1529 dL_law_1530 ?_
  refine l_callX X dL_law_1531 q_1525 wX11_look sx_0 rfl ⟨Nat.le_of_ble_eq_true rfl, Nat.le_of_ble_eq_true rfl⟩ [.int (pI (xV V (i + 1)))] [] rfl rfl (Nat.le_of_ble_eq_true rfl) (ct_X11_look (xV V (i + 1)) (int_rg _) (gX V) _ _ _ e1) ?_
  refine l_aload X 2 dL_law_1534 rfl ?_
  refine l_arg X 1 (by decide) hi dL_law_1535 dL_law_1536 dL_law_1537 dL_law_1538 dL_law_1539 ?_
  refine l_callM X dL_law_1540 q_2371 wX12_look sm_0 rfl ⟨Nat.le_of_ble_eq_true rfl, Nat.le_of_ble_eq_true rfl⟩ [.int (pI (xV V (i + 1)))] [.int (pI r)] rfl rfl (Nat.le_of_ble_eq_true rfl) (ct_X12_look (xV V (i + 1)) (int_rg _) (gM V) _ _ _ e2) ?_
  refine l_eq (tgt := 1548) X dL_law_1543 (by decide) ?_
  exact k σ1 τ1 hr1
