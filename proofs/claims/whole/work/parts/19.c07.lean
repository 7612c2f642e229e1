set_option maxHeartbeats 4000000 in
set_option maxRecDepth 100000 in
theorem ct_X5_readClosings   (G : Gw) (s0 : St) (r : Int) (σ1 : St) (e : fX5_readClosings s0 = some (r, σ1)) : Ct yX5_readClosings cX5_readClosings 2 (some .boolean) 2 42 SX G [.ref (G.2.2.1 139)] s0 (QI SX G r r01 σ1) :=
  Ct.of (by decide +kernel) (Nat.le_of_ble_eq_true rfl) fun E X Y => by
    have o : Ok (fX5_readClosings s0) (fun x σ' => x = r ∧ σ' = σ1) := ⟨r, σ1, e, rfl, rfl⟩
    unfold fX5_readClosings at o
    exact (
z_aload_n X 0 dX5_readClosings_0 rfl <|
z_sipush X dX5_readClosings_1 si_266 <|
z_callvV X dX5_readClosings_4 q_1093 wX5_noteDown sx_139 rfl (by decide) [.int (pI 266)] [] rfl rfl (Nat.le_of_ble_eq_true rfl) (fun r σ1 e => ct_X5_noteDown 266 kc_266 G _ r σ1 e) o fun r1 s2 o =>
z_iconst X dX5_readClosings_7 <|
z_istore_n (L1 := [(1, .int (pI 0)), (0, .ref (G.2.2.1 139))]) X dX5_readClosings_8 rfl (by decide) rfl <|
z_joix o (fun (y27 : Unit) s28 => True → At E s28 41 [(0, .ref (G.2.2.1 139))] []) (fun y27 s28 o r29 =>
z_aload_n X 0 dX5_readClosings_41 rfl <|
z_iconst X dX5_readClosings_42 <|
z_callvI X dX5_readClosings_43 q_1043 wX5_refuse sx_139 rfl (by decide) [.int (pI 1)] [] rfl rfl (Nat.le_of_ble_eq_true rfl) (fun r σ1 e => ct_X5_refuse 1 kc_1 G _ r σ1 e) o fun r30 s31 h32 o =>
z_zret X Y dX5_readClosings_46 o h32 h32) fun o =>
z_sub (L1 := [(0, .ref (G.2.2.1 139)), (1, .int (pI 0))]) X [1, 0] rfl <|
z_iter (fun (x4 : Int) s5 => rg x4 → At E s5 9 [(0, .ref (G.2.2.1 139)), (1, .int (pI x4))] []) o (fun x4 s5 o r6 =>
z_iload_n X 1 dX5_readClosings_9 rfl <|
z_bipush X dX5_readClosings_10 bi_8 <|
z_icmp_gt (tgt := 87) X dX5_readClosings_12 (by decide) r6 kc_8 o (fun o =>
z_iconst X dX5_readClosings_87 <|
z_zret X Y dX5_readClosings_88 (ok_ret (ok_some o)) kb_1 kb_1) fun o =>
z_aload_n X 0 dX5_readClosings_15 rfl <|
z_getR (q := 145) X dX5_readClosings_16 fl_X5_45 sx_139 rfl <|
z_callvI X dX5_readClosings_19 q_1035 wX8_kind sx_145 rfl (by decide) [] [] rfl rfl (Nat.le_of_ble_eq_true rfl) (fun r σ1 e => ct_X8_kind G _ r σ1 e) o fun r7 s8 h9 o =>
z_bipush X dX5_readClosings_22 bi_41 <|
z_icmp_ne (tgt := 87) X dX5_readClosings_24 (by decide) h9 kc_41 o (fun o =>
z_iconst X dX5_readClosings_87 <|
z_zret X Y dX5_readClosings_88 (ok_ret (ok_some o)) kb_1 kb_1) fun o =>
z_aload_n X 0 dX5_readClosings_27 rfl <|
z_sipush X dX5_readClosings_28 si_264 <|
z_callvV X dX5_readClosings_31 q_1093 wX5_noteDown sx_139 rfl (by decide) [.int (pI 264)] [] rfl rfl (Nat.le_of_ble_eq_true rfl) (fun r σ1 e => ct_X5_noteDown 264 kc_264 G _ r σ1 e) o fun r10 s11 o =>
z_aload_n X 0 dX5_readClosings_34 rfl <|
z_getI X dX5_readClosings_35 fl_X5_27 sx_139 rfl o fun v13 r14 o =>
z_if_ne (tgt := 47) X dX5_readClosings_38 (by decide) r14 o (fun o =>
z_aload_n X 0 dX5_readClosings_47 rfl <|
z_dup X dX5_readClosings_48 rfl <|
z_getI X dX5_readClosings_49 fl_X5_27 sx_139 rfl o fun v15 r16 o =>
z_iconst X dX5_readClosings_52 <|
z_isub X dX5_readClosings_53 <|
z_putI X dX5_readClosings_54 fl_X5_27 sx_139 ft_X5_5 rfl (w32_rg _) o fun s17 o =>
z_aload_n X 0 dX5_readClosings_57 rfl <|
z_dup X dX5_readClosings_58 rfl <|
z_getI X dX5_readClosings_59 fl_X5_31 sx_139 rfl o fun v18 r19 o =>
z_iconst X dX5_readClosings_62 <|
z_isub X dX5_readClosings_63 <|
z_putI X dX5_readClosings_64 fl_X5_31 sx_139 ft_X5_6 rfl (w32_rg _) o fun s20 o =>
z_aload_n X 0 dX5_readClosings_67 rfl <|
z_sipush X dX5_readClosings_68 si_266 <|
z_callvV X dX5_readClosings_71 q_1093 wX5_noteDown sx_139 rfl (by decide) [.int (pI 266)] [] rfl rfl (Nat.le_of_ble_eq_true rfl) (fun r σ1 e => ct_X5_noteDown 266 kc_266 G _ r σ1 e) o fun r21 s22 o =>
z_aload_n X 0 dX5_readClosings_74 rfl <|
z_getR (q := 145) X dX5_readClosings_75 fl_X5_45 sx_139 rfl <|
z_callvV X dX5_readClosings_78 q_1052 wX8_advance sx_145 rfl (by decide) [] [] rfl rfl (Nat.le_of_ble_eq_true rfl) (fun r σ1 e => ct_X8_advance G _ r σ1 e) o fun r24 s25 o =>
z_iinc (L1 := [(1, .int (pI (w32 (x4 + 1)))), (0, .ref (G.2.2.1 139))]) X 1 dX5_readClosings_81 rfl (by decide) rfl <|
z_goto (tgt := 9) X dX5_readClosings_84 (by decide) <|
z_sub (L1 := [(0, .ref (G.2.2.1 139)), (1, .int (pI (w32 (x4 + 1))))]) X [1, 0] rfl <|
ok_some o (w32_rg _)) fun o =>
z_sub (L1 := [(0, .ref (G.2.2.1 139))]) X [0] rfl <|
ok_some o trivial) kc_0 : At E s0 0 [(0, .ref (G.2.2.1 139))] [])
set_option maxHeartbeats 4000000 in
set_option maxRecDepth 100000 in
theorem ct_X5_readConditions   (G : Gw) (s0 : St) (r : Int) (σ1 : St) (e : fX5_readConditions s0 = some (r, σ1)) : Ct yX5_readConditions cX5_readConditions 3 (some .boolean) 4 89 SX G [.ref (G.2.2.1 139)] s0 (QI SX G r r01 σ1) :=
  Ct.of (by decide +kernel) (Nat.le_of_ble_eq_true rfl) fun E X Y => by
    have o : Ok (fX5_readConditions s0) (fun x σ' => x = r ∧ σ' = σ1) := ⟨r, σ1, e, rfl, rfl⟩
    unfold fX5_readConditions at o
    exact (
z_aload_n X 0 dX5_readConditions_0 rfl <|
z_iconst X dX5_readConditions_1 <|
z_putI X dX5_readConditions_2 fl_X5_27 sx_139 ft_X5_5 rfl kc_0 o fun s1 o =>
z_aload_n X 0 dX5_readConditions_5 rfl <|
z_iconst X dX5_readConditions_6 <|
z_putI X dX5_readConditions_7 fl_X5_31 sx_139 ft_X5_6 rfl kc_0 o fun s2 o =>
z_iconst X dX5_readConditions_10 <|
z_istore_n (L1 := [(1, .int (pI 0)), (0, .ref (G.2.2.1 139))]) X dX5_readConditions_11 rfl (by decide) rfl <|
z_joix o (fun (y30 : Unit) s31 => True → At E s31 64 [(0, .ref (G.2.2.1 139))] []) (fun y30 s31 o r32 =>
z_aload_n X 0 dX5_readConditions_64 rfl <|
z_sipush X dX5_readConditions_65 si_264 <|
z_callvV X dX5_readConditions_68 q_1093 wX5_noteDown sx_139 rfl (by decide) [.int (pI 264)] [] rfl rfl (Nat.le_of_ble_eq_true rfl) (fun r σ1 e => ct_X5_noteDown 264 kc_264 G _ r σ1 e) o fun r33 s34 o =>
z_aload_n X 0 dX5_readConditions_71 rfl <|
z_getI X dX5_readConditions_72 fl_X5_27 sx_139 rfl o fun v36 r37 o =>
z_if_eq (tgt := 86) X dX5_readConditions_75 (by decide) r37 o (fun o =>
z_iconst X dX5_readConditions_86 <|
z_goto (tgt := 91) X dX5_readConditions_87 (by decide) <|
z_zret X Y dX5_readConditions_91 o kb_1 kb_1) fun o =>
z_aload_n X 0 dX5_readConditions_78 rfl <|
z_iconst X dX5_readConditions_79 <|
z_callvI X dX5_readConditions_80 q_1043 wX5_refuse sx_139 rfl (by decide) [.int (pI 1)] [] rfl rfl (Nat.le_of_ble_eq_true rfl) (fun r σ1 e => ct_X5_refuse 1 kc_1 G _ r σ1 e) o fun r38 s39 h40 o =>
z_if_eq (tgt := 90) X dX5_readConditions_83 (by decide) (r01_rg h40) o (fun o =>
z_iconst X dX5_readConditions_90 <|
z_zret X Y dX5_readConditions_91 o kb_0 kb_0) fun o =>
z_iconst X dX5_readConditions_86 <|
z_goto (tgt := 91) X dX5_readConditions_87 (by decide) <|
z_zret X Y dX5_readConditions_91 o kb_1 kb_1) fun o =>
z_sub (L1 := [(0, .ref (G.2.2.1 139)), (1, .int (pI 0))]) X [1, 0] rfl <|
z_iter (fun (x3 : Int) s4 => rg x3 → At E s4 12 [(0, .ref (G.2.2.1 139)), (1, .int (pI x3))] []) o (fun x3 s4 o r5 =>
z_iload_n X 1 dX5_readConditions_12 rfl <|
z_sipush X dX5_readConditions_13 si_400 <|
z_icmp_ge (tgt := 115) X dX5_readConditions_16 (by decide) r5 kc_400 o (fun o =>
z_iconst X dX5_readConditions_115 <|
z_zret X Y dX5_readConditions_116 (ok_ret (ok_some o)) kb_0 kb_0) fun o =>
z_aload_n X 0 dX5_readConditions_19 rfl <|
z_callvI X dX5_readConditions_20 q_1077 wX5_readOpenings sx_139 rfl (by decide) [] [] rfl rfl (Nat.le_of_ble_eq_true rfl) (fun r σ1 e => ct_X5_readOpenings G _ r σ1 e) o fun r6 s7 h8 o =>
z_if_eq (tgt := 40) X dX5_readConditions_23 (by decide) (r01_rg h8) o (fun o =>
z_iconst X dX5_readConditions_40 <|
z_zret X Y dX5_readConditions_41 (ok_ret (ok_some o)) kb_0 kb_0) fun o =>
z_aload_n X 0 dX5_readConditions_26 rfl <|
z_callvI X dX5_readConditions_27 q_1085 wX5_readComparison sx_139 rfl (by decide) [] [] rfl rfl (Nat.le_of_ble_eq_true rfl) (fun r σ1 e => ct_X5_readComparison G _ r σ1 e) o fun r9 s10 h11 o =>
z_if_eq (tgt := 40) X dX5_readConditions_30 (by decide) (r01_rg h11) o (fun o =>
z_iconst X dX5_readConditions_40 <|
z_zret X Y dX5_readConditions_41 (ok_ret (ok_some o)) kb_0 kb_0) fun o =>
z_aload_n X 0 dX5_readConditions_33 rfl <|
z_callvI X dX5_readConditions_34 q_1089 wX5_readClosings sx_139 rfl (by decide) [] [] rfl rfl (Nat.le_of_ble_eq_true rfl) (fun r σ1 e => ct_X5_readClosings G _ r σ1 e) o fun r12 s13 h14 o =>
z_if_ne (tgt := 42) X dX5_readConditions_37 (by decide) (r01_rg h14) o (fun o =>
z_aload_n X 0 dX5_readConditions_42 rfl <|
z_getR (q := 145) X dX5_readConditions_43 fl_X5_45 sx_139 rfl <|
z_callvI X dX5_readConditions_46 q_1035 wX8_kind sx_145 rfl (by decide) [] [] rfl rfl (Nat.le_of_ble_eq_true rfl) (fun r σ1 e => ct_X8_kind G _ r σ1 e) o fun r15 s16 h17 o =>
z_istore_n (L1 := [(2, .int (pI r15)), (0, .ref (G.2.2.1 139)), (1, .int (pI x3))]) X dX5_readConditions_49 rfl (by decide) rfl <|
z_iload_n X 0 dX5_readConditions_50 rfl <|
z_sipush X dX5_readConditions_51 si_265 <|
z_joix o (fun (y18 : Unit) s19 => True → At E s19 92 [(0, .ref (G.2.2.1 139)), (1, .int (pI x3)), (2, .int (pI r15))] []) (fun y18 s19 o r20 =>
z_aload_n X 0 dX5_readConditions_92 rfl <|
z_iload_n X 2 dX5_readConditions_93 rfl <|
z_callvV X dX5_readConditions_94 q_1093 wX5_noteDown sx_139 rfl (by decide) [.int (pI r15)] [] rfl rfl (Nat.le_of_ble_eq_true rfl) (fun r σ1 e => ct_X5_noteDown r15 h17 G _ r σ1 e) o fun r21 s22 o =>
z_aload_n X 0 dX5_readConditions_97 rfl <|
z_iload_n X 2 dX5_readConditions_98 rfl <|
z_callvV X dX5_readConditions_99 q_1081 wX5_putOff sx_139 rfl (by decide) [.int (pI r15)] [] rfl rfl (Nat.le_of_ble_eq_true rfl) (fun r σ1 e => ct_X5_putOff r15 h17 G _ r σ1 e) o fun r24 s25 o =>
z_aload_n X 0 dX5_readConditions_102 rfl <|
z_getR (q := 145) X dX5_readConditions_103 fl_X5_45 sx_139 rfl <|
z_callvV X dX5_readConditions_106 q_1052 wX8_advance sx_145 rfl (by decide) [] [] rfl rfl (Nat.le_of_ble_eq_true rfl) (fun r σ1 e => ct_X8_advance G _ r σ1 e) o fun r27 s28 o =>
z_iinc (L1 := [(1, .int (pI (w32 (x3 + 1)))), (0, .ref (G.2.2.1 139)), (2, .int (pI r15))]) X 1 dX5_readConditions_109 rfl (by decide) rfl <|
z_goto (tgt := 12) X dX5_readConditions_112 (by decide) <|
z_sub (L1 := [(0, .ref (G.2.2.1 139)), (1, .int (pI (w32 (x3 + 1))))]) X [1, 0] rfl <|
ok_some o (w32_rg _)) fun o =>
z_icmp_eq (tgt := 92) X dX5_readConditions_54 (by decide) h17 kc_265 o (fun o =>
z_sub (L1 := [(0, .ref (G.2.2.1 139)), (1, .int (pI x3)), (2, .int (pI r15))]) X [1, 2, 0] rfl <|
ok_some o trivial) fun o =>
z_iload_n X 0 dX5_readConditions_57 rfl <|
z_sipush X dX5_readConditions_58 si_264 <|
z_icmp_eq (tgt := 92) X dX5_readConditions_61 (by decide) h17 kc_264 o (fun o =>
z_sub (L1 := [(0, .ref (G.2.2.1 139)), (1, .int (pI x3)), (2, .int (pI r15))]) X [1, 2, 0] rfl <|
ok_some o trivial) fun o =>
z_sub (L1 := [(0, .ref (G.2.2.1 139))]) X [1] rfl <|
ok_some o trivial) fun o =>
z_iconst X dX5_readConditions_40 <|
z_zret X Y dX5_readConditions_41 (ok_ret (ok_some o)) kb_0 kb_0) kc_0 : At E s0 0 [(0, .ref (G.2.2.1 139))] [])
set_option maxHeartbeats 4000000 in
set_option maxRecDepth 100000 in
theorem ct_X5_take (p1 : Int) (hp1 : rg p1) (G : Gw) (s0 : St) (r : Int) (σ1 : St) (e : fX5_take p1 s0 = some (r, σ1)) : Ct yX5_take cX5_take 2 (some .boolean) 1 21 SX G [.ref (G.2.2.1 139), .int (pI p1)] s0 (QI SX G r r01 σ1) :=
  Ct.of (by decide +kernel) (Nat.le_of_ble_eq_true rfl) fun E X Y => by
    have o : Ok (fX5_take p1 s0) (fun x σ' => x = r ∧ σ' = σ1) := ⟨r, σ1, e, rfl, rfl⟩
    unfold fX5_take at o
    exact (
z_aload_n X 0 dX5_take_0 rfl <|
z_getR (q := 145) X dX5_take_1 fl_X5_45 sx_139 rfl <|
z_callvI X dX5_take_4 q_1035 wX8_kind sx_145 rfl (by decide) [] [] rfl rfl (Nat.le_of_ble_eq_true rfl) (fun r σ1 e => ct_X8_kind G _ r σ1 e) o fun r1 s2 h3 o =>
z_iload_n X 1 dX5_take_7 rfl <|
z_icmp_eq (tgt := 17) X dX5_take_8 (by decide) h3 hp1 o (fun o =>
z_aload_n X 0 dX5_take_17 rfl <|
z_getR (q := 145) X dX5_take_18 fl_X5_45 sx_139 rfl <|
z_callvV X dX5_take_21 q_1052 wX8_advance sx_145 rfl (by decide) [] [] rfl rfl (Nat.le_of_ble_eq_true rfl) (fun r σ1 e => ct_X8_advance G _ r σ1 e) o fun r4 s5 o =>
z_iconst X dX5_take_24 <|
z_zret X Y dX5_take_25 o kb_1 kb_1) fun o =>
z_aload_n X 0 dX5_take_11 rfl <|
z_iconst X dX5_take_12 <|
z_callvI X dX5_take_13 q_1043 wX5_refuse sx_139 rfl (by decide) [.int (pI 1)] [] rfl rfl (Nat.le_of_ble_eq_true rfl) (fun r σ1 e => ct_X5_refuse 1 kc_1 G _ r σ1 e) o fun r7 s8 h9 o =>
z_zret X Y dX5_take_16 o h9 h9 : At E s0 0 [(0, .ref (G.2.2.1 139)), (1, .int (pI p1))] [])
set_option maxHeartbeats 4000000 in
set_option maxRecDepth 100000 in
theorem ct_X5_readLawLine   (G : Gw) (s0 : St) (r : Int) (σ1 : St) (e : fX5_readLawLine s0 = some (r, σ1)) : Ct yX5_readLawLine cX5_readLawLine 4 (some .boolean) 5 111 SX G [.ref (G.2.2.1 139)] s0 (QI SX G r r01 σ1) :=
  Ct.of (by decide +kernel) (Nat.le_of_ble_eq_true rfl) fun E X Y => by
    have o : Ok (fX5_readLawLine s0) (fun x σ' => x = r ∧ σ' = σ1) := ⟨r, σ1, e, rfl, rfl⟩
    unfold fX5_readLawLine at o
    exact (
z_aload_n X 0 dX5_readLawLine_0 rfl <|
z_getR (q := 145) X dX5_readLawLine_1 fl_X5_45 sx_139 rfl <|
z_callvI X dX5_readLawLine_4 q_1035 wX8_kind sx_145 rfl (by decide) [] [] rfl rfl (Nat.le_of_ble_eq_true rfl) (fun r σ1 e => ct_X8_kind G _ r σ1 e) o fun r1 s2 h3 o =>
z_istore_n (L1 := [(1, .int (pI r1)), (0, .ref (G.2.2.1 139))]) X dX5_readLawLine_7 rfl (by decide) rfl <|
z_iload_n X 0 dX5_readLawLine_8 rfl <|
z_sipush X dX5_readLawLine_9 si_260 <|
z_sipush X dX5_readLawLine_12 si_262 <|
z_callsIN X dX5_readLawLine_15 q_916 wX11_within  (by decide) [.int (pI r1), .int (pI 260), .int (pI 262)] [] rfl rfl (Nat.le_of_ble_eq_true rfl) (fun r σ1 e => ct_X11_within r1 260 262 h3 kc_260 kc_262 G _ r σ1 e) o fun r4 s5 h6 o =>
z_if_ne (tgt := 27) X dX5_readLawLine_18 (by decide) (r01_rg h6) o (fun o =>
z_aload_n X 1 dX5_readLawLine_27 rfl <|
z_iload_n X 0 dX5_readLawLine_28 rfl <|
z_callvI X dX5_readLawLine_29 q_1047 wX5_beginLine sx_139 rfl (by decide) [.int (pI r1)] [] rfl rfl (Nat.le_of_ble_eq_true rfl) (fun r σ1 e => ct_X5_beginLine r1 h3 G _ r σ1 e) o fun r7 s8 h9 o =>
z_if_ne (tgt := 37) X dX5_readLawLine_32 (by decide) (r01_rg h9) o (fun o =>
z_aload_n X 1 dX5_readLawLine_37 rfl <|
z_getR (q := 142) X dX5_readLawLine_38 fl_X5_20 sx_139 rfl <|
z_callvI X dX5_readLawLine_41 q_1056 wX6_size sx_142 rfl (by decide) [] [] rfl rfl (Nat.le_of_ble_eq_true rfl) (fun r σ1 e => ct_X6_size SX 142 143 400 ⟨sx_142, sx_143, (by decide)⟩ G _ r σ1 e) o fun r10 s11 h12 o =>
z_istore_n (L1 := [(2, .int (pI r10)), (1, .int (pI r1)), (0, .ref (G.2.2.1 139))]) X dX5_readLawLine_44 rfl (by decide) rfl <|
z_aload_n X 2 dX5_readLawLine_45 rfl <|
z_callvI X dX5_readLawLine_46 q_1057 wX5_readSum sx_139 rfl (by decide) [] [] rfl rfl (Nat.le_of_ble_eq_true rfl) (fun r σ1 e => ct_X5_readSum G _ r σ1 e) o fun r13 s14 h15 o =>
z_if_ne (tgt := 54) X dX5_readLawLine_49 (by decide) (r01_rg h15) o (fun o =>
z_aload_n X 2 dX5_readLawLine_54 rfl <|
z_getR (q := 142) X dX5_readLawLine_55 fl_X5_20 sx_139 rfl <|
z_callvI X dX5_readLawLine_58 q_1056 wX6_size sx_142 rfl (by decide) [] [] rfl rfl (Nat.le_of_ble_eq_true rfl) (fun r σ1 e => ct_X6_size SX 142 143 400 ⟨sx_142, sx_143, (by decide)⟩ G _ r σ1 e) o fun r16 s17 h18 o =>
z_istore_n (L1 := [(3, .int (pI r16)), (2, .int (pI r10)), (1, .int (pI r1)), (0, .ref (G.2.2.1 139))]) X dX5_readLawLine_61 rfl (by decide) rfl <|
z_aload_n X 3 dX5_readLawLine_62 rfl <|
z_getR (q := 145) X dX5_readLawLine_63 fl_X5_45 sx_139 rfl <|
z_callvI X dX5_readLawLine_66 q_1035 wX8_kind sx_145 rfl (by decide) [] [] rfl rfl (Nat.le_of_ble_eq_true rfl) (fun r σ1 e => ct_X8_kind G _ r σ1 e) o fun r19 s20 h21 o =>
z_sipush X dX5_readLawLine_69 si_263 <|
z_joix o (fun (y28 : Unit) s29 => True → At E s29 91 [(0, .ref (G.2.2.1 139)), (1, .int (pI r1)), (2, .int (pI r10)), (3, .int (pI r16))] []) (fun y28 s29 o r30 =>
z_aload_n X 0 dX5_readLawLine_91 rfl <|
z_bipush X dX5_readLawLine_92 bi_59 <|
z_callvI X dX5_readLawLine_94 q_1097 wX5_take sx_139 rfl (by decide) [.int (pI 59)] [] rfl rfl (Nat.le_of_ble_eq_true rfl) (fun r σ1 e => ct_X5_take 59 kc_59 G _ r σ1 e) o fun r31 s32 h33 o =>
z_if_ne (tgt := 102) X dX5_readLawLine_97 (by decide) (r01_rg h33) o (fun o =>
z_aload_n X 0 dX5_readLawLine_102 rfl <|
z_getR (q := 140) X dX5_readLawLine_103 fl_X5_14 sx_139 rfl <|
z_iload_n X 1 dX5_readLawLine_106 rfl <|
z_iload_n X 2 dX5_readLawLine_107 rfl <|
z_iload_n X 3 dX5_readLawLine_108 rfl <|
z_aload_n X 0 dX5_readLawLine_109 rfl <|
z_getR (q := 142) X dX5_readLawLine_110 fl_X5_20 sx_139 rfl <|
z_callvI X dX5_readLawLine_113 q_1056 wX6_size sx_142 rfl (by decide) [] [.int (pI r16), .int (pI r10), .int (pI r1), .ref (G.2.2.1 140)] rfl rfl (Nat.le_of_ble_eq_true rfl) (fun r σ1 e => ct_X6_size SX 142 143 400 ⟨sx_142, sx_143, (by decide)⟩ G _ r σ1 e) o fun r34 s35 h36 o =>
z_iconst X dX5_readLawLine_116 <|
z_callvI X dX5_readLawLine_117 q_1101 wX6_add_ sx_140 rfl (by decide) [.int (pI r1), .int (pI r10), .int (pI r16), .int (pI r34), .int (pI 0)] [] rfl rfl (Nat.le_of_ble_eq_true rfl) (fun r σ1 e => ct_X6_add_ SX 140 141 64 r1 r10 r16 r34 0 ⟨sx_140, sx_141, (by decide)⟩ h3 h12 h18 h36 kc_0 G _ r σ1 e) o fun r37 s38 h39 o =>
z_iconst X dX5_readLawLine_120 <|
z_icmp_eq (tgt := 128) X dX5_readLawLine_121 (by decide) h39 kc_m1 o (fun o =>
z_iconst X dX5_readLawLine_128 <|
z_zret X Y dX5_readLawLine_129 o kb_0 kb_0) fun o =>
z_iconst X dX5_readLawLine_124 <|
z_goto (tgt := 129) X dX5_readLawLine_125 (by decide) <|
z_zret X Y dX5_readLawLine_129 o kb_1 kb_1) fun o =>
z_iconst X dX5_readLawLine_100 <|
z_zret X Y dX5_readLawLine_101 o kb_0 kb_0) fun o =>
z_icmp_ne (tgt := 91) X dX5_readLawLine_72 (by decide) h21 kc_263 o (fun o =>
z_sub (L1 := [(0, .ref (G.2.2.1 139)), (1, .int (pI r1)), (2, .int (pI r10)), (3, .int (pI r16))]) X [3, 2, 1, 0] rfl <|
ok_some o trivial) fun o =>
z_aload_n X 3 dX5_readLawLine_75 rfl <|
z_getR (q := 145) X dX5_readLawLine_76 fl_X5_45 sx_139 rfl <|
z_callvV X dX5_readLawLine_79 q_1052 wX8_advance sx_145 rfl (by decide) [] [] rfl rfl (Nat.le_of_ble_eq_true rfl) (fun r σ1 e => ct_X8_advance G _ r σ1 e) o fun r22 s23 o =>
z_aload_n X 3 dX5_readLawLine_82 rfl <|
z_callvI X dX5_readLawLine_83 q_1073 wX5_readConditions sx_139 rfl (by decide) [] [] rfl rfl (Nat.le_of_ble_eq_true rfl) (fun r σ1 e => ct_X5_readConditions G _ r σ1 e) o fun r25 s26 h27 o =>
z_if_ne (tgt := 91) X dX5_readLawLine_86 (by decide) (r01_rg h27) o (fun o =>
z_sub (L1 := [(0, .ref (G.2.2.1 139)), (1, .int (pI r1)), (2, .int (pI r10)), (3, .int (pI r16))]) X [3, 2, 1, 0] rfl <|
ok_some o trivial) fun o =>
z_iconst X dX5_readLawLine_89 <|
z_zret X Y dX5_readLawLine_90 (ok_ret (ok_some o)) kb_0 kb_0) fun o =>
z_iconst X dX5_readLawLine_52 <|
z_zret X Y dX5_readLawLine_53 o kb_0 kb_0) fun o =>
z_iconst X dX5_readLawLine_35 <|
z_zret X Y dX5_readLawLine_36 o kb_0 kb_0) fun o =>
z_aload_n X 1 dX5_readLawLine_21 rfl <|
z_iconst X dX5_readLawLine_22 <|
z_callvI X dX5_readLawLine_23 q_1043 wX5_refuse sx_139 rfl (by decide) [.int (pI 1)] [] rfl rfl (Nat.le_of_ble_eq_true rfl) (fun r σ1 e => ct_X5_refuse 1 kc_1 G _ r σ1 e) o fun r40 s41 h42 o =>
z_zret X Y dX5_readLawLine_26 o h42 h42 : At E s0 0 [(0, .ref (G.2.2.1 139))] [])
set_option maxHeartbeats 4000000 in
set_option maxRecDepth 100000 in
theorem ct_X5_takeNumber (p1 : Int) (p2 : Int) (p3 : Int) (hp1 : rg p1) (hp2 : rg p2) (hp3 : rg p3) (G : Gw) (s0 : St) (r : Int) (σ1 : St) (e : fX5_takeNumber p1 p2 p3 s0 = some (r, σ1)) : Ct yX5_takeNumber cX5_takeNumber 6 (some .int) 1 22 SX G [.ref (G.2.2.1 139), .int (pI p1), .int (pI p2), .int (pI p3)] s0 (QI SX G r rg σ1) :=
  Ct.of (by decide +kernel) (Nat.le_of_ble_eq_true rfl) fun E X Y => by
    have o : Ok (fX5_takeNumber p1 p2 p3 s0) (fun x σ' => x = r ∧ σ' = σ1) := ⟨r, σ1, e, rfl, rfl⟩
    unfold fX5_takeNumber at o
    exact (
z_aload_n X 0 dX5_takeNumber_0 rfl <|
z_getR (q := 145) X dX5_takeNumber_1 fl_X5_45 sx_139 rfl <|
z_callvI X dX5_takeNumber_4 q_1065 wX8_number sx_145 rfl (by decide) [] [] rfl rfl (Nat.le_of_ble_eq_true rfl) (fun r σ1 e => ct_X8_number G _ r σ1 e) o fun r1 s2 h3 o =>
z_istore (L1 := [(4, .int (pI r1)), (0, .ref (G.2.2.1 139)), (1, .int (pI p1)), (2, .int (pI p2)), (3, .int (pI p3))]) X dX5_takeNumber_7 (by decide) rfl <|
z_iload X 0 dX5_takeNumber_9 rfl <|
z_iload_n X 2 dX5_takeNumber_11 rfl <|
z_iload_n X 3 dX5_takeNumber_12 rfl <|
z_callsIN X dX5_takeNumber_13 q_916 wX11_within  (by decide) [.int (pI r1), .int (pI p1), .int (pI p2)] [] rfl rfl (Nat.le_of_ble_eq_true rfl) (fun r σ1 e => ct_X11_within r1 p1 p2 h3 hp1 hp2 G _ r σ1 e) o fun r4 s5 h6 o =>
z_join o (fun (y7 : Int) s8 => r01 y7 → At E s8 30 [(0, .ref (G.2.2.1 139)), (4, .int (pI r1))] [.int (pI y7)]) (fun y7 s8 o r9 =>
z_istore (L1 := [(5, .int (pI y7)), (0, .ref (G.2.2.1 139)), (4, .int (pI r1))]) X dX5_takeNumber_30 (by decide) rfl <|
z_aload_n X 1 dX5_takeNumber_32 rfl <|
z_getR (q := 145) X dX5_takeNumber_33 fl_X5_45 sx_139 rfl <|
z_callvI X dX5_takeNumber_36 q_1035 wX8_kind sx_145 rfl (by decide) [] [] rfl rfl (Nat.le_of_ble_eq_true rfl) (fun r σ1 e => ct_X8_kind G _ r σ1 e) o fun r10 s11 h12 o =>
z_sipush X dX5_takeNumber_39 si_257 <|
z_joix o (fun (y16 : Unit) s17 => True → At E s17 50 [(0, .ref (G.2.2.1 139))] []) (fun y16 s17 o r18 =>
z_aload_n X 0 dX5_takeNumber_50 rfl <|
z_aload_n X 0 dX5_takeNumber_51 rfl <|
z_getR (q := 145) X dX5_takeNumber_52 fl_X5_45 sx_139 rfl <|
z_callvI X dX5_takeNumber_55 q_1035 wX8_kind sx_145 rfl (by decide) [] [.ref (G.2.2.1 139)] rfl rfl (Nat.le_of_ble_eq_true rfl) (fun r σ1 e => ct_X8_kind G _ r σ1 e) o fun r19 s20 h21 o =>
z_sipush X dX5_takeNumber_58 si_257 <|
z_join o (fun (y22 : Int) s23 => rg y22 → At E s23 69 [] [.int (pI y22), .ref (G.2.2.1 139)]) (fun y22 s23 o r24 =>
z_callvI X dX5_takeNumber_69 q_1043 wX5_refuse sx_139 rfl (by decide) [.int (pI y22)] [] rfl rfl (Nat.le_of_ble_eq_true rfl) (fun r σ1 e => ct_X5_refuse y22 r24 G _ r σ1 e) o fun r25 s26 h27 o =>
z_pop X dX5_takeNumber_72 rfl <|
z_iconst X dX5_takeNumber_73 <|
z_iret X Y dX5_takeNumber_74 o kc_m1) fun o =>
z_icmp_ne (tgt := 68) X dX5_takeNumber_61 (by decide) h21 kc_257 o (fun o =>
z_iconst X dX5_takeNumber_68 <|
z_sub (L1 := []) X [] rfl <|
ok_some o kc_1) fun o =>
z_iconst X dX5_takeNumber_64 <|
z_goto (tgt := 69) X dX5_takeNumber_65 (by decide) <|
z_sub (L1 := []) X [] rfl <|
ok_some o kc_2) fun o =>
z_icmp_ne (tgt := 50) X dX5_takeNumber_42 (by decide) h12 kc_257 o (fun o =>
z_sub (L1 := [(0, .ref (G.2.2.1 139))]) X [1] rfl <|
ok_some o trivial) fun o =>
z_iload X 0 dX5_takeNumber_45 rfl <|
z_if_ne (tgt := 75) X dX5_takeNumber_47 (by decide) (r01_rg r9) o (fun o =>
z_aload_n X 1 dX5_takeNumber_75 rfl <|
z_getR (q := 145) X dX5_takeNumber_76 fl_X5_45 sx_139 rfl <|
z_callvV X dX5_takeNumber_79 q_1052 wX8_advance sx_145 rfl (by decide) [] [] rfl rfl (Nat.le_of_ble_eq_true rfl) (fun r σ1 e => ct_X8_advance G _ r σ1 e) o fun r13 s14 o =>
z_iload X 2 dX5_takeNumber_82 rfl <|
z_iret X Y dX5_takeNumber_84 (ok_ret (ok_some o)) h3) fun o =>
z_sub (L1 := [(0, .ref (G.2.2.1 139))]) X [1] rfl <|
ok_some o trivial) fun o =>
z_if_eq (tgt := 29) X dX5_takeNumber_16 (by decide) (r01_rg h6) o (fun o =>
z_iconst X dX5_takeNumber_29 <|
z_sub (L1 := [(0, .ref (G.2.2.1 139)), (4, .int (pI r1))]) X [1, 0] rfl <|
ok_some o kb_0) fun o =>
z_iload X 0 dX5_takeNumber_19 rfl <|
z_iload_n X 4 dX5_takeNumber_21 rfl <|
z_icmp_eq (tgt := 29) X dX5_takeNumber_22 (by decide) h3 hp3 o (fun o =>
z_iconst X dX5_takeNumber_29 <|
z_sub (L1 := [(0, .ref (G.2.2.1 139)), (4, .int (pI r1))]) X [1, 0] rfl <|
ok_some o kb_0) fun o =>
z_iconst X dX5_takeNumber_25 <|
z_goto (tgt := 30) X dX5_takeNumber_26 (by decide) <|
z_sub (L1 := [(0, .ref (G.2.2.1 139)), (4, .int (pI r1))]) X [1, 0] rfl <|
ok_some o kb_1 : At E s0 0 [(0, .ref (G.2.2.1 139)), (1, .int (pI p1)), (2, .int (pI p2)), (3, .int (pI p3))] [])
set_option maxHeartbeats 4000000 in
set_option maxRecDepth 100000 in
theorem ct_X5_takePerson   (G : Gw) (s0 : St) (r : Int) (σ1 : St) (e : fX5_takePerson s0 = some (r, σ1)) : Ct yX5_takePerson cX5_takePerson 1 (some .int) 2 47 SX G [.ref (G.2.2.1 139)] s0 (QI SX G r rg σ1) :=
  Ct.of (by decide +kernel) (Nat.le_of_ble_eq_true rfl) fun E X Y => by
    have o : Ok (fX5_takePerson s0) (fun x σ' => x = r ∧ σ' = σ1) := ⟨r, σ1, e, rfl, rfl⟩
    unfold fX5_takePerson at o
    exact (
z_aload_n X 0 dX5_takePerson_0 rfl <|
z_iconst X dX5_takePerson_1 <|
z_aload_n X 0 dX5_takePerson_2 rfl <|
z_getR (q := 3) X dX5_takePerson_3 fl_X5_49 sx_139 rfl <|
z_getIN X dX5_takePerson_6 fn_X5_105 sx_3 rfl o fun v1 r2 o =>
z_iconst X dX5_takePerson_9 <|
z_isub X dX5_takePerson_10 <|
z_iconst X dX5_takePerson_11 <|
z_callvI X dX5_takePerson_12 q_1110 wX5_takeNumber sx_139 rfl (by decide) [.int (pI 0), .int (pI (w32 (v1 - 1))), .int (pI (-1))] [] rfl rfl (Nat.le_of_ble_eq_true rfl) (fun r σ1 e => ct_X5_takeNumber 0 (w32 (v1 - 1)) (-1) kc_0 (w32_rg _) kc_m1 G _ r σ1 e) o fun r3 s4 h5 o =>
z_iret X Y dX5_takePerson_15 o h5 : At E s0 0 [(0, .ref (G.2.2.1 139))] [])
set_option maxHeartbeats 4000000 in
set_option maxRecDepth 100000 in
theorem ct_X5_takeMinute   (G : Gw) (s0 : St) (r : Int) (σ1 : St) (e : fX5_takeMinute s0 = some (r, σ1)) : Ct yX5_takeMinute cX5_takeMinute 1 (some .int) 2 47 SX G [.ref (G.2.2.1 139)] s0 (QI SX G r rg σ1) :=
  Ct.of (by decide +kernel) (Nat.le_of_ble_eq_true rfl) fun E X Y => by
    have o : Ok (fX5_takeMinute s0) (fun x σ' => x = r ∧ σ' = σ1) := ⟨r, σ1, e, rfl, rfl⟩
    unfold fX5_takeMinute at o
    exact (
z_aload_n X 0 dX5_takeMinute_0 rfl <|
z_iconst X dX5_takeMinute_1 <|
z_bipush X dX5_takeMinute_2 bi_59 <|
z_iconst X dX5_takeMinute_4 <|
z_callvI X dX5_takeMinute_5 q_1110 wX5_takeNumber sx_139 rfl (by decide) [.int (pI 0), .int (pI 59), .int (pI (-1))] [] rfl rfl (Nat.le_of_ble_eq_true rfl) (fun r σ1 e => ct_X5_takeNumber 0 59 (-1) kc_0 kc_59 kc_m1 G _ r σ1 e) o fun r1 s2 h3 o =>
z_iret X Y dX5_takeMinute_8 o h3 : At E s0 0 [(0, .ref (G.2.2.1 139))] [])
set_option maxHeartbeats 4000000 in
set_option maxRecDepth 100000 in
theorem ct_X5_takePorch   (G : Gw) (s0 : St) (r : Int) (σ1 : St) (e : fX5_takePorch s0 = some (r, σ1)) : Ct yX5_takePorch cX5_takePorch 1 (some .int) 2 47 SX G [.ref (G.2.2.1 139)] s0 (QI SX G r rg σ1) :=
  Ct.of (by decide +kernel) (Nat.le_of_ble_eq_true rfl) fun E X Y => by
    have o : Ok (fX5_takePorch s0) (fun x σ' => x = r ∧ σ' = σ1) := ⟨r, σ1, e, rfl, rfl⟩
    unfold fX5_takePorch at o
    exact (
z_aload_n X 0 dX5_takePorch_0 rfl <|
z_iconst X dX5_takePorch_1 <|
z_aload_n X 0 dX5_takePorch_2 rfl <|
z_getR (q := 3) X dX5_takePorch_3 fl_X5_49 sx_139 rfl <|
z_getIN X dX5_takePorch_6 fn_X5_96 sx_3 rfl o fun v1 r2 o =>
z_iconst X dX5_takePorch_9 <|
z_isub X dX5_takePorch_10 <|
z_iconst X dX5_takePorch_11 <|
z_callvI X dX5_takePorch_12 q_1110 wX5_takeNumber sx_139 rfl (by decide) [.int (pI 0), .int (pI (w32 (v1 - 1))), .int (pI (-1))] [] rfl rfl (Nat.le_of_ble_eq_true rfl) (fun r σ1 e => ct_X5_takeNumber 0 (w32 (v1 - 1)) (-1) kc_0 (w32_rg _) kc_m1 G _ r σ1 e) o fun r3 s4 h5 o =>
z_iret X Y dX5_takePorch_15 o h5 : At E s0 0 [(0, .ref (G.2.2.1 139))] [])
set_option maxHeartbeats 4000000 in
set_option maxRecDepth 100000 in
theorem ct_X5_readCall   (G : Gw) (s0 : St) (r : Int) (σ1 : St) (e : fX5_readCall s0 = some (r, σ1)) : Ct yX5_readCall cX5_readCall 5 (some .boolean) 3 67 SX G [.ref (G.2.2.1 139)] s0 (QI SX G r r01 σ1) :=
  Ct.of (by decide +kernel) (Nat.le_of_ble_eq_true rfl) fun E X Y => by
    have o : Ok (fX5_readCall s0) (fun x σ' => x = r ∧ σ' = σ1) := ⟨r, σ1, e, rfl, rfl⟩
    unfold fX5_readCall at o
    exact (
z_aload_n X 0 dX5_readCall_0 rfl <|
z_sipush X dX5_readCall_1 si_280 <|
z_callvI X dX5_readCall_4 q_1047 wX5_beginLine sx_139 rfl (by decide) [.int (pI 280)] [] rfl rfl (Nat.le_of_ble_eq_true rfl) (fun r σ1 e => ct_X5_beginLine 280 kc_280 G _ r σ1 e) o fun r1 s2 h3 o =>
z_if_ne (tgt := 12) X dX5_readCall_7 (by decide) (r01_rg h3) o (fun o =>
z_aload_n X 0 dX5_readCall_12 rfl <|
z_callvI X dX5_readCall_13 q_1106 wX5_takePerson sx_139 rfl (by decide) [] [] rfl rfl (Nat.le_of_ble_eq_true rfl) (fun r σ1 e => ct_X5_takePerson G _ r σ1 e) o fun r4 s5 h6 o =>
z_istore_n (L1 := [(1, .int (pI r4)), (0, .ref (G.2.2.1 139))]) X dX5_readCall_16 rfl (by decide) rfl <|
z_iload_n X 0 dX5_readCall_17 rfl <|
z_iconst X dX5_readCall_18 <|
z_icmp_eq (tgt := 32) X dX5_readCall_19 (by decide) h6 kc_m1 o (fun o =>
z_iconst X dX5_readCall_32 <|
z_zret X Y dX5_readCall_33 o kb_0 kb_0) fun o =>
z_aload_n X 1 dX5_readCall_22 rfl <|
z_sipush X dX5_readCall_23 si_281 <|
z_callvI X dX5_readCall_26 q_1097 wX5_take sx_139 rfl (by decide) [.int (pI 281)] [] rfl rfl (Nat.le_of_ble_eq_true rfl) (fun r σ1 e => ct_X5_take 281 kc_281 G _ r σ1 e) o fun r7 s8 h9 o =>
z_if_ne (tgt := 34) X dX5_readCall_29 (by decide) (r01_rg h9) o (fun o =>
z_aload_n X 1 dX5_readCall_34 rfl <|
z_callvI X dX5_readCall_35 q_1114 wX5_takeMinute sx_139 rfl (by decide) [] [] rfl rfl (Nat.le_of_ble_eq_true rfl) (fun r σ1 e => ct_X5_takeMinute G _ r σ1 e) o fun r10 s11 h12 o =>
z_istore_n (L1 := [(2, .int (pI r10)), (1, .int (pI r4)), (0, .ref (G.2.2.1 139))]) X dX5_readCall_38 rfl (by decide) rfl <|
z_iload_n X 0 dX5_readCall_39 rfl <|
z_iconst X dX5_readCall_40 <|
z_icmp_eq (tgt := 54) X dX5_readCall_41 (by decide) h12 kc_m1 o (fun o =>
z_iconst X dX5_readCall_54 <|
z_zret X Y dX5_readCall_55 o kb_0 kb_0) fun o =>
z_aload_n X 2 dX5_readCall_44 rfl <|
z_sipush X dX5_readCall_45 si_282 <|
z_callvI X dX5_readCall_48 q_1097 wX5_take sx_139 rfl (by decide) [.int (pI 282)] [] rfl rfl (Nat.le_of_ble_eq_true rfl) (fun r σ1 e => ct_X5_take 282 kc_282 G _ r σ1 e) o fun r13 s14 h15 o =>
z_if_ne (tgt := 56) X dX5_readCall_51 (by decide) (r01_rg h15) o (fun o =>
z_aload_n X 2 dX5_readCall_56 rfl <|
z_callvI X dX5_readCall_57 q_1118 wX5_takePorch sx_139 rfl (by decide) [] [] rfl rfl (Nat.le_of_ble_eq_true rfl) (fun r σ1 e => ct_X5_takePorch G _ r σ1 e) o fun r16 s17 h18 o =>
z_istore_n (L1 := [(3, .int (pI r16)), (2, .int (pI r10)), (1, .int (pI r4)), (0, .ref (G.2.2.1 139))]) X dX5_readCall_60 rfl (by decide) rfl <|
z_iload_n X 0 dX5_readCall_61 rfl <|
z_iconst X dX5_readCall_62 <|
z_icmp_eq (tgt := 76) X dX5_readCall_63 (by decide) h18 kc_m1 o (fun o =>
z_iconst X dX5_readCall_76 <|
z_zret X Y dX5_readCall_77 o kb_0 kb_0) fun o =>
z_aload_n X 3 dX5_readCall_66 rfl <|
z_sipush X dX5_readCall_67 si_283 <|
z_callvI X dX5_readCall_70 q_1097 wX5_take sx_139 rfl (by decide) [.int (pI 283)] [] rfl rfl (Nat.le_of_ble_eq_true rfl) (fun r σ1 e => ct_X5_take 283 kc_283 G _ r σ1 e) o fun r19 s20 h21 o =>
z_if_ne (tgt := 78) X dX5_readCall_73 (by decide) (r01_rg h21) o (fun o =>
z_aload_n X 3 dX5_readCall_78 rfl <|
z_iconst X dX5_readCall_79 <|
z_bipush X dX5_readCall_80 bi_60 <|
z_iconst X dX5_readCall_82 <|
z_callvI X dX5_readCall_83 q_1110 wX5_takeNumber sx_139 rfl (by decide) [.int (pI 1), .int (pI 60), .int (pI (-1))] [] rfl rfl (Nat.le_of_ble_eq_true rfl) (fun r σ1 e => ct_X5_takeNumber 1 60 (-1) kc_1 kc_60 kc_m1 G _ r σ1 e) o fun r22 s23 h24 o =>
z_istore (L1 := [(4, .int (pI r22)), (3, .int (pI r16)), (2, .int (pI r10)), (1, .int (pI r4)), (0, .ref (G.2.2.1 139))]) X dX5_readCall_86 (by decide) rfl <|
z_iload X 0 dX5_readCall_88 rfl <|
z_iconst X dX5_readCall_90 <|
z_icmp_eq (tgt := 103) X dX5_readCall_91 (by decide) h24 kc_m1 o (fun o =>
z_iconst X dX5_readCall_103 <|
z_zret X Y dX5_readCall_104 o kb_0 kb_0) fun o =>
z_aload_n X 4 dX5_readCall_94 rfl <|
z_bipush X dX5_readCall_95 bi_59 <|
z_callvI X dX5_readCall_97 q_1097 wX5_take sx_139 rfl (by decide) [.int (pI 59)] [] rfl rfl (Nat.le_of_ble_eq_true rfl) (fun r σ1 e => ct_X5_take 59 kc_59 G _ r σ1 e) o fun r25 s26 h27 o =>
z_if_ne (tgt := 105) X dX5_readCall_100 (by decide) (r01_rg h27) o (fun o =>
z_aload_n X 4 dX5_readCall_105 rfl <|
z_getR (q := 140) X dX5_readCall_106 fl_X5_14 sx_139 rfl <|
z_iload_n X 3 dX5_readCall_109 rfl <|
z_iload_n X 2 dX5_readCall_110 rfl <|
z_iload_n X 1 dX5_readCall_111 rfl <|
z_iload X 0 dX5_readCall_112 rfl <|
z_iconst X dX5_readCall_114 <|
z_callvI X dX5_readCall_115 q_1101 wX6_add_ sx_140 rfl (by decide) [.int (pI r4), .int (pI r10), .int (pI r16), .int (pI r22), .int (pI 0)] [] rfl rfl (Nat.le_of_ble_eq_true rfl) (fun r σ1 e => ct_X6_add_ SX 140 141 64 r4 r10 r16 r22 0 ⟨sx_140, sx_141, (by decide)⟩ h6 h12 h18 h24 kc_0 G _ r σ1 e) o fun r28 s29 h30 o =>
z_iconst X dX5_readCall_118 <|
z_icmp_eq (tgt := 126) X dX5_readCall_119 (by decide) h30 kc_m1 o (fun o =>
z_iconst X dX5_readCall_126 <|
z_zret X Y dX5_readCall_127 o kb_0 kb_0) fun o =>
z_iconst X dX5_readCall_122 <|
z_goto (tgt := 127) X dX5_readCall_123 (by decide) <|
z_zret X Y dX5_readCall_127 o kb_1 kb_1) fun o =>
z_iconst X dX5_readCall_103 <|
z_zret X Y dX5_readCall_104 o kb_0 kb_0) fun o =>
z_iconst X dX5_readCall_76 <|
z_zret X Y dX5_readCall_77 o kb_0 kb_0) fun o =>
z_iconst X dX5_readCall_54 <|
z_zret X Y dX5_readCall_55 o kb_0 kb_0) fun o =>
z_iconst X dX5_readCall_32 <|
z_zret X Y dX5_readCall_33 o kb_0 kb_0) fun o =>
z_iconst X dX5_readCall_10 <|
z_zret X Y dX5_readCall_11 o kb_0 kb_0 : At E s0 0 [(0, .ref (G.2.2.1 139))] [])
set_option maxHeartbeats 4000000 in
set_option maxRecDepth 100000 in
theorem ct_X5_readEvening   (G : Gw) (s0 : St) (r : Int) (σ1 : St) (e : fX5_readEvening s0 = some (r, σ1)) : Ct yX5_readEvening cX5_readEvening 5 (some .boolean) 3 67 SX G [.ref (G.2.2.1 139)] s0 (QI SX G r r01 σ1) :=
  Ct.of (by decide +kernel) (Nat.le_of_ble_eq_true rfl) fun E X Y => by
    have o : Ok (fX5_readEvening s0) (fun x σ' => x = r ∧ σ' = σ1) := ⟨r, σ1, e, rfl, rfl⟩
    unfold fX5_readEvening at o
    exact (
z_aload_n X 0 dX5_readEvening_0 rfl <|
z_sipush X dX5_readEvening_1 si_284 <|
z_callvI X dX5_readEvening_4 q_1047 wX5_beginLine sx_139 rfl (by decide) [.int (pI 284)] [] rfl rfl (Nat.le_of_ble_eq_true rfl) (fun r σ1 e => ct_X5_beginLine 284 kc_284 G _ r σ1 e) o fun r1 s2 h3 o =>
z_if_ne (tgt := 12) X dX5_readEvening_7 (by decide) (r01_rg h3) o (fun o =>
z_aload_n X 0 dX5_readEvening_12 rfl <|
z_iconst X dX5_readEvening_13 <|
z_sipush X dX5_readEvening_14 si_999 <|
z_iconst X dX5_readEvening_17 <|
z_callvI X dX5_readEvening_18 q_1110 wX5_takeNumber sx_139 rfl (by decide) [.int (pI 0), .int (pI 999), .int (pI (-1))] [] rfl rfl (Nat.le_of_ble_eq_true rfl) (fun r σ1 e => ct_X5_takeNumber 0 999 (-1) kc_0 kc_999 kc_m1 G _ r σ1 e) o fun r4 s5 h6 o =>
z_istore_n (L1 := [(1, .int (pI r4)), (0, .ref (G.2.2.1 139))]) X dX5_readEvening_21 rfl (by decide) rfl <|
z_iload_n X 0 dX5_readEvening_22 rfl <|
z_iconst X dX5_readEvening_23 <|
z_icmp_ne (tgt := 29) X dX5_readEvening_24 (by decide) h6 kc_m1 o (fun o =>
z_aload_n X 1 dX5_readEvening_29 rfl <|
z_getR (q := 145) X dX5_readEvening_30 fl_X5_45 sx_139 rfl <|
z_callvI X dX5_readEvening_33 q_1035 wX8_kind sx_145 rfl (by decide) [] [] rfl rfl (Nat.le_of_ble_eq_true rfl) (fun r σ1 e => ct_X8_kind G _ r σ1 e) o fun r7 s8 h9 o =>
z_istore_n (L1 := [(2, .int (pI r7)), (1, .int (pI r4)), (0, .ref (G.2.2.1 139))]) X dX5_readEvening_36 rfl (by decide) rfl <|
z_iload_n X 0 dX5_readEvening_37 rfl <|
z_sipush X dX5_readEvening_38 si_285 <|
z_sipush X dX5_readEvening_41 si_288 <|
z_callsIN X dX5_readEvening_44 q_916 wX11_within  (by decide) [.int (pI r7), .int (pI 285), .int (pI 288)] [] rfl rfl (Nat.le_of_ble_eq_true rfl) (fun r σ1 e => ct_X11_within r7 285 288 h9 kc_285 kc_288 G _ r σ1 e) o fun r10 s11 h12 o =>
z_if_ne (tgt := 56) X dX5_readEvening_47 (by decide) (r01_rg h12) o (fun o =>
z_aload_n X 2 dX5_readEvening_56 rfl <|
z_getR (q := 145) X dX5_readEvening_57 fl_X5_45 sx_139 rfl <|
z_callvV X dX5_readEvening_60 q_1052 wX8_advance sx_145 rfl (by decide) [] [] rfl rfl (Nat.le_of_ble_eq_true rfl) (fun r σ1 e => ct_X8_advance G _ r σ1 e) o fun r13 s14 o =>
z_iload_n X 0 dX5_readEvening_63 rfl <|
z_sipush X dX5_readEvening_64 si_287 <|
z_join o (fun (y22 : Int) s23 => rg y22 → At E s23 81 [(0, .ref (G.2.2.1 139)), (1, .int (pI r4)), (2, .int (pI r7))] [.int (pI y22)]) (fun y22 s23 o r24 =>
z_istore_n (L1 := [(3, .int (pI y22)), (0, .ref (G.2.2.1 139)), (1, .int (pI r4)), (2, .int (pI r7))]) X dX5_readEvening_81 rfl (by decide) rfl <|
z_iload_n X 0 dX5_readEvening_82 rfl <|
z_iconst X dX5_readEvening_83 <|
z_icmp_ne (tgt := 89) X dX5_readEvening_84 (by decide) r24 kc_m1 o (fun o =>
z_iconst X dX5_readEvening_89 <|
z_istore (L1 := [(4, .int (pI 0)), (3, .int (pI y22)), (0, .ref (G.2.2.1 139)), (1, .int (pI r4)), (2, .int (pI r7))]) X dX5_readEvening_90 (by decide) rfl <|
z_iload_n X 4 dX5_readEvening_92 rfl <|
z_sipush X dX5_readEvening_93 si_285 <|
z_join o (fun (y28 : Int) s29 => rg y28 → At E s29 109 [(0, .ref (G.2.2.1 139)), (1, .int (pI r4)), (2, .int (pI r7)), (3, .int (pI y22)), (4, .int (pI y28))] []) (fun y28 s29 o r30 =>
z_iload_n X 2 dX5_readEvening_109 rfl <|
z_sipush X dX5_readEvening_110 si_288 <|
z_join o (fun (y34 : Int) s35 => rg y34 → At E s35 122 [(0, .ref (G.2.2.1 139)), (1, .int (pI r4)), (2, .int (pI r7)), (3, .int (pI y22)), (4, .int (pI y34))] []) (fun y34 s35 o r36 =>
z_iload X 4 dX5_readEvening_122 rfl <|
z_iconst X dX5_readEvening_124 <|
z_icmp_eq (tgt := 137) X dX5_readEvening_125 (by decide) r36 kc_m1 o (fun o =>
z_iconst X dX5_readEvening_137 <|
z_zret X Y dX5_readEvening_138 o kb_0 kb_0) fun o =>
z_aload_n X 0 dX5_readEvening_128 rfl <|
z_bipush X dX5_readEvening_129 bi_59 <|
z_callvI X dX5_readEvening_131 q_1097 wX5_take sx_139 rfl (by decide) [.int (pI 59)] [] rfl rfl (Nat.le_of_ble_eq_true rfl) (fun r σ1 e => ct_X5_take 59 kc_59 G _ r σ1 e) o fun r37 s38 h39 o =>
z_if_ne (tgt := 139) X dX5_readEvening_134 (by decide) (r01_rg h39) o (fun o =>
z_aload_n X 0 dX5_readEvening_139 rfl <|
z_getR (q := 140) X dX5_readEvening_140 fl_X5_14 sx_139 rfl <|
z_iload_n X 1 dX5_readEvening_143 rfl <|
z_iload_n X 2 dX5_readEvening_144 rfl <|
z_iload_n X 3 dX5_readEvening_145 rfl <|
z_iload X 4 dX5_readEvening_146 rfl <|
z_iconst X dX5_readEvening_148 <|
z_callvI X dX5_readEvening_149 q_1101 wX6_add_ sx_140 rfl (by decide) [.int (pI r4), .int (pI r7), .int (pI y22), .int (pI y34), .int (pI 0)] [] rfl rfl (Nat.le_of_ble_eq_true rfl) (fun r σ1 e => ct_X6_add_ SX 140 141 64 r4 r7 y22 y34 0 ⟨sx_140, sx_141, (by decide)⟩ h6 h9 r24 r36 kc_0 G _ r σ1 e) o fun r40 s41 h42 o =>
z_iconst X dX5_readEvening_152 <|
z_icmp_eq (tgt := 160) X dX5_readEvening_153 (by decide) h42 kc_m1 o (fun o =>
z_iconst X dX5_readEvening_160 <|
z_zret X Y dX5_readEvening_161 o kb_0 kb_0) fun o =>
z_iconst X dX5_readEvening_156 <|
z_goto (tgt := 161) X dX5_readEvening_157 (by decide) <|
z_zret X Y dX5_readEvening_161 o kb_1 kb_1) fun o =>
z_iconst X dX5_readEvening_137 <|
z_zret X Y dX5_readEvening_138 o kb_0 kb_0) fun o =>
z_icmp_ne (tgt := 122) X dX5_readEvening_113 (by decide) h9 kc_288 o (fun o =>
ok_some o r30) fun o =>
z_aload_n X 0 dX5_readEvening_116 rfl <|
z_callvI X dX5_readEvening_117 q_1106 wX5_takePerson sx_139 rfl (by decide) [] [] rfl rfl (Nat.le_of_ble_eq_true rfl) (fun r σ1 e => ct_X5_takePerson G _ r σ1 e) o fun r31 s32 h33 o =>
z_istore (L1 := [(4, .int (pI r31)), (0, .ref (G.2.2.1 139)), (1, .int (pI r4)), (2, .int (pI r7)), (3, .int (pI y22))]) X dX5_readEvening_120 (by decide) rfl <|
z_sub (L1 := [(0, .ref (G.2.2.1 139)), (1, .int (pI r4)), (2, .int (pI r7)), (3, .int (pI y22)), (4, .int (pI r31))]) X [1, 2, 3, 4, 0] rfl <|
ok_some o h33) fun o =>
z_icmp_ne (tgt := 109) X dX5_readEvening_96 (by decide) h9 kc_285 o (fun o =>
z_sub (L1 := [(0, .ref (G.2.2.1 139)), (1, .int (pI r4)), (2, .int (pI r7)), (3, .int (pI y22)), (4, .int (pI 0))]) X [2, 3, 4, 1, 0] rfl <|
ok_some o kc_0) fun o =>
z_aload_n X 2 dX5_readEvening_99 rfl <|
z_iconst X dX5_readEvening_100 <|
z_bipush X dX5_readEvening_101 bi_99 <|
z_iconst X dX5_readEvening_103 <|
z_callvI X dX5_readEvening_104 q_1110 wX5_takeNumber sx_139 rfl (by decide) [.int (pI 0), .int (pI 99), .int (pI (-1))] [] rfl rfl (Nat.le_of_ble_eq_true rfl) (fun r σ1 e => ct_X5_takeNumber 0 99 (-1) kc_0 kc_99 kc_m1 G _ r σ1 e) o fun r25 s26 h27 o =>
z_istore (L1 := [(4, .int (pI r25)), (3, .int (pI y22)), (0, .ref (G.2.2.1 139)), (1, .int (pI r4)), (2, .int (pI r7))]) X dX5_readEvening_107 (by decide) rfl <|
z_sub (L1 := [(0, .ref (G.2.2.1 139)), (1, .int (pI r4)), (2, .int (pI r7)), (3, .int (pI y22)), (4, .int (pI r25))]) X [2, 3, 4, 1, 0] rfl <|
ok_some o h27) fun o =>
z_iconst X dX5_readEvening_87 <|
z_zret X Y dX5_readEvening_88 o kb_0 kb_0) fun o =>
z_icmp_ne (tgt := 77) X dX5_readEvening_67 (by decide) h9 kc_287 o (fun o =>
z_aload_n X 2 dX5_readEvening_77 rfl <|
z_callvI X dX5_readEvening_78 q_1118 wX5_takePorch sx_139 rfl (by decide) [] [] rfl rfl (Nat.le_of_ble_eq_true rfl) (fun r σ1 e => ct_X5_takePorch G _ r σ1 e) o fun r16 s17 h18 o =>
z_sub (L1 := [(0, .ref (G.2.2.1 139)), (1, .int (pI r4)), (2, .int (pI r7))]) X [2, 1, 0] rfl <|
ok_some o h18) fun o =>
z_aload_n X 2 dX5_readEvening_70 rfl <|
z_callvI X dX5_readEvening_71 q_1114 wX5_takeMinute sx_139 rfl (by decide) [] [] rfl rfl (Nat.le_of_ble_eq_true rfl) (fun r σ1 e => ct_X5_takeMinute G _ r σ1 e) o fun r19 s20 h21 o =>
z_goto (tgt := 81) X dX5_readEvening_74 (by decide) <|
z_sub (L1 := [(0, .ref (G.2.2.1 139)), (1, .int (pI r4)), (2, .int (pI r7))]) X [2, 1, 0] rfl <|
ok_some o h21) fun o =>
z_aload_n X 2 dX5_readEvening_50 rfl <|
z_iconst X dX5_readEvening_51 <|
z_callvI X dX5_readEvening_52 q_1043 wX5_refuse sx_139 rfl (by decide) [.int (pI 1)] [] rfl rfl (Nat.le_of_ble_eq_true rfl) (fun r σ1 e => ct_X5_refuse 1 kc_1 G _ r σ1 e) o fun r43 s44 h45 o =>
z_zret X Y dX5_readEvening_55 o h45 h45) fun o =>
z_iconst X dX5_readEvening_27 <|
z_zret X Y dX5_readEvening_28 o kb_0 kb_0) fun o =>
z_iconst X dX5_readEvening_10 <|
z_zret X Y dX5_readEvening_11 o kb_0 kb_0 : At E s0 0 [(0, .ref (G.2.2.1 139))] [])
set_option maxHeartbeats 4000000 in
set_option maxRecDepth 100000 in
theorem ct_X5_readStreetLine   (G : Gw) (s0 : St) (r : Int) (σ1 : St) (e : fX5_readStreetLine s0 = some (r, σ1)) : Ct yX5_readStreetLine cX5_readStreetLine 4 (some .boolean) 3 67 SX G [.ref (G.2.2.1 139)] s0 (QI SX G r r01 σ1) :=
  Ct.of (by decide +kernel) (Nat.le_of_ble_eq_true rfl) fun E X Y => by
    have o : Ok (fX5_readStreetLine s0) (fun x σ' => x = r ∧ σ' = σ1) := ⟨r, σ1, e, rfl, rfl⟩
    unfold fX5_readStreetLine at o
    exact (
z_aload_n X 0 dX5_readStreetLine_0 rfl <|
z_sipush X dX5_readStreetLine_1 si_289 <|
z_callvI X dX5_readStreetLine_4 q_1047 wX5_beginLine sx_139 rfl (by decide) [.int (pI 289)] [] rfl rfl (Nat.le_of_ble_eq_true rfl) (fun r σ1 e => ct_X5_beginLine 289 kc_289 G _ r σ1 e) o fun r1 s2 h3 o =>
z_if_ne (tgt := 12) X dX5_readStreetLine_7 (by decide) (r01_rg h3) o (fun o =>
z_aload_n X 0 dX5_readStreetLine_12 rfl <|
z_callvI X dX5_readStreetLine_13 q_1118 wX5_takePorch sx_139 rfl (by decide) [] [] rfl rfl (Nat.le_of_ble_eq_true rfl) (fun r σ1 e => ct_X5_takePorch G _ r σ1 e) o fun r4 s5 h6 o =>
z_istore_n (L1 := [(1, .int (pI r4)), (0, .ref (G.2.2.1 139))]) X dX5_readStreetLine_16 rfl (by decide) rfl <|
z_iload_n X 0 dX5_readStreetLine_17 rfl <|
z_iconst X dX5_readStreetLine_18 <|
z_icmp_eq (tgt := 32) X dX5_readStreetLine_19 (by decide) h6 kc_m1 o (fun o =>
z_iconst X dX5_readStreetLine_32 <|
z_zret X Y dX5_readStreetLine_33 o kb_0 kb_0) fun o =>
z_aload_n X 1 dX5_readStreetLine_22 rfl <|
z_sipush X dX5_readStreetLine_23 si_290 <|
z_callvI X dX5_readStreetLine_26 q_1097 wX5_take sx_139 rfl (by decide) [.int (pI 290)] [] rfl rfl (Nat.le_of_ble_eq_true rfl) (fun r σ1 e => ct_X5_take 290 kc_290 G _ r σ1 e) o fun r7 s8 h9 o =>
z_if_ne (tgt := 34) X dX5_readStreetLine_29 (by decide) (r01_rg h9) o (fun o =>
z_aload_n X 1 dX5_readStreetLine_34 rfl <|
z_iconst X dX5_readStreetLine_35 <|
z_aload_n X 1 dX5_readStreetLine_36 rfl <|
z_getR (q := 3) X dX5_readStreetLine_37 fl_X5_49 sx_139 rfl <|
z_getIN X dX5_readStreetLine_40 fn_X5_96 sx_3 rfl o fun v10 r11 o =>
z_iconst X dX5_readStreetLine_43 <|
z_isub X dX5_readStreetLine_44 <|
z_iload_n X 0 dX5_readStreetLine_45 rfl <|
z_callvI X dX5_readStreetLine_46 q_1110 wX5_takeNumber sx_139 rfl (by decide) [.int (pI 0), .int (pI (w32 (v10 - 1))), .int (pI r4)] [] rfl rfl (Nat.le_of_ble_eq_true rfl) (fun r σ1 e => ct_X5_takeNumber 0 (w32 (v10 - 1)) r4 kc_0 (w32_rg _) h6 G _ r σ1 e) o fun r12 s13 h14 o =>
z_istore_n (L1 := [(2, .int (pI r12)), (1, .int (pI r4)), (0, .ref (G.2.2.1 139))]) X dX5_readStreetLine_49 rfl (by decide) rfl <|
z_iload_n X 0 dX5_readStreetLine_50 rfl <|
z_iconst X dX5_readStreetLine_51 <|
z_icmp_ne (tgt := 57) X dX5_readStreetLine_52 (by decide) h14 kc_m1 o (fun o =>
z_aload_n X 2 dX5_readStreetLine_57 rfl <|
z_iconst X dX5_readStreetLine_58 <|
z_bipush X dX5_readStreetLine_59 bi_99 <|
z_iconst X dX5_readStreetLine_61 <|
z_callvI X dX5_readStreetLine_62 q_1110 wX5_takeNumber sx_139 rfl (by decide) [.int (pI 1), .int (pI 99), .int (pI (-1))] [] rfl rfl (Nat.le_of_ble_eq_true rfl) (fun r σ1 e => ct_X5_takeNumber 1 99 (-1) kc_1 kc_99 kc_m1 G _ r σ1 e) o fun r15 s16 h17 o =>
z_istore_n (L1 := [(3, .int (pI r15)), (2, .int (pI r12)), (1, .int (pI r4)), (0, .ref (G.2.2.1 139))]) X dX5_readStreetLine_65 rfl (by decide) rfl <|
z_iload_n X 0 dX5_readStreetLine_66 rfl <|
z_iconst X dX5_readStreetLine_67 <|
z_icmp_eq (tgt := 80) X dX5_readStreetLine_68 (by decide) h17 kc_m1 o (fun o =>
z_iconst X dX5_readStreetLine_80 <|
z_zret X Y dX5_readStreetLine_81 o kb_0 kb_0) fun o =>
z_aload_n X 3 dX5_readStreetLine_71 rfl <|
z_bipush X dX5_readStreetLine_72 bi_59 <|
z_callvI X dX5_readStreetLine_74 q_1097 wX5_take sx_139 rfl (by decide) [.int (pI 59)] [] rfl rfl (Nat.le_of_ble_eq_true rfl) (fun r σ1 e => ct_X5_take 59 kc_59 G _ r σ1 e) o fun r18 s19 h20 o =>
z_if_ne (tgt := 82) X dX5_readStreetLine_77 (by decide) (r01_rg h20) o (fun o =>
z_aload_n X 3 dX5_readStreetLine_82 rfl <|
z_getR (q := 140) X dX5_readStreetLine_83 fl_X5_14 sx_139 rfl <|
z_iload_n X 2 dX5_readStreetLine_86 rfl <|
z_iload_n X 1 dX5_readStreetLine_87 rfl <|
z_iload_n X 0 dX5_readStreetLine_88 rfl <|
z_iconst X dX5_readStreetLine_89 <|
z_iconst X dX5_readStreetLine_90 <|
z_callvI X dX5_readStreetLine_91 q_1101 wX6_add_ sx_140 rfl (by decide) [.int (pI r4), .int (pI r12), .int (pI r15), .int (pI 0), .int (pI 0)] [] rfl rfl (Nat.le_of_ble_eq_true rfl) (fun r σ1 e => ct_X6_add_ SX 140 141 64 r4 r12 r15 0 0 ⟨sx_140, sx_141, (by decide)⟩ h6 h14 h17 kc_0 kc_0 G _ r σ1 e) o fun r21 s22 h23 o =>
z_iconst X dX5_readStreetLine_94 <|
z_icmp_eq (tgt := 102) X dX5_readStreetLine_95 (by decide) h23 kc_m1 o (fun o =>
z_iconst X dX5_readStreetLine_102 <|
z_zret X Y dX5_readStreetLine_103 o kb_0 kb_0) fun o =>
z_iconst X dX5_readStreetLine_98 <|
z_goto (tgt := 103) X dX5_readStreetLine_99 (by decide) <|
z_zret X Y dX5_readStreetLine_103 o kb_1 kb_1) fun o =>
z_iconst X dX5_readStreetLine_80 <|
z_zret X Y dX5_readStreetLine_81 o kb_0 kb_0) fun o =>
z_iconst X dX5_readStreetLine_55 <|
z_zret X Y dX5_readStreetLine_56 o kb_0 kb_0) fun o =>
z_iconst X dX5_readStreetLine_32 <|
z_zret X Y dX5_readStreetLine_33 o kb_0 kb_0) fun o =>
z_iconst X dX5_readStreetLine_10 <|
z_zret X Y dX5_readStreetLine_11 o kb_0 kb_0 : At E s0 0 [(0, .ref (G.2.2.1 139))] [])
set_option maxHeartbeats 4000000 in
set_option maxRecDepth 100000 in
theorem ct_X8_place   (G : Gw) (s0 : St) (r : Int) (σ1 : St) (e : fX8_place s0 = some (r, σ1)) : Ct yX8_place cX8_place 1 (some .int) 0 0 SX G [.ref (G.2.2.1 145)] s0 (QI SX G r rg σ1) :=
  Ct.of (by decide +kernel) (Nat.le_of_ble_eq_true rfl) fun E X Y => by
    have o : Ok (fX8_place s0) (fun x σ' => x = r ∧ σ' = σ1) := ⟨r, σ1, e, rfl, rfl⟩
    unfold fX8_place at o
    exact (
z_aload_n X 0 dX8_place_0 rfl <|
z_getR (q := 148) X dX8_place_1 fl_X8_18 sx_145 rfl <|
z_aload_n X 0 dX8_place_4 rfl <|
z_getI X dX8_place_5 fl_X8_25 sx_145 rfl o fun v1 r2 o =>
z_iald X dX8_place_8 sx_148 r2 o fun v3 r4 o =>
z_iret X Y dX8_place_9 o r4 : At E s0 0 [(0, .ref (G.2.2.1 145))] [])
set_option maxHeartbeats 4000000 in
set_option maxRecDepth 100000 in
theorem ct_X5_read (p1 : Int) (hp1 : rg p1) (G : Gw) (s0 : St) (r : Int) (σ1 : St) (e : fX5_read p1 s0 = some (r, σ1)) : Ct yX5_read cX5_read 4 (some .boolean) 9 201 SX G [.ref (G.2.2.1 139), .int (pI p1)] s0 (QI SX G r r01 σ1) :=
  Ct.of (by decide +kernel) (Nat.le_of_ble_eq_true rfl) fun E X Y => by
    have o : Ok (fX5_read p1 s0) (fun x σ' => x = r ∧ σ' = σ1) := ⟨r, σ1, e, rfl, rfl⟩
    unfold fX5_read at o
    exact (
z_aload_n X 0 dX5_read_0 rfl <|
z_iconst X dX5_read_1 <|
z_putI X dX5_read_2 fl_X5_34 sx_139 ft_X5_7 rfl kc_0 o fun s1 o =>
z_aload_n X 0 dX5_read_5 rfl <|
z_iconst X dX5_read_6 <|
z_putI X dX5_read_7 fl_X5_37 sx_139 ft_X5_8 rfl kc_m1 o fun s2 o =>
z_iload_n X 1 dX5_read_10 rfl <|
z_iconst X dX5_read_11 <|
z_iconst X dX5_read_12 <|
z_callsIN X dX5_read_13 q_916 wX11_within  (by decide) [.int (pI p1), .int (pI 0), .int (pI 3)] [] rfl rfl (Nat.le_of_ble_eq_true rfl) (fun r σ1 e => ct_X11_within p1 0 3 hp1 kc_0 kc_3 G _ r σ1 e) o fun r3 s4 h5 o =>
z_if_ne (tgt := 21) X dX5_read_16 (by decide) (r01_rg h5) o (fun o =>
z_aload_n X 0 dX5_read_21 rfl <|
z_getR (q := 140) X dX5_read_22 fl_X5_14 sx_139 rfl <|
z_callvI X dX5_read_25 q_917 wX6_clear sx_140 rfl (by decide) [] [] rfl rfl (Nat.le_of_ble_eq_true rfl) (fun r σ1 e => ct_X6_clear SX 140 141 64 ⟨sx_140, sx_141, (by decide)⟩ G _ r σ1 e) o fun r6 s7 h8 o =>
z_pop X dX5_read_28 rfl <|
z_aload_n X 0 dX5_read_29 rfl <|
z_getR (q := 142) X dX5_read_30 fl_X5_20 sx_139 rfl <|
z_callvI X dX5_read_33 q_917 wX6_clear sx_142 rfl (by decide) [] [] rfl rfl (Nat.le_of_ble_eq_true rfl) (fun r σ1 e => ct_X6_clear SX 142 143 400 ⟨sx_142, sx_143, (by decide)⟩ G _ r σ1 e) o fun r9 s10 h11 o =>
z_pop X dX5_read_36 rfl <|
z_aload_n X 0 dX5_read_37 rfl <|
z_getR (q := 145) X dX5_read_38 fl_X5_45 sx_139 rfl <|
z_callvV X dX5_read_41 q_921 wX8_scan sx_145 rfl (by decide) [] [] rfl rfl (Nat.le_of_ble_eq_true rfl) (fun r σ1 e => ct_X8_scan G _ r σ1 e) o fun r12 s13 o =>
z_iconst X dX5_read_44 <|
z_istore_n (L1 := [(2, .int (pI 1)), (0, .ref (G.2.2.1 139)), (1, .int (pI p1))]) X dX5_read_45 rfl (by decide) rfl <|
z_iconst X dX5_read_46 <|
z_istore_n (L1 := [(3, .int (pI 0)), (2, .int (pI 1)), (0, .ref (G.2.2.1 139)), (1, .int (pI p1))]) X dX5_read_47 rfl (by decide) rfl <|
z_join o (fun (y42 : Int) s43 => r01 y42 → At E s43 116 [(0, .ref (G.2.2.1 139)), (2, .int (pI y42))] []) (fun y42 s43 o r44 =>
z_iload_n X 1 dX5_read_116 rfl <|
z_if_ne (tgt := 131) X dX5_read_117 (by decide) (r01_rg r44) o (fun o =>
z_iload_n X 1 dX5_read_131 rfl <|
z_zret X Y dX5_read_132 o r44 r44) fun o =>
z_aload_n X 0 dX5_read_120 rfl <|
z_aload_n X 0 dX5_read_121 rfl <|
z_getR (q := 145) X dX5_read_122 fl_X5_45 sx_139 rfl <|
z_callvI X dX5_read_125 q_1130 wX8_place sx_145 rfl (by decide) [] [.ref (G.2.2.1 139)] rfl rfl (Nat.le_of_ble_eq_true rfl) (fun r σ1 e => ct_X8_place G _ r σ1 e) o fun r45 s46 h47 o =>
z_putI X dX5_read_128 fl_X5_37 sx_139 ft_X5_8 rfl h47 o fun s48 o =>
z_iload_n X 1 dX5_read_131 rfl <|
z_zret X Y dX5_read_132 o r44 r44) fun o =>
z_sub (L1 := [(0, .ref (G.2.2.1 139)), (1, .int (pI p1)), (2, .int (pI 1)), (3, .int (pI 0))]) X [2, 3, 1, 0] rfl <|
z_iter (fun (x15 : Int × Int) s16 => r01 x15.1 ∧ rg x15.2 → At E s16 48 [(0, .ref (G.2.2.1 139)), (1, .int (pI p1)), (2, .int (pI x15.1)), (3, .int (pI x15.2))] []) o (fun x15 s16 o r17 =>
z_iload_n X 3 dX5_read_48 rfl <|
z_bipush X dX5_read_49 bi_16 <|
z_icmp_gt (tgt := 116) X dX5_read_51 (by decide) r17.2 kc_16 o (fun o =>
z_sub (L1 := [(0, .ref (G.2.2.1 139)), (2, .int (pI x15.1))]) X [0, 2] rfl <|
ok_some o r17.1) fun o =>
z_iload_n X 2 dX5_read_54 rfl <|
z_if_eq (tgt := 116) X dX5_read_55 (by decide) (r01_rg r17.1) o (fun o =>
z_sub (L1 := [(0, .ref (G.2.2.1 139)), (2, .int (pI x15.1))]) X [0, 2] rfl <|
ok_some o r17.1) fun o =>
z_aload_n X 0 dX5_read_58 rfl <|
z_getR (q := 145) X dX5_read_59 fl_X5_45 sx_139 rfl <|
z_callvI X dX5_read_62 q_1035 wX8_kind sx_145 rfl (by decide) [] [] rfl rfl (Nat.le_of_ble_eq_true rfl) (fun r σ1 e => ct_X8_kind G _ r σ1 e) o fun r18 s19 h20 o =>
z_sipush X dX5_read_65 si_256 <|
z_icmp_eq (tgt := 116) X dX5_read_68 (by decide) h20 kc_256 o (fun o =>
z_sub (L1 := [(0, .ref (G.2.2.1 139)), (2, .int (pI x15.1))]) X [0, 2] rfl <|
ok_some o r17.1) fun o =>
z_iload_n X 1 dX5_read_71 rfl <|
z_join o (fun (y24 : Int) s25 => r01 y24 → At E s25 80 [(0, .ref (G.2.2.1 139)), (1, .int (pI p1)), (2, .int (pI y24)), (3, .int (pI x15.2))] []) (fun y24 s25 o r26 =>
z_iload_n X 1 dX5_read_80 rfl <|
z_iconst X dX5_read_81 <|
z_join o (fun (y30 : Int) s31 => r01 y30 → At E s31 90 [(0, .ref (G.2.2.1 139)), (1, .int (pI p1)), (2, .int (pI y30)), (3, .int (pI x15.2))] []) (fun y30 s31 o r32 =>
z_iload_n X 1 dX5_read_90 rfl <|
z_iconst X dX5_read_91 <|
z_join o (fun (y36 : Int) s37 => r01 y36 → At E s37 100 [(0, .ref (G.2.2.1 139)), (1, .int (pI p1)), (2, .int (pI y36)), (3, .int (pI x15.2))] []) (fun y36 s37 o r38 =>
z_iload_n X 1 dX5_read_100 rfl <|
z_iconst X dX5_read_101 <|
z_icmp_ne (tgt := 110) X dX5_read_102 (by decide) hp1 kc_3 o (fun o =>
z_iinc (L1 := [(3, .int (pI (w32 (x15.2 + 1)))), (0, .ref (G.2.2.1 139)), (1, .int (pI p1)), (2, .int (pI y36))]) X 3 dX5_read_110 rfl (by decide) rfl <|
z_goto (tgt := 48) X dX5_read_113 (by decide) <|
z_sub (L1 := [(0, .ref (G.2.2.1 139)), (1, .int (pI p1)), (2, .int (pI y36)), (3, .int (pI (w32 (x15.2 + 1))))]) X [1, 2, 3, 0] rfl <|
ok_some o ⟨r38, (w32_rg _)⟩) fun o =>
z_aload_n X 0 dX5_read_105 rfl <|
z_callvI X dX5_read_106 q_1126 wX5_readStreetLine sx_139 rfl (by decide) [] [] rfl rfl (Nat.le_of_ble_eq_true rfl) (fun r σ1 e => ct_X5_readStreetLine G _ r σ1 e) o fun r39 s40 h41 o =>
z_istore_n (L1 := [(2, .int (pI r39)), (0, .ref (G.2.2.1 139)), (1, .int (pI p1)), (3, .int (pI x15.2))]) X dX5_read_109 rfl (by decide) rfl <|
z_iinc (L1 := [(3, .int (pI (w32 (x15.2 + 1)))), (2, .int (pI r39)), (0, .ref (G.2.2.1 139)), (1, .int (pI p1))]) X 3 dX5_read_110 rfl (by decide) rfl <|
z_goto (tgt := 48) X dX5_read_113 (by decide) <|
z_sub (L1 := [(0, .ref (G.2.2.1 139)), (1, .int (pI p1)), (2, .int (pI r39)), (3, .int (pI (w32 (x15.2 + 1))))]) X [2, 3, 1, 0] rfl <|
ok_some o ⟨h41, (w32_rg _)⟩) fun o =>
z_icmp_ne (tgt := 100) X dX5_read_92 (by decide) hp1 kc_2 o (fun o =>
ok_some o r32) fun o =>
z_aload_n X 0 dX5_read_95 rfl <|
z_callvI X dX5_read_96 q_1122 wX5_readEvening sx_139 rfl (by decide) [] [] rfl rfl (Nat.le_of_ble_eq_true rfl) (fun r σ1 e => ct_X5_readEvening G _ r σ1 e) o fun r33 s34 h35 o =>
z_istore_n (L1 := [(2, .int (pI r33)), (0, .ref (G.2.2.1 139)), (1, .int (pI p1)), (3, .int (pI x15.2))]) X dX5_read_99 rfl (by decide) rfl <|
z_sub (L1 := [(0, .ref (G.2.2.1 139)), (1, .int (pI p1)), (2, .int (pI r33)), (3, .int (pI x15.2))]) X [1, 2, 0, 3] rfl <|
ok_some o h35) fun o =>
z_icmp_ne (tgt := 90) X dX5_read_82 (by decide) hp1 kc_1 o (fun o =>
ok_some o r26) fun o =>
z_aload_n X 0 dX5_read_85 rfl <|
z_callvI X dX5_read_86 q_1102 wX5_readCall sx_139 rfl (by decide) [] [] rfl rfl (Nat.le_of_ble_eq_true rfl) (fun r σ1 e => ct_X5_readCall G _ r σ1 e) o fun r27 s28 h29 o =>
z_istore_n (L1 := [(2, .int (pI r27)), (0, .ref (G.2.2.1 139)), (1, .int (pI p1)), (3, .int (pI x15.2))]) X dX5_read_89 rfl (by decide) rfl <|
z_sub (L1 := [(0, .ref (G.2.2.1 139)), (1, .int (pI p1)), (2, .int (pI r27)), (3, .int (pI x15.2))]) X [1, 2, 0, 3] rfl <|
ok_some o h29) fun o =>
z_if_ne (tgt := 80) X dX5_read_72 (by decide) hp1 o (fun o =>
ok_some o r17.1) fun o =>
z_aload_n X 0 dX5_read_75 rfl <|
z_callvI X dX5_read_76 q_1039 wX5_readLawLine sx_139 rfl (by decide) [] [] rfl rfl (Nat.le_of_ble_eq_true rfl) (fun r σ1 e => ct_X5_readLawLine G _ r σ1 e) o fun r21 s22 h23 o =>
z_istore_n (L1 := [(2, .int (pI r21)), (0, .ref (G.2.2.1 139)), (1, .int (pI p1)), (3, .int (pI x15.2))]) X dX5_read_79 rfl (by decide) rfl <|
z_sub (L1 := [(0, .ref (G.2.2.1 139)), (1, .int (pI p1)), (2, .int (pI r21)), (3, .int (pI x15.2))]) X [1, 2, 0, 3] rfl <|
ok_some o h23) ⟨kb_1, kc_0⟩) fun o =>
z_iconst X dX5_read_19 <|
z_zret X Y dX5_read_20 o kb_0 kb_0 : At E s0 0 [(0, .ref (G.2.2.1 139)), (1, .int (pI p1))] [])
set_option maxHeartbeats 4000000 in
set_option maxRecDepth 100000 in
theorem ct_X9_linesOf (p1 : Int) (hp1 : rg p1) (G : Gw) (s0 : St) (r : Int) (σ1 : St) (e : fX9_linesOf p1 s0 = some (r, σ1)) : Ct yX9_linesOf cX9_linesOf 2 (some (.object "PorchHours$Row")) 0 0 SX G [.ref (G.2.2.1 17), .int (pI p1)] s0 (QR SX G r (fun r => r = 18 ∨ r = 22 ∨ r = 24 ∨ r = 26) σ1) :=
  Ct.of (by decide +kernel) (Nat.le_of_ble_eq_true rfl) fun E X Y => by
    have o : Ok (fX9_linesOf p1 s0) (fun x σ' => x = r ∧ σ' = σ1) := ⟨r, σ1, e, rfl, rfl⟩
    unfold fX9_linesOf at o
    exact (
z_iload_n X 1 dX9_linesOf_0 rfl <|
z_if_ne (tgt := 9) X dX9_linesOf_1 (by decide) hp1 o (fun o =>
z_iload_n X 1 dX9_linesOf_9 rfl <|
z_iconst X dX9_linesOf_10 <|
z_icmp_ne (tgt := 19) X dX9_linesOf_11 (by decide) hp1 kc_1 o (fun o =>
z_iload_n X 1 dX9_linesOf_19 rfl <|
z_iconst X dX9_linesOf_20 <|
z_icmp_ne (tgt := 31) X dX9_linesOf_21 (by decide) hp1 kc_2 o (fun o =>
z_aload_n X 0 dX9_linesOf_31 rfl <|
z_getR (q := 26) X dX9_linesOf_32 fl_X9_29 sx_17 rfl <|
z_aret (q := 26) X Y dX9_linesOf_35 o (Or.inr (Or.inr (Or.inr rfl)))) fun o =>
z_aload_n X 0 dX9_linesOf_24 rfl <|
z_getR (q := 24) X dX9_linesOf_25 fl_X9_26 sx_17 rfl <|
z_goto (tgt := 35) X dX9_linesOf_28 (by decide) <|
z_aret (q := 24) X Y dX9_linesOf_35 o (Or.inr (Or.inr (Or.inl rfl)))) fun o =>
z_aload_n X 0 dX9_linesOf_14 rfl <|
z_getR (q := 22) X dX9_linesOf_15 fl_X9_23 sx_17 rfl <|
z_aret (q := 22) X Y dX9_linesOf_18 o (Or.inr (Or.inl rfl))) fun o =>
z_aload_n X 0 dX9_linesOf_4 rfl <|
z_getR (q := 18) X dX9_linesOf_5 fl_X9_14 sx_17 rfl <|
z_aret (q := 18) X Y dX9_linesOf_8 o (Or.inl rfl) : At E s0 0 [(0, .ref (G.2.2.1 17)), (1, .int (pI p1))] [])
set_option maxHeartbeats 4000000 in
set_option maxRecDepth 100000 in
theorem ct_X5_draft   (G : Gw) (s0 : St) (r : Int) (σ1 : St) (e : fX5_draft s0 = some (r, σ1)) : Ct yX5_draft cX5_draft 1 (some (.object "PorchHours$Row")) 0 0 SX G [.ref (G.2.2.1 139)] s0 (QR SX G r (fun r => r = 140) σ1) :=
  Ct.of (by decide +kernel) (Nat.le_of_ble_eq_true rfl) fun E X Y => by
    have o : Ok (fX5_draft s0) (fun x σ' => x = r ∧ σ' = σ1) := ⟨r, σ1, e, rfl, rfl⟩
    unfold fX5_draft at o
    exact (
z_aload_n X 0 dX5_draft_0 rfl <|
z_getR (q := 140) X dX5_draft_1 fl_X5_14 sx_139 rfl <|
z_aret (q := 140) X Y dX5_draft_4 o rfl : At E s0 0 [(0, .ref (G.2.2.1 139))] [])
set_option maxHeartbeats 4000000 in
set_option maxRecDepth 100000 in
theorem ct_X5_draftCode   (G : Gw) (s0 : St) (r : Int) (σ1 : St) (e : fX5_draftCode s0 = some (r, σ1)) : Ct yX5_draftCode cX5_draftCode 1 (some (.object "PorchHours$Row")) 0 0 SX G [.ref (G.2.2.1 139)] s0 (QR SX G r (fun r => r = 142) σ1) :=
  Ct.of (by decide +kernel) (Nat.le_of_ble_eq_true rfl) fun E X Y => by
    have o : Ok (fX5_draftCode s0) (fun x σ' => x = r ∧ σ' = σ1) := ⟨r, σ1, e, rfl, rfl⟩
    unfold fX5_draftCode at o
    exact (
z_aload_n X 0 dX5_draftCode_0 rfl <|
z_getR (q := 142) X dX5_draftCode_1 fl_X5_20 sx_139 rfl <|
z_aret (q := 142) X Y dX5_draftCode_4 o rfl : At E s0 0 [(0, .ref (G.2.2.1 139))] [])
set_option maxHeartbeats 4000000 in
set_option maxRecDepth 100000 in
theorem ct_X11_text (p1 : Int) (hp1 : rg p1) (G : Gw) (s0 : St) (r : Int) (σ1 : St) (e : fX11_text p1 s0 = some (r, σ1)) : Ct yX11_text cX11_text 4 (some .int) 10 224 SX G [.ref (G.2.2.1 0), .int (pI p1)] s0 (QI SX G r rg σ1) :=
  Ct.of (by decide +kernel) (Nat.le_of_ble_eq_true rfl) fun E X Y => by
    have o : Ok (fX11_text p1 s0) (fun x σ' => x = r ∧ σ' = σ1) := ⟨r, σ1, e, rfl, rfl⟩
    unfold fX11_text at o
    exact (
z_aload_n X 0 dX11_text_0 rfl <|
z_getR (q := 139) X dX11_text_1 fl_X11_51 sx_0 rfl <|
z_iload_n X 1 dX11_text_4 rfl <|
z_callvI X dX11_text_5 q_912 wX5_read sx_139 rfl (by decide) [.int (pI p1)] [] rfl rfl (Nat.le_of_ble_eq_true rfl) (fun r σ1 e => ct_X5_read p1 hp1 G _ r σ1 e) o fun r1 s2 h3 o =>
z_istore_n (L1 := [(2, .int (pI r1)), (0, .ref (G.2.2.1 0)), (1, .int (pI p1))]) X dX11_text_8 rfl (by decide) rfl <|
z_aload_n X 1 dX11_text_9 rfl <|
z_getR (q := 1) X dX11_text_10 fl_X11_12 sx_0 rfl <|
z_iconst X dX11_text_13 <|
z_callvI X dX11_text_14 q_904 wX7_cut sx_1 rfl (by decide) [.int (pI 0)] [] rfl rfl (Nat.le_of_ble_eq_true rfl) (fun r σ1 e => ct_X7_cut 0 kc_0 G _ r σ1 e) o fun r4 s5 h6 o =>
z_pop X dX11_text_17 rfl <|
z_iload_n X 0 dX11_text_18 rfl <|
z_if_ne (tgt := 24) X dX11_text_19 (by decide) (r01_rg h3) o (fun o =>
z_aload_n X 1 dX11_text_24 rfl <|
z_getR (q := 17) X dX11_text_25 fl_X11_26 sx_0 rfl <|
z_iload_n X 2 dX11_text_28 rfl <|
z_callvR X dX11_text_29 q_1134 wX9_linesOf sx_17 rfl (by decide) [.int (pI p1)] [] rfl rfl (Nat.le_of_ble_eq_true rfl) (fun r σ1 e => ct_X9_linesOf p1 hp1 G _ r σ1 e) o fun r7 s8 h9 o =>
z_astore_n (L1 := [(3, .ref (G.2.2.1 r7.toNat)), (2, .int (pI r1)), (0, .ref (G.2.2.1 0)), (1, .int (pI p1))]) X dX11_text_32 rfl (by decide) rfl <|
z_aload_n X 0 dX11_text_33 rfl <|
z_aload_n X 2 dX11_text_34 rfl <|
z_getR (q := 139) X dX11_text_35 fl_X11_51 sx_0 rfl <|
z_callvRc X dX11_text_38 q_1138 wX5_draft (fun _ h => h) sx_139 rfl (by decide) [] [.ref (G.2.2.1 r7.toNat)] rfl rfl (Nat.le_of_ble_eq_true rfl) (fun r σ1 e => ct_X5_draft G _ r σ1 e) o fun s11 o =>
z_callvV X dX11_text_41 q_1142 wX6_copyFrom (isR_lines h9).1 rfl (by decide) [.ref (G.2.2.1 140)] [] rfl rfl (Nat.le_of_ble_eq_true rfl) (fun r σ1 e => ct_X6_copyFrom SX r7.toNat (r7.toNat + 1) 64 140 141 64 (isR_lines h9) ⟨sx_140, sx_141, (by decide)⟩ G _ r σ1 e) o fun r13 s14 o =>
z_iload_n X 3 dX11_text_44 rfl <|
z_join o (fun (y22 : Unit) s23 => True → At E s23 65 [(0, .ref (G.2.2.1 0)), (1, .int (pI p1)), (3, .ref (G.2.2.1 r7.toNat))] []) (fun y22 s23 o r24 =>
z_iload_n X 1 dX11_text_65 rfl <|
z_iconst X dX11_text_66 <|
z_join o (fun (y31 : Unit) s32 => True → At E s32 82 [(3, .ref (G.2.2.1 r7.toNat))] []) (fun y31 s32 o r33 =>
z_aload_n X 0 dX11_text_82 rfl <|
z_callvI X dX11_text_83 q_729 wX6_size (isR_lines h9).1 rfl (by decide) [] [] rfl rfl (Nat.le_of_ble_eq_true rfl) (fun r σ1 e => ct_X6_size SX r7.toNat (r7.toNat + 1) 64 (isR_lines h9) G _ r σ1 e) o fun r34 s35 h36 o =>
z_iret X Y dX11_text_86 o h36) fun o =>
z_icmp_eq (tgt := 75) X dX11_text_67 (by decide) hp1 kc_1 o (fun o =>
z_aload_n X 0 dX11_text_75 rfl <|
z_getR (q := 52) X dX11_text_76 fl_X11_42 sx_0 rfl <|
z_callvV X dX11_text_79 q_673 wX10_forget sx_52 rfl (by decide) [] [] rfl rfl (Nat.le_of_ble_eq_true rfl) (fun r σ1 e => ct_X10_forget G _ r σ1 e) o fun r25 s26 o =>
z_sub (L1 := [(3, .ref (G.2.2.1 r7.toNat))]) X [2] rfl <|
ok_some o trivial) fun o =>
z_iload_n X 1 dX11_text_70 rfl <|
z_iconst X dX11_text_71 <|
z_icmp_ne (tgt := 82) X dX11_text_72 (by decide) hp1 kc_2 o (fun o =>
z_sub (L1 := [(3, .ref (G.2.2.1 r7.toNat))]) X [2] rfl <|
ok_some o trivial) fun o =>
z_aload_n X 0 dX11_text_75 rfl <|
z_getR (q := 52) X dX11_text_76 fl_X11_42 sx_0 rfl <|
z_callvV X dX11_text_79 q_673 wX10_forget sx_52 rfl (by decide) [] [] rfl rfl (Nat.le_of_ble_eq_true rfl) (fun r σ1 e => ct_X10_forget G _ r σ1 e) o fun r28 s29 o =>
z_sub (L1 := [(3, .ref (G.2.2.1 r7.toNat))]) X [2] rfl <|
ok_some o trivial) fun o =>
z_if_ne (tgt := 65) X dX11_text_45 (by decide) hp1 o (fun o =>
z_sub (L1 := [(0, .ref (G.2.2.1 0)), (1, .int (pI p1)), (3, .ref (G.2.2.1 r7.toNat))]) X [2, 3, 0] rfl <|
ok_some o trivial) fun o =>
z_aload_n X 2 dX11_text_48 rfl <|
z_getR (q := 17) X dX11_text_49 fl_X11_26 sx_0 rfl <|
z_getRN (q := 20) X dX11_text_52 fn_X11_231 sx_17 rfl <|
z_aload_n X 2 dX11_text_55 rfl <|
z_getR (q := 139) X dX11_text_56 fl_X11_51 sx_0 rfl <|
z_callvRc X dX11_text_59 q_1147 wX5_draftCode (fun _ h => h) sx_139 rfl (by decide) [] [.ref (G.2.2.1 20)] rfl rfl (Nat.le_of_ble_eq_true rfl) (fun r σ1 e => ct_X5_draftCode G _ r σ1 e) o fun s17 o =>
z_callvV X dX11_text_62 q_1142 wX6_copyFrom sx_20 rfl (by decide) [.ref (G.2.2.1 142)] [] rfl rfl (Nat.le_of_ble_eq_true rfl) (fun r σ1 e => ct_X6_copyFrom SX 20 21 400 142 143 400 ⟨sx_20, sx_21, (by decide)⟩ ⟨sx_142, sx_143, (by decide)⟩ G _ r σ1 e) o fun r19 s20 o =>
z_sub (L1 := [(0, .ref (G.2.2.1 0)), (1, .int (pI p1)), (3, .ref (G.2.2.1 r7.toNat))]) X [2, 3, 0] rfl <|
ok_some o trivial) fun o =>
z_iconst X dX11_text_22 <|
z_iret X Y dX11_text_23 o kc_m1 : At E s0 0 [(0, .ref (G.2.2.1 0)), (1, .int (pI p1))] [])
set_option maxHeartbeats 4000000 in
set_option maxRecDepth 100000 in
theorem ct_X6_cutTo (S : List Kd) (ro rc rn : Nat) (p1 : Int) (hR : isR S ro rc rn) (hp1 : rg p1) (G : Gw) (s0 : St) (r : Int) (σ1 : St) (e : fX6_cutTo ro rc rn p1 s0 = some (r, σ1)) : Ct yX6_cutTo cX6_cutTo 2 none 0 0 S G [.ref (G.2.2.1 ro), .int (pI p1)] s0 (QV S G σ1) :=
  Ct.of (by decide +kernel) (Nat.le_of_ble_eq_true rfl) fun E X Y => by
    have o : Ok (fX6_cutTo ro rc rn p1 s0) (fun x σ' => x = r ∧ σ' = σ1) := ⟨r, σ1, e, rfl, rfl⟩
    unfold fX6_cutTo at o
    exact (
z_iload_n X 1 dX6_cutTo_0 rfl <|
z_if_lt (tgt := 17) X dX6_cutTo_1 (by decide) hp1 o (fun o =>
z_vret (v := 0) X Y dX6_cutTo_17 o) fun o =>
z_iload_n X 1 dX6_cutTo_4 rfl <|
z_aload_n X 0 dX6_cutTo_5 rfl <|
z_getI X dX6_cutTo_6 fl_X6_19 hR.1 rfl o fun v1 r2 o =>
z_icmp_ge (tgt := 17) X dX6_cutTo_9 (by decide) hp1 r2 o (fun o =>
z_vret (v := 0) X Y dX6_cutTo_17 o) fun o =>
z_aload_n X 0 dX6_cutTo_12 rfl <|
z_iload_n X 1 dX6_cutTo_13 rfl <|
z_putI X dX6_cutTo_14 fl_X6_19 hR.1 ft_X6_2 rfl hp1 o fun s3 o =>
z_vret (v := 0) X Y dX6_cutTo_17 o : At E s0 0 [(0, .ref (G.2.2.1 ro)), (1, .int (pI p1))] [])
set_option maxHeartbeats 4000000 in
set_option maxRecDepth 100000 in
theorem ct_X11_undo   (G : Gw) (s0 : St) (r : Int) (σ1 : St) (e : fX11_undo s0 = some (r, σ1)) : Ct yX11_undo cX11_undo 2 (some .boolean) 3 82 SX G [.ref (G.2.2.1 0)] s0 (QI SX G r r01 σ1) :=
  Ct.of (by decide +kernel) (Nat.le_of_ble_eq_true rfl) fun E X Y => by
    have o : Ok (fX11_undo s0) (fun x σ' => x = r ∧ σ' = σ1) := ⟨r, σ1, e, rfl, rfl⟩
    unfold fX11_undo at o
    exact (
z_aload_n X 0 dX11_undo_0 rfl <|
z_getR (q := 52) X dX11_undo_1 fl_X11_42 sx_0 rfl <|
z_aload_n X 0 dX11_undo_4 rfl <|
z_getR (q := 3) X dX11_undo_5 fl_X11_19 sx_0 rfl <|
z_callvI X dX11_undo_8 q_1508 wX10_goBack sx_52 rfl (by decide) [.ref (G.2.2.1 3)] [] rfl rfl (Nat.le_of_ble_eq_true rfl) (fun r σ1 e => ct_X10_goBack G _ r σ1 e) o fun r1 s2 h3 o =>
z_istore_n (L1 := [(1, .int (pI r1)), (0, .ref (G.2.2.1 0))]) X dX11_undo_11 rfl (by decide) rfl <|
z_iload_n X 0 dX11_undo_12 rfl <|
z_iconst X dX11_undo_13 <|
z_icmp_ne (tgt := 19) X dX11_undo_14 (by decide) h3 kc_m1 o (fun o =>
z_aload_n X 1 dX11_undo_19 rfl <|
z_getR (q := 50) X dX11_undo_20 fl_X11_35 sx_0 rfl <|
z_iload_n X 0 dX11_undo_23 rfl <|
z_callvV X dX11_undo_24 q_1512 wX6_cutTo sx_50 rfl (by decide) [.int (pI r1)] [] rfl rfl (Nat.le_of_ble_eq_true rfl) (fun r σ1 e => ct_X6_cutTo SX 50 51 750 r1 ⟨sx_50, sx_51, (by decide)⟩ h3 G _ r σ1 e) o fun r4 s5 o =>
z_iconst X dX11_undo_27 <|
z_zret X Y dX11_undo_28 o kb_1 kb_1) fun o =>
z_iconst X dX11_undo_17 <|
z_zret X Y dX11_undo_18 o kb_0 kb_0 : At E s0 0 [(0, .ref (G.2.2.1 0))] [])
set_option maxHeartbeats 4000000 in
set_option maxRecDepth 100000 in
theorem ct_X11_wishes (p1 : Int) (p2 : Int) (p3 : Int) (hp1 : rg p1) (hp2 : rg p2) (hp3 : rg p3) (G : Gw) (s0 : St) (r : Int) (σ1 : St) (e : fX11_wishes p1 p2 p3 s0 = some (r, σ1)) : Ct yX11_wishes cX11_wishes 4 (some .boolean) 2 56 SX G [.ref (G.2.2.1 0), .int (pI p1), .int (pI p2), .int (pI p3)] s0 (QI SX G r r01 σ1) :=
  Ct.of (by decide +kernel) (Nat.le_of_ble_eq_true rfl) fun E X Y => by
    have o : Ok (fX11_wishes p1 p2 p3 s0) (fun x σ' => x = r ∧ σ' = σ1) := ⟨r, σ1, e, rfl, rfl⟩
    unfold fX11_wishes at o
    exact (
z_iload_n X 1 dX11_wishes_0 rfl <|
z_iconst X dX11_wishes_1 <|
z_iconst X dX11_wishes_2 <|
z_callsI X dX11_wishes_3 q_681 wX11_within  (by decide) [.int (pI p1), .int (pI 0), .int (pI 1)] [] rfl rfl (Nat.le_of_ble_eq_true rfl) (fun r σ1 e => ct_X11_within p1 0 1 hp1 kc_0 kc_1 G _ r σ1 e) o fun r1 s2 h3 o =>
z_if_eq (tgt := 35) X dX11_wishes_6 (by decide) (r01_rg h3) o (fun o =>
z_iconst X dX11_wishes_35 <|
z_zret X Y dX11_wishes_36 o kb_0 kb_0) fun o =>
z_iload_n X 2 dX11_wishes_9 rfl <|
z_iconst X dX11_wishes_10 <|
z_iconst X dX11_wishes_11 <|
z_callsI X dX11_wishes_12 q_681 wX11_within  (by decide) [.int (pI p2), .int (pI 0), .int (pI 4)] [] rfl rfl (Nat.le_of_ble_eq_true rfl) (fun r σ1 e => ct_X11_within p2 0 4 hp2 kc_0 kc_4 G _ r σ1 e) o fun r4 s5 h6 o =>
z_if_eq (tgt := 35) X dX11_wishes_15 (by decide) (r01_rg h6) o (fun o =>
z_iconst X dX11_wishes_35 <|
z_zret X Y dX11_wishes_36 o kb_0 kb_0) fun o =>
z_aload_n X 0 dX11_wishes_18 rfl <|
z_getR (q := 153) X dX11_wishes_19 fl_X11_81 sx_0 rfl <|
z_iload_n X 1 dX11_wishes_22 rfl <|
z_iload_n X 2 dX11_wishes_23 rfl <|
z_iload_n X 3 dX11_wishes_24 rfl <|
z_callvI X dX11_wishes_25 q_1203 wX0_change sx_153 rfl (by decide) [.int (pI p1), .int (pI p2), .int (pI p3)] [] rfl rfl (Nat.le_of_ble_eq_true rfl) (fun r σ1 e => ct_X0_change p1 p2 p3 hp1 hp2 hp3 G _ r σ1 e) o fun r7 s8 h9 o =>
z_if_eq (tgt := 35) X dX11_wishes_28 (by decide) (r01_rg h9) o (fun o =>
z_iconst X dX11_wishes_35 <|
z_zret X Y dX11_wishes_36 o kb_0 kb_0) fun o =>
z_iconst X dX11_wishes_31 <|
z_goto (tgt := 36) X dX11_wishes_32 (by decide) <|
z_zret X Y dX11_wishes_36 o kb_1 kb_1 : At E s0 0 [(0, .ref (G.2.2.1 0)), (1, .int (pI p1)), (2, .int (pI p2)), (3, .int (pI p3))] [])
set_option maxHeartbeats 4000000 in
set_option maxRecDepth 100000 in
theorem ct_X12_isPorch (p1 : Int) (hp1 : rg p1) (G : Gw) (s0 : St) (r : Int) (σ1 : St) (e : fX12_isPorch p1 s0 = some (r, σ1)) : Ct yX12_isPorch cX12_isPorch 2 (some .boolean) 0 0 SM G [.ref (G.2.2.1 0), .int (pI p1)] s0 (QI SM G r r01 σ1) :=
  Ct.of (by decide +kernel) (Nat.le_of_ble_eq_true rfl) fun E X Y => by
    have o : Ok (fX12_isPorch p1 s0) (fun x σ' => x = r ∧ σ' = σ1) := ⟨r, σ1, e, rfl, rfl⟩
    unfold fX12_isPorch at o
    exact (
z_iload_n X 1 dX12_isPorch_0 rfl <|
z_if_lt (tgt := 16) X dX12_isPorch_1 (by decide) hp1 o (fun o =>
z_iconst X dX12_isPorch_16 <|
z_zret X Y dX12_isPorch_17 o kb_0 kb_0) fun o =>
z_iload_n X 1 dX12_isPorch_4 rfl <|
z_aload_n X 0 dX12_isPorch_5 rfl <|
z_getI X dX12_isPorch_6 fl_X12_196 sm_0 rfl o fun v1 r2 o =>
z_icmp_ge (tgt := 16) X dX12_isPorch_9 (by decide) hp1 r2 o (fun o =>
z_iconst X dX12_isPorch_16 <|
z_zret X Y dX12_isPorch_17 o kb_0 kb_0) fun o =>
z_iconst X dX12_isPorch_12 <|
z_goto (tgt := 17) X dX12_isPorch_13 (by decide) <|
z_zret X Y dX12_isPorch_17 o kb_1 kb_1 : At E s0 0 [(0, .ref (G.2.2.1 0)), (1, .int (pI p1))] [])
set_option maxHeartbeats 4000000 in
set_option maxRecDepth 100000 in
theorem ct_X12_isIn (p1 : Int) (p2 : Int) (p3 : Int) (hp1 : rg p1) (hp2 : rg p2) (hp3 : rg p3) (G : Gw) (s0 : St) (r : Int) (σ1 : St) (e : fX12_isIn p1 p2 p3 s0 = some (r, σ1)) : Ct yX12_isIn cX12_isIn 4 (some .boolean) 0 0 SM G [.ref (G.2.2.1 0), .int (pI p1), .int (pI p2), .int (pI p3)] s0 (QI SM G r r01 σ1) :=
  Ct.of (by decide +kernel) (Nat.le_of_ble_eq_true rfl) fun E X Y => by
    have o : Ok (fX12_isIn p1 p2 p3 s0) (fun x σ' => x = r ∧ σ' = σ1) := ⟨r, σ1, e, rfl, rfl⟩
    unfold fX12_isIn at o
    exact (
z_iload_n X 1 dX12_isIn_0 rfl <|
z_iload_n X 2 dX12_isIn_1 rfl <|
z_icmp_lt (tgt := 14) X dX12_isIn_2 (by decide) hp1 hp2 o (fun o =>
z_iconst X dX12_isIn_14 <|
z_zret X Y dX12_isIn_15 o kb_0 kb_0) fun o =>
z_iload_n X 1 dX12_isIn_5 rfl <|
z_iload_n X 3 dX12_isIn_6 rfl <|
z_icmp_gt (tgt := 14) X dX12_isIn_7 (by decide) hp1 hp3 o (fun o =>
z_iconst X dX12_isIn_14 <|
z_zret X Y dX12_isIn_15 o kb_0 kb_0) fun o =>
z_iconst X dX12_isIn_10 <|
z_goto (tgt := 15) X dX12_isIn_11 (by decide) <|
z_zret X Y dX12_isIn_15 o kb_1 kb_1 : At E s0 0 [(0, .ref (G.2.2.1 0)), (1, .int (pI p1)), (2, .int (pI p2)), (3, .int (pI p3))] [])
set_option maxHeartbeats 4000000 in
set_option maxRecDepth 100000 in
theorem ct_X12_isPerson (p1 : Int) (hp1 : rg p1) (G : Gw) (s0 : St) (r : Int) (σ1 : St) (e : fX12_isPerson p1 s0 = some (r, σ1)) : Ct yX12_isPerson cX12_isPerson 2 (some .boolean) 0 0 SM G [.ref (G.2.2.1 0), .int (pI p1)] s0 (QI SM G r r01 σ1) :=
  Ct.of (by decide +kernel) (Nat.le_of_ble_eq_true rfl) fun E X Y => by
    have o : Ok (fX12_isPerson p1 s0) (fun x σ' => x = r ∧ σ' = σ1) := ⟨r, σ1, e, rfl, rfl⟩
    unfold fX12_isPerson at o
    exact (
z_iload_n X 1 dX12_isPerson_0 rfl <|
z_if_lt (tgt := 16) X dX12_isPerson_1 (by decide) hp1 o (fun o =>
z_iconst X dX12_isPerson_16 <|
z_zret X Y dX12_isPerson_17 o kb_0 kb_0) fun o =>
z_iload_n X 1 dX12_isPerson_4 rfl <|
z_aload_n X 0 dX12_isPerson_5 rfl <|
z_getI X dX12_isPerson_6 fl_X12_199 sm_0 rfl o fun v1 r2 o =>
z_icmp_ge (tgt := 16) X dX12_isPerson_9 (by decide) hp1 r2 o (fun o =>
z_iconst X dX12_isPerson_16 <|
z_zret X Y dX12_isPerson_17 o kb_0 kb_0) fun o =>
z_iconst X dX12_isPerson_12 <|
z_goto (tgt := 17) X dX12_isPerson_13 (by decide) <|
z_zret X Y dX12_isPerson_17 o kb_1 kb_1 : At E s0 0 [(0, .ref (G.2.2.1 0)), (1, .int (pI p1))] [])
set_option maxHeartbeats 4000000 in
set_option maxRecDepth 100000 in
theorem ct_X12_doesSit (p1 : Int) (hp1 : rg p1) (G : Gw) (s0 : St) (r : Int) (σ1 : St) (e : fX12_doesSit p1 s0 = some (r, σ1)) : Ct yX12_doesSit cX12_doesSit 2 (some .boolean) 0 0 SM G [.ref (G.2.2.1 0), .int (pI p1)] s0 (QI SM G r r01 σ1) :=
  Ct.of (by decide +kernel) (Nat.le_of_ble_eq_true rfl) fun E X Y => by
    have o : Ok (fX12_doesSit p1 s0) (fun x σ' => x = r ∧ σ' = σ1) := ⟨r, σ1, e, rfl, rfl⟩
    unfold fX12_doesSit at o
    exact (
z_aload_n X 0 dX12_doesSit_0 rfl <|
z_getR (q := 1) X dX12_doesSit_1 fl_X12_7 sm_0 rfl <|
z_bipush X dX12_doesSit_4 bi_41 <|
z_iload_n X 1 dX12_doesSit_6 rfl <|
z_iadd X dX12_doesSit_7 <|
z_iald X dX12_doesSit_8 sm_1 (w32_rg _) o fun v1 r2 o =>
z_if_le (tgt := 16) X dX12_doesSit_9 (by decide) r2 o (fun o =>
z_iconst X dX12_doesSit_16 <|
z_zret X Y dX12_doesSit_17 o kb_0 kb_0) fun o =>
z_iconst X dX12_doesSit_12 <|
z_goto (tgt := 17) X dX12_doesSit_13 (by decide) <|
z_zret X Y dX12_doesSit_17 o kb_1 kb_1 : At E s0 0 [(0, .ref (G.2.2.1 0)), (1, .int (pI p1))] [])
set_option maxHeartbeats 4000000 in
set_option maxRecDepth 100000 in
theorem ct_X12_sitsOn (p1 : Int) (hp1 : rg p1) (G : Gw) (s0 : St) (r : Int) (σ1 : St) (e : fX12_sitsOn p1 s0 = some (r, σ1)) : Ct yX12_sitsOn cX12_sitsOn 2 (some .int) 0 0 SM G [.ref (G.2.2.1 0), .int (pI p1)] s0 (QI SM G r rg σ1) :=
  Ct.of (by decide +kernel) (Nat.le_of_ble_eq_true rfl) fun E X Y => by
    have o : Ok (fX12_sitsOn p1 s0) (fun x σ' => x = r ∧ σ' = σ1) := ⟨r, σ1, e, rfl, rfl⟩
    unfold fX12_sitsOn at o
    exact (
z_aload_n X 0 dX12_sitsOn_0 rfl <|
z_getR (q := 1) X dX12_sitsOn_1 fl_X12_7 sm_0 rfl <|
z_bipush X dX12_sitsOn_4 bi_41 <|
z_iload_n X 1 dX12_sitsOn_6 rfl <|
z_iadd X dX12_sitsOn_7 <|
z_iald X dX12_sitsOn_8 sm_1 (w32_rg _) o fun v1 r2 o =>
z_iconst X dX12_sitsOn_9 <|
z_isub X dX12_sitsOn_10 <|
z_iret X Y dX12_sitsOn_11 o (w32_rg _) : At E s0 0 [(0, .ref (G.2.2.1 0)), (1, .int (pI p1))] [])
set_option maxHeartbeats 4000000 in
set_option maxRecDepth 100000 in
theorem ct_X12_sittersOn (p1 : Int) (hp1 : rg p1) (G : Gw) (s0 : St) (r : Int) (σ1 : St) (e : fX12_sittersOn p1 s0 = some (r, σ1)) : Ct yX12_sittersOn cX12_sittersOn 4 (some .int) 1 21 SM G [.ref (G.2.2.1 0), .int (pI p1)] s0 (QI SM G r rg σ1) :=
  Ct.of (by decide +kernel) (Nat.le_of_ble_eq_true rfl) fun E X Y => by
    have o : Ok (fX12_sittersOn p1 s0) (fun x σ' => x = r ∧ σ' = σ1) := ⟨r, σ1, e, rfl, rfl⟩
    unfold fX12_sittersOn at o
    exact (
z_iconst X dX12_sittersOn_0 <|
z_istore_n (L1 := [(2, .int (pI 0)), (0, .ref (G.2.2.1 0)), (1, .int (pI p1))]) X dX12_sittersOn_1 rfl (by decide) rfl <|
z_iconst X dX12_sittersOn_2 <|
z_istore_n (L1 := [(3, .int (pI 0)), (2, .int (pI 0)), (0, .ref (G.2.2.1 0)), (1, .int (pI p1))]) X dX12_sittersOn_3 rfl (by decide) rfl <|
z_join o (fun (y11 : Int) s12 => rg y11 → At E s12 33 [(2, .int (pI y11))] []) (fun y11 s12 o r13 =>
z_iload_n X 0 dX12_sittersOn_33 rfl <|
z_iret X Y dX12_sittersOn_34 o r13) fun o =>
z_sub (L1 := [(0, .ref (G.2.2.1 0)), (1, .int (pI p1)), (2, .int (pI 0)), (3, .int (pI 0))]) X [2, 3, 1, 0] rfl <|
z_iter (fun (x1 : Int × Int) s2 => rg x1.1 ∧ rg x1.2 → At E s2 4 [(0, .ref (G.2.2.1 0)), (1, .int (pI p1)), (2, .int (pI x1.1)), (3, .int (pI x1.2))] []) o (fun x1 s2 o r3 =>
z_iload_n X 3 dX12_sittersOn_4 rfl <|
z_aload_n X 0 dX12_sittersOn_5 rfl <|
z_getI X dX12_sittersOn_6 fl_X12_199 sm_0 rfl o fun v4 r5 o =>
z_icmp_ge (tgt := 33) X dX12_sittersOn_9 (by decide) r3.2 r5 o (fun o =>
z_sub (L1 := [(2, .int (pI x1.1))]) X [2] rfl <|
ok_some o r3.1) fun o =>
z_aload_n X 0 dX12_sittersOn_12 rfl <|
z_iload_n X 3 dX12_sittersOn_13 rfl <|
z_callvI X dX12_sittersOn_14 q_2018 wX12_sitsOn sm_0 rfl (by decide) [.int (pI x1.2)] [] rfl rfl (Nat.le_of_ble_eq_true rfl) (fun r σ1 e => ct_X12_sitsOn x1.2 r3.2 G _ r σ1 e) o fun r6 s7 h8 o =>
z_iload_n X 1 dX12_sittersOn_17 rfl <|
z_icmp_ne (tgt := 27) X dX12_sittersOn_18 (by decide) h8 hp1 o (fun o =>
z_iinc (L1 := [(3, .int (pI (w32 (x1.2 + 1)))), (0, .ref (G.2.2.1 0)), (1, .int (pI p1)), (2, .int (pI x1.1))]) X 3 dX12_sittersOn_27 rfl (by decide) rfl <|
z_goto (tgt := 4) X dX12_sittersOn_30 (by decide) <|
z_sub (L1 := [(0, .ref (G.2.2.1 0)), (1, .int (pI p1)), (2, .int (pI x1.1)), (3, .int (pI (w32 (x1.2 + 1))))]) X [1, 2, 3, 0] rfl <|
ok_some o ⟨r3.1, (w32_rg _)⟩) fun o =>
z_iload_n X 2 dX12_sittersOn_21 rfl <|
z_iconst X dX12_sittersOn_22 <|
z_iload_n X 3 dX12_sittersOn_23 rfl <|
z_ishl X dX12_sittersOn_24 <|
z_ior X dX12_sittersOn_25 <|
z_istoreL_n (L1 := fun v9 => [(2, .int (pI v9)), (0, .ref (G.2.2.1 0)), (1, .int (pI p1)), (3, .int (pI x1.2))]) (R := rg) X dX12_sittersOn_26 rfl (by decide) (fun _ => rfl) o (int_rg _) fun v9 r10 o =>
z_iinc (L1 := [(3, .int (pI (w32 (x1.2 + 1)))), (2, .int (pI v9)), (0, .ref (G.2.2.1 0)), (1, .int (pI p1))]) X 3 dX12_sittersOn_27 rfl (by decide) rfl <|
z_goto (tgt := 4) X dX12_sittersOn_30 (by decide) <|
z_sub (L1 := [(0, .ref (G.2.2.1 0)), (1, .int (pI p1)), (2, .int (pI v9)), (3, .int (pI (w32 (x1.2 + 1))))]) X [2, 3, 1, 0] rfl <|
ok_some o ⟨r10, (w32_rg _)⟩) ⟨kc_0, kc_0⟩ : At E s0 0 [(0, .ref (G.2.2.1 0)), (1, .int (pI p1))] [])
set_option maxHeartbeats 4000000 in
set_option maxRecDepth 100000 in
theorem ct_X12_onesOf (p1 : Int) (hp1 : rg p1) (G : Gw) (s0 : St) (r : Int) (σ1 : St) (e : fX12_onesOf p1 s0 = some (r, σ1)) : Ct yX12_onesOf cX12_onesOf 4 (some .int) 0 0 SM G [.ref (G.2.2.1 0), .int (pI p1)] s0 (QI SM G r rg σ1) :=
  Ct.of (by decide +kernel) (Nat.le_of_ble_eq_true rfl) fun E X Y => by
    have o : Ok (fX12_onesOf p1 s0) (fun x σ' => x = r ∧ σ' = σ1) := ⟨r, σ1, e, rfl, rfl⟩
    unfold fX12_onesOf at o
    exact (
z_iconst X dX12_onesOf_0 <|
z_istore_n (L1 := [(2, .int (pI 0)), (0, .ref (G.2.2.1 0)), (1, .int (pI p1))]) X dX12_onesOf_1 rfl (by decide) rfl <|
z_iload_n X 2 dX12_onesOf_2 rfl <|
z_istore_n (L1 := [(3, .int (pI p1)), (2, .int (pI 0)), (0, .ref (G.2.2.1 0)), (1, .int (pI p1))]) X dX12_onesOf_3 rfl (by decide) rfl <|
z_join o (fun (y8 : Int) s9 => rg y8 → At E s9 21 [(2, .int (pI y8))] []) (fun y8 s9 o r10 =>
z_iload_n X 0 dX12_onesOf_21 rfl <|
z_iret X Y dX12_onesOf_22 o r10) fun o =>
z_sub (L1 := [(2, .int (pI 0)), (3, .int (pI p1))]) X [1, 0] rfl <|
z_iter (fun (x1 : Int × Int) s2 => rg x1.1 ∧ rg x1.2 → At E s2 4 [(2, .int (pI x1.1)), (3, .int (pI x1.2))] []) o (fun x1 s2 o r3 =>
z_iload_n X 1 dX12_onesOf_4 rfl <|
z_if_eq (tgt := 21) X dX12_onesOf_5 (by decide) r3.2 o (fun o =>
z_sub (L1 := [(2, .int (pI x1.1))]) X [0] rfl <|
ok_some o r3.1) fun o =>
z_iload_n X 0 dX12_onesOf_8 rfl <|
z_iconst X dX12_onesOf_9 <|
z_iadd X dX12_onesOf_10 <|
z_istoreL_n (L1 := fun v4 => [(2, .int (pI v4)), (3, .int (pI x1.2))]) (R := rg) X dX12_onesOf_11 rfl (by decide) (fun _ => rfl) o (w32_rg _) fun v4 r5 o =>
z_iload_n X 1 dX12_onesOf_12 rfl <|
z_iload_n X 1 dX12_onesOf_13 rfl <|
z_iconst X dX12_onesOf_14 <|
z_isub X dX12_onesOf_15 <|
z_iand X dX12_onesOf_16 <|
z_istoreL_n (L1 := fun v6 => [(3, .int (pI v6)), (2, .int (pI v4))]) (R := rg) X dX12_onesOf_17 rfl (by decide) (fun _ => rfl) o (int_rg _) fun v6 r7 o =>
z_goto (tgt := 4) X dX12_onesOf_18 (by decide) <|
z_sub (L1 := [(2, .int (pI v4)), (3, .int (pI v6))]) X [1, 0] rfl <|
ok_some o ⟨r5, r7⟩) ⟨kc_0, hp1⟩ : At E s0 0 [(0, .ref (G.2.2.1 0)), (1, .int (pI p1))] [])
set_option maxHeartbeats 4000000 in
set_option maxRecDepth 100000 in
theorem ct_X12_canSit (p1 : Int) (p2 : Int) (hp1 : rg p1) (hp2 : rg p2) (G : Gw) (s0 : St) (r : Int) (σ1 : St) (e : fX12_canSit p1 p2 s0 = some (r, σ1)) : Ct yX12_canSit cX12_canSit 3 (some .boolean) 2 44 SM G [.ref (G.2.2.1 0), .int (pI p1), .int (pI p2)] s0 (QI SM G r r01 σ1) :=
  Ct.of (by decide +kernel) (Nat.le_of_ble_eq_true rfl) fun E X Y => by
    have o : Ok (fX12_canSit p1 p2 s0) (fun x σ' => x = r ∧ σ' = σ1) := ⟨r, σ1, e, rfl, rfl⟩
    unfold fX12_canSit at o
    exact (
z_aload_n X 0 dX12_canSit_0 rfl <|
z_iload_n X 1 dX12_canSit_1 rfl <|
z_callvI X dX12_canSit_2 q_2010 wX12_doesSit sm_0 rfl (by decide) [.int (pI p1)] [] rfl rfl (Nat.le_of_ble_eq_true rfl) (fun r σ1 e => ct_X12_doesSit p1 hp1 G _ r σ1 e) o fun r1 s2 h3 o =>
z_if_ne (tgt := 30) X dX12_canSit_5 (by decide) (r01_rg h3) o (fun o =>
z_iconst X dX12_canSit_30 <|
z_zret X Y dX12_canSit_31 o kb_0 kb_0) fun o =>
z_aload_n X 0 dX12_canSit_8 rfl <|
z_aload_n X 0 dX12_canSit_9 rfl <|
z_iload_n X 2 dX12_canSit_10 rfl <|
z_callvI X dX12_canSit_11 q_2014 wX12_sittersOn sm_0 rfl (by decide) [.int (pI p2)] [.ref (G.2.2.1 0)] rfl rfl (Nat.le_of_ble_eq_true rfl) (fun r σ1 e => ct_X12_sittersOn p2 hp2 G _ r σ1 e) o fun r4 s5 h6 o =>
z_callvI X dX12_canSit_14 q_2022 wX12_onesOf sm_0 rfl (by decide) [.int (pI r4)] [] rfl rfl (Nat.le_of_ble_eq_true rfl) (fun r σ1 e => ct_X12_onesOf r4 h6 G _ r σ1 e) o fun r7 s8 h9 o =>
z_aload_n X 0 dX12_canSit_17 rfl <|
z_getR (q := 4) X dX12_canSit_18 fl_X12_19 sm_0 rfl <|
z_iload_n X 2 dX12_canSit_21 rfl <|
z_iald X dX12_canSit_22 sm_4 hp2 o fun v10 r11 o =>
z_icmp_ge (tgt := 30) X dX12_canSit_23 (by decide) h9 r11 o (fun o =>
z_iconst X dX12_canSit_30 <|
z_zret X Y dX12_canSit_31 o kb_0 kb_0) fun o =>
z_iconst X dX12_canSit_26 <|
z_goto (tgt := 31) X dX12_canSit_27 (by decide) <|
z_zret X Y dX12_canSit_31 o kb_1 kb_1 : At E s0 0 [(0, .ref (G.2.2.1 0)), (1, .int (pI p1)), (2, .int (pI p2))] [])
set_option maxHeartbeats 4000000 in
set_option maxRecDepth 100000 in
theorem ct_X12_canAct (p1 : Int) (p2 : Int) (p3 : Int) (hp1 : rg p1) (hp2 : rg p2) (hp3 : rg p3) (G : Gw) (s0 : St) (r : Int) (σ1 : St) (e : fX12_canAct p1 p2 p3 s0 = some (r, σ1)) : Ct yX12_canAct cX12_canAct 4 (some .boolean) 3 66 SM G [.ref (G.2.2.1 0), .int (pI p1), .int (pI p2), .int (pI p3)] s0 (QI SM G r r01 σ1) :=
  Ct.of (by decide +kernel) (Nat.le_of_ble_eq_true rfl) fun E X Y => by
    have o : Ok (fX12_canAct p1 p2 p3 s0) (fun x σ' => x = r ∧ σ' = σ1) := ⟨r, σ1, e, rfl, rfl⟩
    unfold fX12_canAct at o
    exact (
z_iload_n X 1 dX12_canAct_0 rfl <|
z_if_ne (tgt := 35) X dX12_canAct_1 (by decide) hp1 o (fun o =>
z_iload_n X 1 dX12_canAct_35 rfl <|
z_iconst X dX12_canAct_36 <|
z_icmp_ne (tgt := 62) X dX12_canAct_37 (by decide) hp1 kc_1 o (fun o =>
z_iload_n X 1 dX12_canAct_62 rfl <|
z_iconst X dX12_canAct_63 <|
z_joix o (fun (y4 : Unit) s5 => True → At E s5 75 [(0, .ref (G.2.2.1 0)), (1, .int (pI p1)), (2, .int (pI p2)), (3, .int (pI p3))] []) (fun y4 s5 o r6 =>
z_iload_n X 1 dX12_canAct_75 rfl <|
z_iconst X dX12_canAct_76 <|
z_icmp_ne (tgt := 103) X dX12_canAct_77 (by decide) hp1 kc_3 o (fun o =>
z_iconst X dX12_canAct_103 <|
z_zret X Y dX12_canAct_104 o kb_0 kb_0) fun o =>
z_aload_n X 0 dX12_canAct_80 rfl <|
z_iload_n X 2 dX12_canAct_81 rfl <|
z_callvI X dX12_canAct_82 q_1838 wX12_isPorch sm_0 rfl (by decide) [.int (pI p2)] [] rfl rfl (Nat.le_of_ble_eq_true rfl) (fun r σ1 e => ct_X12_isPorch p2 hp2 G _ r σ1 e) o fun r7 s8 h9 o =>
z_if_eq (tgt := 103) X dX12_canAct_85 (by decide) (r01_rg h9) o (fun o =>
z_iconst X dX12_canAct_103 <|
z_zret X Y dX12_canAct_104 o kb_0 kb_0) fun o =>
z_aload_n X 0 dX12_canAct_88 rfl <|
z_iload_n X 3 dX12_canAct_89 rfl <|
z_iconst X dX12_canAct_90 <|
z_bipush X dX12_canAct_91 bi_99 <|
z_callvI X dX12_canAct_93 q_1822 wX12_isIn sm_0 rfl (by decide) [.int (pI p3), .int (pI 0), .int (pI 99)] [] rfl rfl (Nat.le_of_ble_eq_true rfl) (fun r σ1 e => ct_X12_isIn p3 0 99 hp3 kc_0 kc_99 G _ r σ1 e) o fun r10 s11 h12 o =>
z_if_eq (tgt := 103) X dX12_canAct_96 (by decide) (r01_rg h12) o (fun o =>
z_iconst X dX12_canAct_103 <|
z_zret X Y dX12_canAct_104 o kb_0 kb_0) fun o =>
z_iconst X dX12_canAct_99 <|
z_goto (tgt := 104) X dX12_canAct_100 (by decide) <|
z_zret X Y dX12_canAct_104 o kb_1 kb_1) fun o =>
z_icmp_ne (tgt := 75) X dX12_canAct_64 (by decide) hp1 kc_2 o (fun o =>
ok_some o trivial) fun o =>
z_aload_n X 0 dX12_canAct_67 rfl <|
z_iload_n X 2 dX12_canAct_68 rfl <|
z_callvI X dX12_canAct_69 q_1838 wX12_isPorch sm_0 rfl (by decide) [.int (pI p2)] [] rfl rfl (Nat.le_of_ble_eq_true rfl) (fun r σ1 e => ct_X12_isPorch p2 hp2 G _ r σ1 e) o fun r1 s2 h3 o =>
z_if_ne (tgt := 99) X dX12_canAct_72 (by decide) (r01_rg h3) o (fun o =>
z_iconst X dX12_canAct_99 <|
z_goto (tgt := 104) X dX12_canAct_100 (by decide) <|
z_zret X Y dX12_canAct_104 (ok_ret (ok_some o)) kb_1 kb_1) fun o =>
ok_some o trivial) fun o =>
z_aload_n X 0 dX12_canAct_40 rfl <|
z_iload_n X 2 dX12_canAct_41 rfl <|
z_callvI X dX12_canAct_42 q_1842 wX12_isPerson sm_0 rfl (by decide) [.int (pI p2)] [] rfl rfl (Nat.le_of_ble_eq_true rfl) (fun r σ1 e => ct_X12_isPerson p2 hp2 G _ r σ1 e) o fun r13 s14 h15 o =>
z_if_eq (tgt := 60) X dX12_canAct_45 (by decide) (r01_rg h15) o (fun o =>
z_iconst X dX12_canAct_60 <|
z_zret X Y dX12_canAct_61 o kb_0 kb_0) fun o =>
z_aload_n X 0 dX12_canAct_48 rfl <|
z_iload_n X 2 dX12_canAct_49 rfl <|
z_callvI X dX12_canAct_50 q_2010 wX12_doesSit sm_0 rfl (by decide) [.int (pI p2)] [] rfl rfl (Nat.le_of_ble_eq_true rfl) (fun r σ1 e => ct_X12_doesSit p2 hp2 G _ r σ1 e) o fun r16 s17 h18 o =>
z_if_eq (tgt := 60) X dX12_canAct_53 (by decide) (r01_rg h18) o (fun o =>
z_iconst X dX12_canAct_60 <|
z_zret X Y dX12_canAct_61 o kb_0 kb_0) fun o =>
z_iconst X dX12_canAct_56 <|
z_goto (tgt := 61) X dX12_canAct_57 (by decide) <|
z_zret X Y dX12_canAct_61 o kb_1 kb_1) fun o =>
z_aload_n X 0 dX12_canAct_4 rfl <|
z_iload_n X 2 dX12_canAct_5 rfl <|
z_callvI X dX12_canAct_6 q_1842 wX12_isPerson sm_0 rfl (by decide) [.int (pI p2)] [] rfl rfl (Nat.le_of_ble_eq_true rfl) (fun r σ1 e => ct_X12_isPerson p2 hp2 G _ r σ1 e) o fun r19 s20 h21 o =>
z_if_eq (tgt := 33) X dX12_canAct_9 (by decide) (r01_rg h21) o (fun o =>
z_iconst X dX12_canAct_33 <|
z_zret X Y dX12_canAct_34 o kb_0 kb_0) fun o =>
z_aload_n X 0 dX12_canAct_12 rfl <|
z_iload_n X 3 dX12_canAct_13 rfl <|
z_callvI X dX12_canAct_14 q_1838 wX12_isPorch sm_0 rfl (by decide) [.int (pI p3)] [] rfl rfl (Nat.le_of_ble_eq_true rfl) (fun r σ1 e => ct_X12_isPorch p3 hp3 G _ r σ1 e) o fun r22 s23 h24 o =>
z_if_eq (tgt := 33) X dX12_canAct_17 (by decide) (r01_rg h24) o (fun o =>
z_iconst X dX12_canAct_33 <|
z_zret X Y dX12_canAct_34 o kb_0 kb_0) fun o =>
z_aload_n X 0 dX12_canAct_20 rfl <|
z_iload_n X 2 dX12_canAct_21 rfl <|
z_iload_n X 3 dX12_canAct_22 rfl <|
z_callvI X dX12_canAct_23 q_2006 wX12_canSit sm_0 rfl (by decide) [.int (pI p2), .int (pI p3)] [] rfl rfl (Nat.le_of_ble_eq_true rfl) (fun r σ1 e => ct_X12_canSit p2 p3 hp2 hp3 G _ r σ1 e) o fun r25 s26 h27 o =>
z_if_eq (tgt := 33) X dX12_canAct_26 (by decide) (r01_rg h27) o (fun o =>
z_iconst X dX12_canAct_33 <|
z_zret X Y dX12_canAct_34 o kb_0 kb_0) fun o =>
z_iconst X dX12_canAct_29 <|
z_goto (tgt := 34) X dX12_canAct_30 (by decide) <|
z_zret X Y dX12_canAct_34 o kb_1 kb_1 : At E s0 0 [(0, .ref (G.2.2.1 0)), (1, .int (pI p1)), (2, .int (pI p2)), (3, .int (pI p3))] [])
set_option maxHeartbeats 4000000 in
set_option maxRecDepth 100000 in
theorem ct_X12_keepsAhead   (G : Gw) (s0 : St) (r : Int) (σ1 : St) (e : fX12_keepsAhead s0 = some (r, σ1)) : Ct yX12_keepsAhead cX12_keepsAhead 2 none 0 0 SM G [.ref (G.2.2.1 0)] s0 (QV SM G σ1) :=
  Ct.of (by decide +kernel) (Nat.le_of_ble_eq_true rfl) fun E X Y => by
    have o : Ok (fX12_keepsAhead s0) (fun x σ' => x = r ∧ σ' = σ1) := ⟨r, σ1, e, rfl, rfl⟩
    unfold fX12_keepsAhead at o
    exact (
z_aload_n X 0 dX12_keepsAhead_0 rfl <|
z_getI X dX12_keepsAhead_1 fl_X12_187 sm_0 rfl o fun v1 r2 o =>
z_bipush X dX12_keepsAhead_4 bi_6 <|
z_join o (fun (y14 : Unit) s15 => True → At E s15 55 [(0, .ref (G.2.2.1 0))] []) (fun y14 s15 o r16 =>
z_iconst X dX12_keepsAhead_55 <|
z_istore_n (L1 := [(1, .int (pI 0)), (0, .ref (G.2.2.1 0))]) X dX12_keepsAhead_56 rfl (by decide) rfl <|
z_join o (fun (y25 : Unit) s26 => True → At E s26 91 [(0, .ref (G.2.2.1 0))] []) (fun y25 s26 o r27 =>
z_aload_n X 0 dX12_keepsAhead_91 rfl <|
z_aload_n X 0 dX12_keepsAhead_92 rfl <|
z_getI X dX12_keepsAhead_93 fl_X12_187 sm_0 rfl o fun v28 r29 o =>
z_iconst X dX12_keepsAhead_96 <|
z_iadd X dX12_keepsAhead_97 <|
z_putI X dX12_keepsAhead_98 fl_X12_187 sm_0 ft_X12_3 rfl (w32_rg _) o fun s30 o =>
z_vret (v := 0) X Y dX12_keepsAhead_101 o) fun o =>
z_sub (L1 := [(0, .ref (G.2.2.1 0)), (1, .int (pI 0))]) X [1, 0] rfl <|
z_iter (fun (x17 : Int) s18 => rg x17 → At E s18 57 [(0, .ref (G.2.2.1 0)), (1, .int (pI x17))] []) o (fun x17 s18 o r19 =>
z_iload_n X 1 dX12_keepsAhead_57 rfl <|
z_sipush X dX12_keepsAhead_58 si_161 <|
z_icmp_ge (tgt := 91) X dX12_keepsAhead_61 (by decide) r19 kc_161 o (fun o =>
z_sub (L1 := [(0, .ref (G.2.2.1 0))]) X [0] rfl <|
ok_some o trivial) fun o =>
z_aload_n X 0 dX12_keepsAhead_64 rfl <|
z_getR (q := 2) X dX12_keepsAhead_65 fl_X12_13 sm_0 rfl <|
z_sipush X dX12_keepsAhead_68 si_161 <|
z_aload_n X 0 dX12_keepsAhead_71 rfl <|
z_getI X dX12_keepsAhead_72 fl_X12_187 sm_0 rfl o fun v20 r21 o =>
z_imul X dX12_keepsAhead_75 <|
z_iload_n X 1 dX12_keepsAhead_76 rfl <|
z_iadd X dX12_keepsAhead_77 <|
z_aload_n X 0 dX12_keepsAhead_78 rfl <|
z_getR (q := 1) X dX12_keepsAhead_79 fl_X12_7 sm_0 rfl <|
z_iload_n X 1 dX12_keepsAhead_82 rfl <|
z_iald X dX12_keepsAhead_83 sm_1 r19 o fun v22 r23 o =>
z_iast X dX12_keepsAhead_84 sm_2 (w32_rg _) r23 o fun s24 o =>
z_iinc (L1 := [(1, .int (pI (w32 (x17 + 1)))), (0, .ref (G.2.2.1 0))]) X 1 dX12_keepsAhead_85 rfl (by decide) rfl <|
z_goto (tgt := 57) X dX12_keepsAhead_88 (by decide) <|
z_sub (L1 := [(0, .ref (G.2.2.1 0)), (1, .int (pI (w32 (x17 + 1))))]) X [1, 0] rfl <|
ok_some o (w32_rg _)) kc_0) fun o =>
z_icmp_ne (tgt := 55) X dX12_keepsAhead_6 (by decide) r2 kc_6 o (fun o =>
ok_some o trivial) fun o =>
z_aload_n X 0 dX12_keepsAhead_9 rfl <|
z_aload_n X 0 dX12_keepsAhead_10 rfl <|
z_getI X dX12_keepsAhead_11 fl_X12_187 sm_0 rfl o fun v3 r4 o =>
z_iconst X dX12_keepsAhead_14 <|
z_isub X dX12_keepsAhead_15 <|
z_putI X dX12_keepsAhead_16 fl_X12_187 sm_0 ft_X12_3 rfl (w32_rg _) o fun s5 o =>
z_iconst X dX12_keepsAhead_19 <|
z_istore_n (L1 := [(1, .int (pI 0)), (0, .ref (G.2.2.1 0))]) X dX12_keepsAhead_20 rfl (by decide) rfl <|
z_sub (L1 := [(0, .ref (G.2.2.1 0)), (1, .int (pI 0))]) X [1, 0] rfl <|
z_iter (fun (x6 : Int) s7 => rg x6 → At E s7 21 [(0, .ref (G.2.2.1 0)), (1, .int (pI x6))] []) o (fun x6 s7 o r8 =>
z_iload_n X 1 dX12_keepsAhead_21 rfl <|
z_sipush X dX12_keepsAhead_22 si_161 <|
z_aload_n X 0 dX12_keepsAhead_25 rfl <|
z_getI X dX12_keepsAhead_26 fl_X12_187 sm_0 rfl o fun v9 r10 o =>
z_imul X dX12_keepsAhead_29 <|
z_icmp_ge (tgt := 55) X dX12_keepsAhead_30 (by decide) r8 (w32_rg _) o (fun o =>
z_sub (L1 := [(0, .ref (G.2.2.1 0))]) X [0] rfl <|
ok_some o trivial) fun o =>
z_aload_n X 0 dX12_keepsAhead_33 rfl <|
z_getR (q := 2) X dX12_keepsAhead_34 fl_X12_13 sm_0 rfl <|
z_iload_n X 1 dX12_keepsAhead_37 rfl <|
z_aload_n X 0 dX12_keepsAhead_38 rfl <|
z_getR (q := 2) X dX12_keepsAhead_39 fl_X12_13 sm_0 rfl <|
z_iload_n X 1 dX12_keepsAhead_42 rfl <|
z_sipush X dX12_keepsAhead_43 si_161 <|
z_iadd X dX12_keepsAhead_46 <|
z_iald X dX12_keepsAhead_47 sm_2 (w32_rg _) o fun v11 r12 o =>
z_iast X dX12_keepsAhead_48 sm_2 r8 r12 o fun s13 o =>
z_iinc (L1 := [(1, .int (pI (w32 (x6 + 1)))), (0, .ref (G.2.2.1 0))]) X 1 dX12_keepsAhead_49 rfl (by decide) rfl <|
z_goto (tgt := 21) X dX12_keepsAhead_52 (by decide) <|
z_sub (L1 := [(0, .ref (G.2.2.1 0)), (1, .int (pI (w32 (x6 + 1))))]) X [1, 0] rfl <|
ok_some o (w32_rg _)) kc_0 : At E s0 0 [(0, .ref (G.2.2.1 0))] [])
