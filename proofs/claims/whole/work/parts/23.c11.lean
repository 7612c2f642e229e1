set_option maxHeartbeats 4000000 in
set_option maxRecDepth 100000 in
theorem ct_X12_keepsLaw   (G : Gw) (s0 : St) (r : Int) (σ1 : St) (e : fX12_keepsLaw s0 = some (r, σ1)) : Ct yX12_keepsLaw cX12_keepsLaw 2 none 1 21 SM G [.ref (G.2.2.1 0)] s0 (QV SM G σ1) :=
  Ct.of (by decide +kernel) (Nat.le_of_ble_eq_true rfl) fun E X Y => by
    have o : Ok (fX12_keepsLaw s0) (fun x σ' => x = r ∧ σ' = σ1) := ⟨r, σ1, e, rfl, rfl⟩
    unfold fX12_keepsLaw at o
    exact (
z_aload_n X 0 dX12_keepsLaw_0 rfl <|
z_getR (q := 10) X dX12_keepsLaw_1 fl_X12_37 sm_0 rfl <|
z_iconst X dX12_keepsLaw_4 <|
z_aload_n X 0 dX12_keepsLaw_5 rfl <|
z_aload_n X 0 dX12_keepsLaw_6 rfl <|
z_getR (q := 10) X dX12_keepsLaw_7 fl_X12_37 sm_0 rfl <|
z_iconst X dX12_keepsLaw_10 <|
z_iald X dX12_keepsLaw_11 sm_10 kc_0 o fun v1 r2 o =>
z_callvI X dX12_keepsLaw_12 q_2351 wX12_keeps sm_0 rfl (by decide) [.int (pI v1)] [.int (pI 0), .ref (G.2.2.1 10)] rfl rfl (Nat.le_of_ble_eq_true rfl) (fun r σ1 e => ct_X12_keeps v1 r2 G _ r σ1 e) o fun r3 s4 h5 o =>
z_iast X dX12_keepsLaw_15 sm_10 kc_0 h5 o fun s6 o =>
z_iconst X dX12_keepsLaw_16 <|
z_istore_n (L1 := [(1, .int (pI 0)), (0, .ref (G.2.2.1 0))]) X dX12_keepsLaw_17 rfl (by decide) rfl <|
z_join o (fun (y34 : Unit) s35 => True → At E s35 94 [(0, .ref (G.2.2.1 0))] []) (fun y34 s35 o r36 =>
z_iconst X dX12_keepsLaw_94 <|
z_istore_n (L1 := [(1, .int (pI 0)), (0, .ref (G.2.2.1 0))]) X dX12_keepsLaw_95 rfl (by decide) rfl <|
z_join o (fun (y52 : Unit) s53 => True → At E s53 141 [] []) (fun y52 s53 o r54 =>
z_vret (v := 0) X Y dX12_keepsLaw_141 o) fun o =>
z_sub (L1 := [(0, .ref (G.2.2.1 0)), (1, .int (pI 0))]) X [1, 0] rfl <|
z_iter (fun (x37 : Int) s38 => rg x37 → At E s38 96 [(0, .ref (G.2.2.1 0)), (1, .int (pI x37))] []) o (fun x37 s38 o r39 =>
z_iload_n X 1 dX12_keepsLaw_96 rfl <|
z_sipush X dX12_keepsLaw_97 si_400 <|
z_icmp_ge (tgt := 141) X dX12_keepsLaw_100 (by decide) r39 kc_400 o (fun o =>
z_sub (L1 := []) X [] rfl <|
ok_some o trivial) fun o =>
z_aload_n X 0 dX12_keepsLaw_103 rfl <|
z_getR (q := 15) X dX12_keepsLaw_104 fl_X12_52 sm_0 rfl <|
z_iload_n X 1 dX12_keepsLaw_107 rfl <|
z_aload_n X 0 dX12_keepsLaw_108 rfl <|
z_aload_n X 0 dX12_keepsLaw_109 rfl <|
z_getR (q := 15) X dX12_keepsLaw_110 fl_X12_52 sm_0 rfl <|
z_iload_n X 1 dX12_keepsLaw_113 rfl <|
z_iald X dX12_keepsLaw_114 sm_15 r39 o fun v40 r41 o =>
z_callvI X dX12_keepsLaw_115 q_2351 wX12_keeps sm_0 rfl (by decide) [.int (pI v40)] [.int (pI x37), .ref (G.2.2.1 15)] rfl rfl (Nat.le_of_ble_eq_true rfl) (fun r σ1 e => ct_X12_keeps v40 r41 G _ r σ1 e) o fun r42 s43 h44 o =>
z_iast X dX12_keepsLaw_118 sm_15 r39 h44 o fun s45 o =>
z_aload_n X 0 dX12_keepsLaw_119 rfl <|
z_getR (q := 16) X dX12_keepsLaw_120 fl_X12_55 sm_0 rfl <|
z_iload_n X 1 dX12_keepsLaw_123 rfl <|
z_aload_n X 0 dX12_keepsLaw_124 rfl <|
z_aload_n X 0 dX12_keepsLaw_125 rfl <|
z_getR (q := 16) X dX12_keepsLaw_126 fl_X12_55 sm_0 rfl <|
z_iload_n X 1 dX12_keepsLaw_129 rfl <|
z_iald X dX12_keepsLaw_130 sm_16 r39 o fun v46 r47 o =>
z_callvI X dX12_keepsLaw_131 q_2351 wX12_keeps sm_0 rfl (by decide) [.int (pI v46)] [.int (pI x37), .ref (G.2.2.1 16)] rfl rfl (Nat.le_of_ble_eq_true rfl) (fun r σ1 e => ct_X12_keeps v46 r47 G _ r σ1 e) o fun r48 s49 h50 o =>
z_iast X dX12_keepsLaw_134 sm_16 r39 h50 o fun s51 o =>
z_iinc (L1 := [(1, .int (pI (w32 (x37 + 1)))), (0, .ref (G.2.2.1 0))]) X 1 dX12_keepsLaw_135 rfl (by decide) rfl <|
z_goto (tgt := 96) X dX12_keepsLaw_138 (by decide) <|
z_sub (L1 := [(0, .ref (G.2.2.1 0)), (1, .int (pI (w32 (x37 + 1))))]) X [1, 0] rfl <|
ok_some o (w32_rg _)) kc_0) fun o =>
z_sub (L1 := [(0, .ref (G.2.2.1 0)), (1, .int (pI 0))]) X [1, 0] rfl <|
z_iter (fun (x7 : Int) s8 => rg x7 → At E s8 18 [(0, .ref (G.2.2.1 0)), (1, .int (pI x7))] []) o (fun x7 s8 o r9 =>
z_iload_n X 1 dX12_keepsLaw_18 rfl <|
z_bipush X dX12_keepsLaw_19 bi_16 <|
z_icmp_ge (tgt := 94) X dX12_keepsLaw_21 (by decide) r9 kc_16 o (fun o =>
z_sub (L1 := [(0, .ref (G.2.2.1 0))]) X [0] rfl <|
ok_some o trivial) fun o =>
z_aload_n X 0 dX12_keepsLaw_24 rfl <|
z_getR (q := 11) X dX12_keepsLaw_25 fl_X12_40 sm_0 rfl <|
z_iload_n X 1 dX12_keepsLaw_28 rfl <|
z_aload_n X 0 dX12_keepsLaw_29 rfl <|
z_aload_n X 0 dX12_keepsLaw_30 rfl <|
z_getR (q := 11) X dX12_keepsLaw_31 fl_X12_40 sm_0 rfl <|
z_iload_n X 1 dX12_keepsLaw_34 rfl <|
z_iald X dX12_keepsLaw_35 sm_11 r9 o fun v10 r11 o =>
z_callvI X dX12_keepsLaw_36 q_2351 wX12_keeps sm_0 rfl (by decide) [.int (pI v10)] [.int (pI x7), .ref (G.2.2.1 11)] rfl rfl (Nat.le_of_ble_eq_true rfl) (fun r σ1 e => ct_X12_keeps v10 r11 G _ r σ1 e) o fun r12 s13 h14 o =>
z_iast X dX12_keepsLaw_39 sm_11 r9 h14 o fun s15 o =>
z_aload_n X 0 dX12_keepsLaw_40 rfl <|
z_getR (q := 12) X dX12_keepsLaw_41 fl_X12_43 sm_0 rfl <|
z_iload_n X 1 dX12_keepsLaw_44 rfl <|
z_aload_n X 0 dX12_keepsLaw_45 rfl <|
z_aload_n X 0 dX12_keepsLaw_46 rfl <|
z_getR (q := 12) X dX12_keepsLaw_47 fl_X12_43 sm_0 rfl <|
z_iload_n X 1 dX12_keepsLaw_50 rfl <|
z_iald X dX12_keepsLaw_51 sm_12 r9 o fun v16 r17 o =>
z_callvI X dX12_keepsLaw_52 q_2351 wX12_keeps sm_0 rfl (by decide) [.int (pI v16)] [.int (pI x7), .ref (G.2.2.1 12)] rfl rfl (Nat.le_of_ble_eq_true rfl) (fun r σ1 e => ct_X12_keeps v16 r17 G _ r σ1 e) o fun r18 s19 h20 o =>
z_iast X dX12_keepsLaw_55 sm_12 r9 h20 o fun s21 o =>
z_aload_n X 0 dX12_keepsLaw_56 rfl <|
z_getR (q := 13) X dX12_keepsLaw_57 fl_X12_46 sm_0 rfl <|
z_iload_n X 1 dX12_keepsLaw_60 rfl <|
z_aload_n X 0 dX12_keepsLaw_61 rfl <|
z_aload_n X 0 dX12_keepsLaw_62 rfl <|
z_getR (q := 13) X dX12_keepsLaw_63 fl_X12_46 sm_0 rfl <|
z_iload_n X 1 dX12_keepsLaw_66 rfl <|
z_iald X dX12_keepsLaw_67 sm_13 r9 o fun v22 r23 o =>
z_callvI X dX12_keepsLaw_68 q_2351 wX12_keeps sm_0 rfl (by decide) [.int (pI v22)] [.int (pI x7), .ref (G.2.2.1 13)] rfl rfl (Nat.le_of_ble_eq_true rfl) (fun r σ1 e => ct_X12_keeps v22 r23 G _ r σ1 e) o fun r24 s25 h26 o =>
z_iast X dX12_keepsLaw_71 sm_13 r9 h26 o fun s27 o =>
z_aload_n X 0 dX12_keepsLaw_72 rfl <|
z_getR (q := 14) X dX12_keepsLaw_73 fl_X12_49 sm_0 rfl <|
z_iload_n X 1 dX12_keepsLaw_76 rfl <|
z_aload_n X 0 dX12_keepsLaw_77 rfl <|
z_aload_n X 0 dX12_keepsLaw_78 rfl <|
z_getR (q := 14) X dX12_keepsLaw_79 fl_X12_49 sm_0 rfl <|
z_iload_n X 1 dX12_keepsLaw_82 rfl <|
z_iald X dX12_keepsLaw_83 sm_14 r9 o fun v28 r29 o =>
z_callvI X dX12_keepsLaw_84 q_2351 wX12_keeps sm_0 rfl (by decide) [.int (pI v28)] [.int (pI x7), .ref (G.2.2.1 14)] rfl rfl (Nat.le_of_ble_eq_true rfl) (fun r σ1 e => ct_X12_keeps v28 r29 G _ r σ1 e) o fun r30 s31 h32 o =>
z_iast X dX12_keepsLaw_87 sm_14 r9 h32 o fun s33 o =>
z_iinc (L1 := [(1, .int (pI (w32 (x7 + 1)))), (0, .ref (G.2.2.1 0))]) X 1 dX12_keepsLaw_88 rfl (by decide) rfl <|
z_goto (tgt := 18) X dX12_keepsLaw_91 (by decide) <|
z_sub (L1 := [(0, .ref (G.2.2.1 0)), (1, .int (pI (w32 (x7 + 1))))]) X [1, 0] rfl <|
ok_some o (w32_rg _)) kc_0 : At E s0 0 [(0, .ref (G.2.2.1 0))] [])
set_option maxHeartbeats 4000000 in
set_option maxRecDepth 100000 in
theorem ct_X12_image (p1 : Int) (hp1 : r01 p1) (G : Gw) (s0 : St) (r : Int) (σ1 : St) (e : fX12_image p1 s0 = some (r, σ1)) : Ct yX12_image cX12_image 3 (some .boolean) 2 42 SM G [.ref (G.2.2.1 0), .int (pI p1)] s0 (QI SM G r r01 σ1) :=
  Ct.of (by decide +kernel) (Nat.le_of_ble_eq_true rfl) fun E X Y => by
    have o : Ok (fX12_image p1 s0) (fun x σ' => x = r ∧ σ' = σ1) := ⟨r, σ1, e, rfl, rfl⟩
    unfold fX12_image at o
    exact (
z_aload_n X 0 dX12_image_0 rfl <|
z_iconst X dX12_image_1 <|
z_putI X dX12_image_2 fl_X12_183 sm_0 ft_X12_0 rfl kc_0 o fun s1 o =>
z_iload_n X 1 dX12_image_5 rfl <|
z_joix o (fun (y4 : Unit) s5 => True → At E s5 18 [(0, .ref (G.2.2.1 0)), (1, .int (pI p1))] []) (fun y4 s5 o r6 =>
z_aload_n X 0 dX12_image_18 rfl <|
z_iload_n X 1 dX12_image_19 rfl <|
z_putZ X dX12_image_20 fl_X12_564 sm_0 ft_X12_83 rfl hp1 o fun s7 o =>
z_aload_n X 0 dX12_image_23 rfl <|
z_iconst X dX12_image_24 <|
z_putZ X dX12_image_25 fl_X12_570 sm_0 ft_X12_84 rfl kb_1 o fun s8 o =>
z_aload_n X 0 dX12_image_28 rfl <|
z_iconst X dX12_image_29 <|
z_putI X dX12_image_30 fl_X12_561 sm_0 ft_X12_85 rfl kc_0 o fun s9 o =>
z_iconst X dX12_image_33 <|
z_istore_n (L1 := [(2, .int (pI 0)), (0, .ref (G.2.2.1 0)), (1, .int (pI p1))]) X dX12_image_34 rfl (by decide) rfl <|
z_join o (fun (y19 : Unit) s20 => True → At E s20 64 [(0, .ref (G.2.2.1 0)), (1, .int (pI p1))] []) (fun y19 s20 o r21 =>
z_aload_n X 0 dX12_image_64 rfl <|
z_callvV X dX12_image_65 q_2355 wX12_keepsMany sm_0 rfl (by decide) [] [] rfl rfl (Nat.le_of_ble_eq_true rfl) (fun r σ1 e => ct_X12_keepsMany G _ r σ1 e) o fun r22 s23 o =>
z_aload_n X 0 dX12_image_68 rfl <|
z_callvV X dX12_image_69 q_2359 wX12_keepsThought sm_0 rfl (by decide) [] [] rfl rfl (Nat.le_of_ble_eq_true rfl) (fun r σ1 e => ct_X12_keepsThought G _ r σ1 e) o fun r25 s26 o =>
z_aload_n X 0 dX12_image_72 rfl <|
z_callvV X dX12_image_73 q_2363 wX12_keepsTold sm_0 rfl (by decide) [] [] rfl rfl (Nat.le_of_ble_eq_true rfl) (fun r σ1 e => ct_X12_keepsTold G _ r σ1 e) o fun r28 s29 o =>
z_iconst X dX12_image_76 <|
z_istore_n (L1 := [(2, .int (pI 0)), (0, .ref (G.2.2.1 0)), (1, .int (pI p1))]) X dX12_image_77 rfl (by decide) rfl <|
z_join o (fun (y40 : Unit) s41 => True → At E s41 107 [(0, .ref (G.2.2.1 0)), (1, .int (pI p1))] []) (fun y40 s41 o r42 =>
z_aload_n X 0 dX12_image_107 rfl <|
z_callvV X dX12_image_108 q_2367 wX12_keepsLaw sm_0 rfl (by decide) [] [] rfl rfl (Nat.le_of_ble_eq_true rfl) (fun r σ1 e => ct_X12_keepsLaw G _ r σ1 e) o fun r43 s44 o =>
z_iload_n X 1 dX12_image_111 rfl <|
z_if_ne (tgt := 120) X dX12_image_112 (by decide) (r01_rg hp1) o (fun o =>
z_iconst X dX12_image_120 <|
z_zret X Y dX12_image_121 o kb_1 kb_1) fun o =>
z_aload_n X 0 dX12_image_115 rfl <|
z_iconst X dX12_image_116 <|
z_putI X dX12_image_117 fl_X12_187 sm_0 ft_X12_3 rfl kc_0 o fun s46 o =>
z_iconst X dX12_image_120 <|
z_zret X Y dX12_image_121 o kb_1 kb_1) fun o =>
z_sub (L1 := [(0, .ref (G.2.2.1 0)), (1, .int (pI p1)), (2, .int (pI 0))]) X [1, 2, 0] rfl <|
z_iter (fun (x31 : Int) s32 => rg x31 → At E s32 78 [(0, .ref (G.2.2.1 0)), (1, .int (pI p1)), (2, .int (pI x31))] []) o (fun x31 s32 o r33 =>
z_iload_n X 2 dX12_image_78 rfl <|
z_sipush X dX12_image_79 si_750 <|
z_icmp_ge (tgt := 107) X dX12_image_82 (by decide) r33 kc_750 o (fun o =>
z_sub (L1 := [(0, .ref (G.2.2.1 0)), (1, .int (pI p1))]) X [0, 1] rfl <|
ok_some o trivial) fun o =>
z_aload_n X 0 dX12_image_85 rfl <|
z_getR (q := 7) X dX12_image_86 fl_X12_28 sm_0 rfl <|
z_iload_n X 2 dX12_image_89 rfl <|
z_aload_n X 0 dX12_image_90 rfl <|
z_aload_n X 0 dX12_image_91 rfl <|
z_getR (q := 7) X dX12_image_92 fl_X12_28 sm_0 rfl <|
z_iload_n X 2 dX12_image_95 rfl <|
z_iald X dX12_image_96 sm_7 r33 o fun v34 r35 o =>
z_callvI X dX12_image_97 q_2351 wX12_keeps sm_0 rfl (by decide) [.int (pI v34)] [.int (pI x31), .ref (G.2.2.1 7)] rfl rfl (Nat.le_of_ble_eq_true rfl) (fun r σ1 e => ct_X12_keeps v34 r35 G _ r σ1 e) o fun r36 s37 h38 o =>
z_iast X dX12_image_100 sm_7 r33 h38 o fun s39 o =>
z_iinc (L1 := [(2, .int (pI (w32 (x31 + 1)))), (0, .ref (G.2.2.1 0)), (1, .int (pI p1))]) X 2 dX12_image_101 rfl (by decide) rfl <|
z_goto (tgt := 78) X dX12_image_104 (by decide) <|
z_sub (L1 := [(0, .ref (G.2.2.1 0)), (1, .int (pI p1)), (2, .int (pI (w32 (x31 + 1))))]) X [1, 2, 0] rfl <|
ok_some o (w32_rg _)) kc_0) fun o =>
z_sub (L1 := [(0, .ref (G.2.2.1 0)), (1, .int (pI p1)), (2, .int (pI 0))]) X [1, 2, 0] rfl <|
z_iter (fun (x10 : Int) s11 => rg x10 → At E s11 35 [(0, .ref (G.2.2.1 0)), (1, .int (pI p1)), (2, .int (pI x10))] []) o (fun x10 s11 o r12 =>
z_iload_n X 2 dX12_image_35 rfl <|
z_sipush X dX12_image_36 si_161 <|
z_icmp_ge (tgt := 64) X dX12_image_39 (by decide) r12 kc_161 o (fun o =>
z_sub (L1 := [(0, .ref (G.2.2.1 0)), (1, .int (pI p1))]) X [0, 1] rfl <|
ok_some o trivial) fun o =>
z_aload_n X 0 dX12_image_42 rfl <|
z_getR (q := 1) X dX12_image_43 fl_X12_7 sm_0 rfl <|
z_iload_n X 2 dX12_image_46 rfl <|
z_aload_n X 0 dX12_image_47 rfl <|
z_aload_n X 0 dX12_image_48 rfl <|
z_getR (q := 1) X dX12_image_49 fl_X12_7 sm_0 rfl <|
z_iload_n X 2 dX12_image_52 rfl <|
z_iald X dX12_image_53 sm_1 r12 o fun v13 r14 o =>
z_callvI X dX12_image_54 q_2351 wX12_keeps sm_0 rfl (by decide) [.int (pI v13)] [.int (pI x10), .ref (G.2.2.1 1)] rfl rfl (Nat.le_of_ble_eq_true rfl) (fun r σ1 e => ct_X12_keeps v13 r14 G _ r σ1 e) o fun r15 s16 h17 o =>
z_iast X dX12_image_57 sm_1 r12 h17 o fun s18 o =>
z_iinc (L1 := [(2, .int (pI (w32 (x10 + 1)))), (0, .ref (G.2.2.1 0)), (1, .int (pI p1))]) X 2 dX12_image_58 rfl (by decide) rfl <|
z_goto (tgt := 35) X dX12_image_61 (by decide) <|
z_sub (L1 := [(0, .ref (G.2.2.1 0)), (1, .int (pI p1)), (2, .int (pI (w32 (x10 + 1))))]) X [1, 2, 0] rfl <|
ok_some o (w32_rg _)) kc_0) fun o =>
z_if_ne (tgt := 18) X dX12_image_6 (by decide) (r01_rg hp1) o (fun o =>
ok_some o trivial) fun o =>
z_aload_n X 0 dX12_image_9 rfl <|
z_getI X dX12_image_10 fl_X12_570 sm_0 rfl o fun v2 r3 o =>
z_if_ne (tgt := 18) X dX12_image_13 (by decide) r3 o (fun o =>
ok_some o trivial) fun o =>
z_iconst X dX12_image_16 <|
z_zret X Y dX12_image_17 (ok_ret (ok_some o)) kb_0 kb_0 : At E s0 0 [(0, .ref (G.2.2.1 0)), (1, .int (pI p1))] [])
set_option maxHeartbeats 4000000 in
set_option maxRecDepth 100000 in
theorem ct_X12_isDigit (p1 : Int) (hp1 : rg p1) (G : Gw) (s0 : St) (r : Int) (σ1 : St) (e : fX12_isDigit p1 s0 = some (r, σ1)) : Ct yX12_isDigit cX12_isDigit 2 (some .boolean) 1 23 SM G [.ref (G.2.2.1 0), .int (pI p1)] s0 (QI SM G r r01 σ1) :=
  Ct.of (by decide +kernel) (Nat.le_of_ble_eq_true rfl) fun E X Y => by
    have o : Ok (fX12_isDigit p1 s0) (fun x σ' => x = r ∧ σ' = σ1) := ⟨r, σ1, e, rfl, rfl⟩
    unfold fX12_isDigit at o
    exact (
z_aload_n X 0 dX12_isDigit_0 rfl <|
z_iload_n X 1 dX12_isDigit_1 rfl <|
z_bipush X dX12_isDigit_2 bi_48 <|
z_bipush X dX12_isDigit_4 bi_57 <|
z_callvI X dX12_isDigit_6 q_1822 wX12_isIn sm_0 rfl (by decide) [.int (pI p1), .int (pI 48), .int (pI 57)] [] rfl rfl (Nat.le_of_ble_eq_true rfl) (fun r σ1 e => ct_X12_isIn p1 48 57 hp1 kc_48 kc_57 G _ r σ1 e) o fun r1 s2 h3 o =>
z_zret X Y dX12_isDigit_9 o h3 h3 : At E s0 0 [(0, .ref (G.2.2.1 0)), (1, .int (pI p1))] [])
set_option maxHeartbeats 4000000 in
set_option maxRecDepth 100000 in
theorem ct_X12_isDry (p1 : Int) (p2 : Int) (p3 : Int) (hp1 : rg p1) (hp2 : rg p2) (hp3 : rg p3) (G : Gw) (s0 : St) (r : Int) (σ1 : St) (e : fX12_isDry p1 p2 p3 s0 = some (r, σ1)) : Ct yX12_isDry cX12_isDry 6 (some .boolean) 0 0 SM G [.ref (G.2.2.1 0), .int (pI p1), .int (pI p2), .int (pI p3)] s0 (QI SM G r r01 σ1) :=
  Ct.of (by decide +kernel) (Nat.le_of_ble_eq_true rfl) fun E X Y => by
    have o : Ok (fX12_isDry p1 p2 p3 s0) (fun x σ' => x = r ∧ σ' = σ1) := ⟨r, σ1, e, rfl, rfl⟩
    unfold fX12_isDry at o
    exact (
z_iconst X dX12_isDry_0 <|
z_istore (L1 := [(4, .int (pI 0)), (0, .ref (G.2.2.1 0)), (1, .int (pI p1)), (2, .int (pI p2)), (3, .int (pI p3))]) X dX12_isDry_1 (by decide) rfl <|
z_join o (fun (y5 : Unit) s6 => True → At E s6 23 [(0, .ref (G.2.2.1 0)), (1, .int (pI p1)), (2, .int (pI p2)), (3, .int (pI p3))] []) (fun y5 s6 o r7 =>
z_iload_n X 1 dX12_isDry_23 rfl <|
z_istore (L1 := [(4, .int (pI p1)), (0, .ref (G.2.2.1 0)), (1, .int (pI p1)), (2, .int (pI p2)), (3, .int (pI p3))]) X dX12_isDry_24 (by decide) rfl <|
z_iconst X dX12_isDry_26 <|
z_istore (L1 := [(5, .int (pI 0)), (4, .int (pI p1)), (0, .ref (G.2.2.1 0)), (1, .int (pI p1)), (2, .int (pI p2)), (3, .int (pI p3))]) X dX12_isDry_27 (by decide) rfl <|
z_joix o (fun (y26 : Unit) s27 => True → At E s27 77 [] []) (fun y26 s27 o r28 =>
z_iconst X dX12_isDry_77 <|
z_zret X Y dX12_isDry_78 o kb_0 kb_0) fun o =>
z_sub (L1 := [(0, .ref (G.2.2.1 0)), (2, .int (pI p2)), (3, .int (pI p3)), (4, .int (pI p1)), (5, .int (pI 0))]) X [2, 4, 5, 1, 0] rfl <|
z_iter (fun (x8 : Int × Int) s9 => rg x8.1 ∧ rg x8.2 → At E s9 29 [(0, .ref (G.2.2.1 0)), (2, .int (pI p2)), (3, .int (pI p3)), (4, .int (pI x8.1)), (5, .int (pI x8.2))] []) o (fun x8 s9 o r10 =>
z_iload X 4 dX12_isDry_29 rfl <|
z_aload_n X 0 dX12_isDry_31 rfl <|
z_getI X dX12_isDry_32 fl_X12_500 sm_0 rfl o fun v11 r12 o =>
z_icmp_ge (tgt := 91) X dX12_isDry_35 (by decide) r10.2 r12 o (fun o =>
z_iconst X dX12_isDry_91 <|
z_zret X Y dX12_isDry_92 (ok_ret (ok_some o)) kb_1 kb_1) fun o =>
z_aload_n X 0 dX12_isDry_38 rfl <|
z_getR (q := 38) X dX12_isDry_39 fl_X12_125 sm_0 rfl <|
z_iload X 3 dX12_isDry_42 rfl <|
z_iload_n X 2 dX12_isDry_44 rfl <|
z_irem X dX12_isDry_45 r10.1 hp3 o fun z13 o =>
z_aload_n X 0 dX12_isDry_46 rfl <|
z_getR (q := 38) X dX12_isDry_47 fl_X12_125 sm_0 rfl <|
z_iload X 3 dX12_isDry_50 rfl <|
z_iload_n X 2 dX12_isDry_52 rfl <|
z_irem X dX12_isDry_53 r10.1 hp3 o fun z14 o =>
z_iald X dX12_isDry_54 sm_38 (irm_rg hp3 z14) o fun v15 r16 o =>
z_aload_n X 0 dX12_isDry_55 rfl <|
z_getR (q := 36) X dX12_isDry_56 fl_X12_119 sm_0 rfl <|
z_iload X 4 dX12_isDry_59 rfl <|
z_iald X dX12_isDry_61 sm_36 r10.2 o fun v17 r18 o =>
z_iadd X dX12_isDry_62 <|
z_iast X dX12_isDry_63 sm_38 (irm_rg hp3 z13) (w32_rg _) o fun s19 o =>
z_aload_n X 0 dX12_isDry_64 rfl <|
z_getR (q := 38) X dX12_isDry_65 fl_X12_125 sm_0 rfl <|
z_iload X 3 dX12_isDry_68 rfl <|
z_iload_n X 2 dX12_isDry_70 rfl <|
z_irem X dX12_isDry_71 r10.1 hp3 o fun z20 o =>
z_iald X dX12_isDry_72 sm_38 (irm_rg hp3 z20) o fun v21 r22 o =>
z_iload_n X 1 dX12_isDry_73 rfl <|
z_icmp_le (tgt := 79) X dX12_isDry_74 (by decide) r22 hp2 o (fun o =>
z_iload X 3 dX12_isDry_79 rfl <|
z_iload_n X 2 dX12_isDry_81 rfl <|
z_idiv X dX12_isDry_82 r10.1 hp3 o fun z23 o =>
z_istoreL (L1 := fun v24 => [(4, .int (pI v24)), (0, .ref (G.2.2.1 0)), (2, .int (pI p2)), (3, .int (pI p3)), (5, .int (pI x8.2))]) (R := rg) X dX12_isDry_83 (by decide) (fun _ => rfl) o (w32_rg _) fun v24 r25 o =>
z_iinc (L1 := [(5, .int (pI (w32 (x8.2 + 1)))), (4, .int (pI v24)), (0, .ref (G.2.2.1 0)), (2, .int (pI p2)), (3, .int (pI p3))]) X 4 dX12_isDry_85 rfl (by decide) rfl <|
z_goto (tgt := 29) X dX12_isDry_88 (by decide) <|
z_sub (L1 := [(0, .ref (G.2.2.1 0)), (2, .int (pI p2)), (3, .int (pI p3)), (4, .int (pI v24)), (5, .int (pI (w32 (x8.2 + 1))))]) X [2, 3, 4, 1, 0] rfl <|
ok_some o ⟨r25, (w32_rg _)⟩) fun o =>
z_sub (L1 := []) X [] rfl <|
ok_some o trivial) ⟨hp1, kc_0⟩) fun o =>
z_sub (L1 := [(0, .ref (G.2.2.1 0)), (1, .int (pI p1)), (2, .int (pI p2)), (3, .int (pI p3)), (4, .int (pI 0))]) X [1, 2, 3, 4, 0] rfl <|
z_iter (fun (x1 : Int) s2 => rg x1 → At E s2 3 [(0, .ref (G.2.2.1 0)), (1, .int (pI p1)), (2, .int (pI p2)), (3, .int (pI p3)), (4, .int (pI x1))] []) o (fun x1 s2 o r3 =>
z_iload X 4 dX12_isDry_3 rfl <|
z_iconst X dX12_isDry_5 <|
z_icmp_ge (tgt := 23) X dX12_isDry_6 (by decide) r3 kc_4 o (fun o =>
z_sub (L1 := [(0, .ref (G.2.2.1 0)), (1, .int (pI p1)), (2, .int (pI p2)), (3, .int (pI p3))]) X [0, 1, 2, 3] rfl <|
ok_some o trivial) fun o =>
z_aload_n X 0 dX12_isDry_9 rfl <|
z_getR (q := 38) X dX12_isDry_10 fl_X12_125 sm_0 rfl <|
z_iload X 4 dX12_isDry_13 rfl <|
z_iconst X dX12_isDry_15 <|
z_iast X dX12_isDry_16 sm_38 r3 kc_0 o fun s4 o =>
z_iinc (L1 := [(4, .int (pI (w32 (x1 + 1)))), (0, .ref (G.2.2.1 0)), (1, .int (pI p1)), (2, .int (pI p2)), (3, .int (pI p3))]) X 4 dX12_isDry_17 rfl (by decide) rfl <|
z_goto (tgt := 3) X dX12_isDry_20 (by decide) <|
z_sub (L1 := [(0, .ref (G.2.2.1 0)), (1, .int (pI p1)), (2, .int (pI p2)), (3, .int (pI p3)), (4, .int (pI (w32 (x1 + 1))))]) X [1, 2, 3, 4, 0] rfl <|
ok_some o (w32_rg _)) kc_0 : At E s0 0 [(0, .ref (G.2.2.1 0)), (1, .int (pI p1)), (2, .int (pI p2)), (3, .int (pI p3))] [])
set_option maxHeartbeats 4000000 in
set_option maxRecDepth 100000 in
theorem ct_X12_isLetter (p1 : Int) (hp1 : rg p1) (G : Gw) (s0 : St) (r : Int) (σ1 : St) (e : fX12_isLetter p1 s0 = some (r, σ1)) : Ct yX12_isLetter cX12_isLetter 2 (some .boolean) 1 23 SM G [.ref (G.2.2.1 0), .int (pI p1)] s0 (QI SM G r r01 σ1) :=
  Ct.of (by decide +kernel) (Nat.le_of_ble_eq_true rfl) fun E X Y => by
    have o : Ok (fX12_isLetter p1 s0) (fun x σ' => x = r ∧ σ' = σ1) := ⟨r, σ1, e, rfl, rfl⟩
    unfold fX12_isLetter at o
    exact (
z_aload_n X 0 dX12_isLetter_0 rfl <|
z_iload_n X 1 dX12_isLetter_1 rfl <|
z_bipush X dX12_isLetter_2 bi_97 <|
z_bipush X dX12_isLetter_4 bi_122 <|
z_callvI X dX12_isLetter_6 q_1822 wX12_isIn sm_0 rfl (by decide) [.int (pI p1), .int (pI 97), .int (pI 122)] [] rfl rfl (Nat.le_of_ble_eq_true rfl) (fun r σ1 e => ct_X12_isIn p1 97 122 hp1 kc_97 kc_122 G _ r σ1 e) o fun r1 s2 h3 o =>
z_if_ne (tgt := 24) X dX12_isLetter_9 (by decide) (r01_rg h3) o (fun o =>
z_iconst X dX12_isLetter_24 <|
z_goto (tgt := 29) X dX12_isLetter_25 (by decide) <|
z_zret X Y dX12_isLetter_29 o kb_1 kb_1) fun o =>
z_aload_n X 0 dX12_isLetter_12 rfl <|
z_iload_n X 1 dX12_isLetter_13 rfl <|
z_bipush X dX12_isLetter_14 bi_65 <|
z_bipush X dX12_isLetter_16 bi_90 <|
z_callvI X dX12_isLetter_18 q_1822 wX12_isIn sm_0 rfl (by decide) [.int (pI p1), .int (pI 65), .int (pI 90)] [] rfl rfl (Nat.le_of_ble_eq_true rfl) (fun r σ1 e => ct_X12_isIn p1 65 90 hp1 kc_65 kc_90 G _ r σ1 e) o fun r4 s5 h6 o =>
z_if_eq (tgt := 28) X dX12_isLetter_21 (by decide) (r01_rg h6) o (fun o =>
z_iconst X dX12_isLetter_28 <|
z_zret X Y dX12_isLetter_29 o kb_0 kb_0) fun o =>
z_iconst X dX12_isLetter_24 <|
z_goto (tgt := 29) X dX12_isLetter_25 (by decide) <|
z_zret X Y dX12_isLetter_29 o kb_1 kb_1 : At E s0 0 [(0, .ref (G.2.2.1 0)), (1, .int (pI p1))] [])
set_option maxHeartbeats 4000000 in
set_option maxRecDepth 100000 in
theorem ct_X12_isLineWord   (G : Gw) (s0 : St) (r : Int) (σ1 : St) (e : fX12_isLineWord s0 = some (r, σ1)) : Ct yX12_isLineWord cX12_isLineWord 1 (some .boolean) 1 23 SM G [.ref (G.2.2.1 0)] s0 (QI SM G r r01 σ1) :=
  Ct.of (by decide +kernel) (Nat.le_of_ble_eq_true rfl) fun E X Y => by
    have o : Ok (fX12_isLineWord s0) (fun x σ' => x = r ∧ σ' = σ1) := ⟨r, σ1, e, rfl, rfl⟩
    unfold fX12_isLineWord at o
    exact (
z_aload_n X 0 dX12_isLineWord_0 rfl <|
z_getI X dX12_isLineWord_1 fl_X12_236 sm_0 rfl o fun v1 r2 o =>
z_iconst X dX12_isLineWord_4 <|
z_icmp_ne (tgt := 25) X dX12_isLineWord_5 (by decide) r2 kc_2 o (fun o =>
z_iconst X dX12_isLineWord_25 <|
z_zret X Y dX12_isLineWord_26 o kb_0 kb_0) fun o =>
z_aload_n X 0 dX12_isLineWord_8 rfl <|
z_aload_n X 0 dX12_isLineWord_9 rfl <|
z_getI X dX12_isLineWord_10 fl_X12_239 sm_0 rfl o fun v3 r4 o =>
z_iconst X dX12_isLineWord_13 <|
z_iconst X dX12_isLineWord_14 <|
z_callvI X dX12_isLineWord_15 q_1822 wX12_isIn sm_0 rfl (by decide) [.int (pI v3), .int (pI 0), .int (pI 2)] [] rfl rfl (Nat.le_of_ble_eq_true rfl) (fun r σ1 e => ct_X12_isIn v3 0 2 r4 kc_0 kc_2 G _ r σ1 e) o fun r5 s6 h7 o =>
z_if_eq (tgt := 25) X dX12_isLineWord_18 (by decide) (r01_rg h7) o (fun o =>
z_iconst X dX12_isLineWord_25 <|
z_zret X Y dX12_isLineWord_26 o kb_0 kb_0) fun o =>
z_iconst X dX12_isLineWord_21 <|
z_goto (tgt := 26) X dX12_isLineWord_22 (by decide) <|
z_zret X Y dX12_isLineWord_26 o kb_1 kb_1 : At E s0 0 [(0, .ref (G.2.2.1 0))] [])
set_option maxHeartbeats 4000000 in
set_option maxRecDepth 100000 in
theorem ct_X12_isMarkSign (p1 : Int) (hp1 : rg p1) (G : Gw) (s0 : St) (r : Int) (σ1 : St) (e : fX12_isMarkSign p1 s0 = some (r, σ1)) : Ct yX12_isMarkSign cX12_isMarkSign 2 (some .boolean) 0 0 SM G [.ref (G.2.2.1 0), .int (pI p1)] s0 (QI SM G r r01 σ1) :=
  Ct.of (by decide +kernel) (Nat.le_of_ble_eq_true rfl) fun E X Y => by
    have o : Ok (fX12_isMarkSign p1 s0) (fun x σ' => x = r ∧ σ' = σ1) := ⟨r, σ1, e, rfl, rfl⟩
    unfold fX12_isMarkSign at o
    exact (
z_iload_n X 1 dX12_isMarkSign_0 rfl <|
z_bipush X dX12_isMarkSign_1 bi_59 <|
z_icmp_eq (tgt := 60) X dX12_isMarkSign_3 (by decide) hp1 kc_59 o (fun o =>
z_iconst X dX12_isMarkSign_60 <|
z_goto (tgt := 65) X dX12_isMarkSign_61 (by decide) <|
z_zret X Y dX12_isMarkSign_65 o kb_1 kb_1) fun o =>
z_iload_n X 1 dX12_isMarkSign_6 rfl <|
z_bipush X dX12_isMarkSign_7 bi_43 <|
z_icmp_eq (tgt := 60) X dX12_isMarkSign_9 (by decide) hp1 kc_43 o (fun o =>
z_iconst X dX12_isMarkSign_60 <|
z_goto (tgt := 65) X dX12_isMarkSign_61 (by decide) <|
z_zret X Y dX12_isMarkSign_65 o kb_1 kb_1) fun o =>
z_iload_n X 1 dX12_isMarkSign_12 rfl <|
z_bipush X dX12_isMarkSign_13 bi_45 <|
z_icmp_eq (tgt := 60) X dX12_isMarkSign_15 (by decide) hp1 kc_45 o (fun o =>
z_iconst X dX12_isMarkSign_60 <|
z_goto (tgt := 65) X dX12_isMarkSign_61 (by decide) <|
z_zret X Y dX12_isMarkSign_65 o kb_1 kb_1) fun o =>
z_iload_n X 1 dX12_isMarkSign_18 rfl <|
z_bipush X dX12_isMarkSign_19 bi_42 <|
z_icmp_eq (tgt := 60) X dX12_isMarkSign_21 (by decide) hp1 kc_42 o (fun o =>
z_iconst X dX12_isMarkSign_60 <|
z_goto (tgt := 65) X dX12_isMarkSign_61 (by decide) <|
z_zret X Y dX12_isMarkSign_65 o kb_1 kb_1) fun o =>
z_iload_n X 1 dX12_isMarkSign_24 rfl <|
z_bipush X dX12_isMarkSign_25 bi_47 <|
z_icmp_eq (tgt := 60) X dX12_isMarkSign_27 (by decide) hp1 kc_47 o (fun o =>
z_iconst X dX12_isMarkSign_60 <|
z_goto (tgt := 65) X dX12_isMarkSign_61 (by decide) <|
z_zret X Y dX12_isMarkSign_65 o kb_1 kb_1) fun o =>
z_iload_n X 1 dX12_isMarkSign_30 rfl <|
z_bipush X dX12_isMarkSign_31 bi_40 <|
z_icmp_eq (tgt := 60) X dX12_isMarkSign_33 (by decide) hp1 kc_40 o (fun o =>
z_iconst X dX12_isMarkSign_60 <|
z_goto (tgt := 65) X dX12_isMarkSign_61 (by decide) <|
z_zret X Y dX12_isMarkSign_65 o kb_1 kb_1) fun o =>
z_iload_n X 1 dX12_isMarkSign_36 rfl <|
z_bipush X dX12_isMarkSign_37 bi_41 <|
z_icmp_eq (tgt := 60) X dX12_isMarkSign_39 (by decide) hp1 kc_41 o (fun o =>
z_iconst X dX12_isMarkSign_60 <|
z_goto (tgt := 65) X dX12_isMarkSign_61 (by decide) <|
z_zret X Y dX12_isMarkSign_65 o kb_1 kb_1) fun o =>
z_iload_n X 1 dX12_isMarkSign_42 rfl <|
z_bipush X dX12_isMarkSign_43 bi_60 <|
z_icmp_eq (tgt := 60) X dX12_isMarkSign_45 (by decide) hp1 kc_60 o (fun o =>
z_iconst X dX12_isMarkSign_60 <|
z_goto (tgt := 65) X dX12_isMarkSign_61 (by decide) <|
z_zret X Y dX12_isMarkSign_65 o kb_1 kb_1) fun o =>
z_iload_n X 1 dX12_isMarkSign_48 rfl <|
z_bipush X dX12_isMarkSign_49 bi_61 <|
z_icmp_eq (tgt := 60) X dX12_isMarkSign_51 (by decide) hp1 kc_61 o (fun o =>
z_iconst X dX12_isMarkSign_60 <|
z_goto (tgt := 65) X dX12_isMarkSign_61 (by decide) <|
z_zret X Y dX12_isMarkSign_65 o kb_1 kb_1) fun o =>
z_iload_n X 1 dX12_isMarkSign_54 rfl <|
z_bipush X dX12_isMarkSign_55 bi_62 <|
z_icmp_ne (tgt := 64) X dX12_isMarkSign_57 (by decide) hp1 kc_62 o (fun o =>
z_iconst X dX12_isMarkSign_64 <|
z_zret X Y dX12_isMarkSign_65 o kb_0 kb_0) fun o =>
z_iconst X dX12_isMarkSign_60 <|
z_goto (tgt := 65) X dX12_isMarkSign_61 (by decide) <|
z_zret X Y dX12_isMarkSign_65 o kb_1 kb_1 : At E s0 0 [(0, .ref (G.2.2.1 0)), (1, .int (pI p1))] [])
set_option maxHeartbeats 4000000 in
set_option maxRecDepth 100000 in
theorem ct_X12_isSettled   (G : Gw) (s0 : St) (r : Int) (σ1 : St) (e : fX12_isSettled s0 = some (r, σ1)) : Ct yX12_isSettled cX12_isSettled 4 (some .boolean) 0 0 SM G [.ref (G.2.2.1 0)] s0 (QI SM G r r01 σ1) :=
  Ct.of (by decide +kernel) (Nat.le_of_ble_eq_true rfl) fun E X Y => by
    have o : Ok (fX12_isSettled s0) (fun x σ' => x = r ∧ σ' = σ1) := ⟨r, σ1, e, rfl, rfl⟩
    unfold fX12_isSettled at o
    exact (
z_iconst X dX12_isSettled_0 <|
z_istore_n (L1 := [(1, .int (pI 0)), (0, .ref (G.2.2.1 0))]) X dX12_isSettled_1 rfl (by decide) rfl <|
z_joix o (fun (y22 : Unit) s23 => True → At E s23 76 [] []) (fun y22 s23 o r24 =>
z_iconst X dX12_isSettled_76 <|
z_zret X Y dX12_isSettled_77 o kb_0 kb_0) fun o =>
z_sub (L1 := [(0, .ref (G.2.2.1 0)), (1, .int (pI 0))]) X [1, 0] rfl <|
z_iter (fun (x1 : Int) s2 => rg x1 → At E s2 2 [(0, .ref (G.2.2.1 0)), (1, .int (pI x1))] []) o (fun x1 s2 o r3 =>
z_iload_n X 1 dX12_isSettled_2 rfl <|
z_iconst X dX12_isSettled_3 <|
z_icmp_ge (tgt := 90) X dX12_isSettled_4 (by decide) r3 kc_5 o (fun o =>
z_iconst X dX12_isSettled_90 <|
z_zret X Y dX12_isSettled_91 (ok_ret (ok_some o)) kb_1 kb_1) fun o =>
z_iconst X dX12_isSettled_7 <|
z_istore_n (L1 := [(2, .int (pI 0)), (0, .ref (G.2.2.1 0)), (1, .int (pI x1))]) X dX12_isSettled_8 rfl (by decide) rfl <|
z_joix o (fun (y19 : Unit) s20 => True → At E s20 84 [(0, .ref (G.2.2.1 0)), (1, .int (pI x1))] []) (fun y19 s20 o r21 =>
z_iinc (L1 := [(1, .int (pI (w32 (x1 + 1)))), (0, .ref (G.2.2.1 0))]) X 1 dX12_isSettled_84 rfl (by decide) rfl <|
z_goto (tgt := 2) X dX12_isSettled_87 (by decide) <|
z_sub (L1 := [(0, .ref (G.2.2.1 0)), (1, .int (pI (w32 (x1 + 1))))]) X [1, 0] rfl <|
ok_some o (w32_rg _)) fun o =>
z_sub (L1 := [(0, .ref (G.2.2.1 0)), (1, .int (pI x1)), (2, .int (pI 0))]) X [1, 2, 0] rfl <|
z_iter (fun (x4 : Int) s5 => rg x4 → At E s5 9 [(0, .ref (G.2.2.1 0)), (1, .int (pI x1)), (2, .int (pI x4))] []) o (fun x4 s5 o r6 =>
z_iload_n X 2 dX12_isSettled_9 rfl <|
z_iconst X dX12_isSettled_10 <|
z_icmp_ge (tgt := 84) X dX12_isSettled_11 (by decide) r6 kc_5 o (fun o =>
z_sub (L1 := [(0, .ref (G.2.2.1 0)), (1, .int (pI x1))]) X [0, 1] rfl <|
ok_some o trivial) fun o =>
z_aload_n X 0 dX12_isSettled_14 rfl <|
z_getR (q := 28) X dX12_isSettled_15 fl_X12_95 sm_0 rfl <|
z_iload_n X 2 dX12_isSettled_18 rfl <|
z_iald X dX12_isSettled_19 sm_28 r6 o fun v7 r8 o =>
z_istore_n (L1 := [(3, .int (pI v7)), (0, .ref (G.2.2.1 0)), (1, .int (pI x1)), (2, .int (pI x4))]) X dX12_isSettled_20 rfl (by decide) rfl <|
z_aload_n X 1 dX12_isSettled_21 rfl <|
z_getR (q := 24) X dX12_isSettled_22 fl_X12_83 sm_0 rfl <|
z_iconst X dX12_isSettled_25 <|
z_iload_n X 2 dX12_isSettled_26 rfl <|
z_imul X dX12_isSettled_27 <|
z_iload_n X 0 dX12_isSettled_28 rfl <|
z_iadd X dX12_isSettled_29 <|
z_iald X dX12_isSettled_30 sm_24 (w32_rg _) o fun v9 r10 o =>
z_aload_n X 1 dX12_isSettled_31 rfl <|
z_getR (q := 24) X dX12_isSettled_32 fl_X12_83 sm_0 rfl <|
z_iconst X dX12_isSettled_35 <|
z_iload_n X 2 dX12_isSettled_36 rfl <|
z_imul X dX12_isSettled_37 <|
z_aload_n X 1 dX12_isSettled_38 rfl <|
z_getR (q := 28) X dX12_isSettled_39 fl_X12_95 sm_0 rfl <|
z_iload_n X 2 dX12_isSettled_42 rfl <|
z_iald X dX12_isSettled_43 sm_28 r3 o fun v11 r12 o =>
z_iadd X dX12_isSettled_44 <|
z_iald X dX12_isSettled_45 sm_24 (w32_rg _) o fun v13 r14 o =>
z_icmp_ge (tgt := 78) X dX12_isSettled_46 (by decide) r10 r14 o (fun o =>
z_iinc (L1 := [(2, .int (pI (w32 (x4 + 1)))), (3, .int (pI v7)), (0, .ref (G.2.2.1 0)), (1, .int (pI x1))]) X 3 dX12_isSettled_78 rfl (by decide) rfl <|
z_goto (tgt := 9) X dX12_isSettled_81 (by decide) <|
z_sub (L1 := [(0, .ref (G.2.2.1 0)), (1, .int (pI x1)), (2, .int (pI (w32 (x4 + 1))))]) X [2, 3, 0] rfl <|
ok_some o (w32_rg _)) fun o =>
z_aload_n X 1 dX12_isSettled_49 rfl <|
z_getR (q := 24) X dX12_isSettled_50 fl_X12_83 sm_0 rfl <|
z_iconst X dX12_isSettled_53 <|
z_iconst X dX12_isSettled_54 <|
z_iload_n X 0 dX12_isSettled_55 rfl <|
z_iadd X dX12_isSettled_56 <|
z_imul X dX12_isSettled_57 <|
z_iload_n X 2 dX12_isSettled_58 rfl <|
z_iadd X dX12_isSettled_59 <|
z_iald X dX12_isSettled_60 sm_24 (w32_rg _) o fun v15 r16 o =>
z_aload_n X 1 dX12_isSettled_61 rfl <|
z_getR (q := 24) X dX12_isSettled_62 fl_X12_83 sm_0 rfl <|
z_iconst X dX12_isSettled_65 <|
z_iconst X dX12_isSettled_66 <|
z_iload_n X 0 dX12_isSettled_67 rfl <|
z_iadd X dX12_isSettled_68 <|
z_imul X dX12_isSettled_69 <|
z_iload_n X 3 dX12_isSettled_70 rfl <|
z_iadd X dX12_isSettled_71 <|
z_iald X dX12_isSettled_72 sm_24 (w32_rg _) o fun v17 r18 o =>
z_icmp_ge (tgt := 78) X dX12_isSettled_73 (by decide) r16 r18 o (fun o =>
z_iinc (L1 := [(2, .int (pI (w32 (x4 + 1)))), (3, .int (pI v7)), (0, .ref (G.2.2.1 0)), (1, .int (pI x1))]) X 3 dX12_isSettled_78 rfl (by decide) rfl <|
z_goto (tgt := 9) X dX12_isSettled_81 (by decide) <|
z_sub (L1 := [(0, .ref (G.2.2.1 0)), (1, .int (pI x1)), (2, .int (pI (w32 (x4 + 1))))]) X [2, 3, 0] rfl <|
ok_some o (w32_rg _)) fun o =>
z_sub (L1 := []) X [] rfl <|
ok_some o trivial) kc_0) kc_0 : At E s0 0 [(0, .ref (G.2.2.1 0))] [])
set_option maxHeartbeats 4000000 in
set_option maxRecDepth 100000 in
theorem ct_X12_isSign (p1 : Int) (hp1 : rg p1) (G : Gw) (s0 : St) (r : Int) (σ1 : St) (e : fX12_isSign p1 s0 = some (r, σ1)) : Ct yX12_isSign cX12_isSign 2 (some .boolean) 0 0 SM G [.ref (G.2.2.1 0), .int (pI p1)] s0 (QI SM G r r01 σ1) :=
  Ct.of (by decide +kernel) (Nat.le_of_ble_eq_true rfl) fun E X Y => by
    have o : Ok (fX12_isSign p1 s0) (fun x σ' => x = r ∧ σ' = σ1) := ⟨r, σ1, e, rfl, rfl⟩
    unfold fX12_isSign at o
    exact (
z_aload_n X 0 dX12_isSign_0 rfl <|
z_getI X dX12_isSign_1 fl_X12_236 sm_0 rfl o fun v1 r2 o =>
z_iconst X dX12_isSign_4 <|
z_icmp_ne (tgt := 20) X dX12_isSign_5 (by decide) r2 kc_4 o (fun o =>
z_iconst X dX12_isSign_20 <|
z_zret X Y dX12_isSign_21 o kb_0 kb_0) fun o =>
z_aload_n X 0 dX12_isSign_8 rfl <|
z_getI X dX12_isSign_9 fl_X12_239 sm_0 rfl o fun v3 r4 o =>
z_iload_n X 1 dX12_isSign_12 rfl <|
z_icmp_ne (tgt := 20) X dX12_isSign_13 (by decide) r4 hp1 o (fun o =>
z_iconst X dX12_isSign_20 <|
z_zret X Y dX12_isSign_21 o kb_0 kb_0) fun o =>
z_iconst X dX12_isSign_16 <|
z_goto (tgt := 21) X dX12_isSign_17 (by decide) <|
z_zret X Y dX12_isSign_21 o kb_1 kb_1 : At E s0 0 [(0, .ref (G.2.2.1 0)), (1, .int (pI p1))] [])
set_option maxHeartbeats 4000000 in
set_option maxRecDepth 100000 in
theorem ct_X12_isWord (p1 : Int) (hp1 : rg p1) (G : Gw) (s0 : St) (r : Int) (σ1 : St) (e : fX12_isWord p1 s0 = some (r, σ1)) : Ct yX12_isWord cX12_isWord 2 (some .boolean) 0 0 SM G [.ref (G.2.2.1 0), .int (pI p1)] s0 (QI SM G r r01 σ1) :=
  Ct.of (by decide +kernel) (Nat.le_of_ble_eq_true rfl) fun E X Y => by
    have o : Ok (fX12_isWord p1 s0) (fun x σ' => x = r ∧ σ' = σ1) := ⟨r, σ1, e, rfl, rfl⟩
    unfold fX12_isWord at o
    exact (
z_aload_n X 0 dX12_isWord_0 rfl <|
z_getI X dX12_isWord_1 fl_X12_236 sm_0 rfl o fun v1 r2 o =>
z_iconst X dX12_isWord_4 <|
z_icmp_ne (tgt := 20) X dX12_isWord_5 (by decide) r2 kc_2 o (fun o =>
z_iconst X dX12_isWord_20 <|
z_zret X Y dX12_isWord_21 o kb_0 kb_0) fun o =>
z_aload_n X 0 dX12_isWord_8 rfl <|
z_getI X dX12_isWord_9 fl_X12_239 sm_0 rfl o fun v3 r4 o =>
z_iload_n X 1 dX12_isWord_12 rfl <|
z_icmp_ne (tgt := 20) X dX12_isWord_13 (by decide) r4 hp1 o (fun o =>
z_iconst X dX12_isWord_20 <|
z_zret X Y dX12_isWord_21 o kb_0 kb_0) fun o =>
z_iconst X dX12_isWord_16 <|
z_goto (tgt := 21) X dX12_isWord_17 (by decide) <|
z_zret X Y dX12_isWord_21 o kb_1 kb_1 : At E s0 0 [(0, .ref (G.2.2.1 0)), (1, .int (pI p1))] [])
set_option maxHeartbeats 4000000 in
set_option maxRecDepth 100000 in
theorem ct_X12_takesCans (p1 : Int) (hp1 : rg p1) (G : Gw) (s0 : St) (r : Int) (σ1 : St) (e : fX12_takesCans p1 s0 = some (r, σ1)) : Ct yX12_takesCans cX12_takesCans 2 none 0 0 SM G [.ref (G.2.2.1 0), .int (pI p1)] s0 (QV SM G σ1) :=
  Ct.of (by decide +kernel) (Nat.le_of_ble_eq_true rfl) fun E X Y => by
    have o : Ok (fX12_takesCans p1 s0) (fun x σ' => x = r ∧ σ' = σ1) := ⟨r, σ1, e, rfl, rfl⟩
    unfold fX12_takesCans at o
    exact (
z_aload_n X 0 dX12_takesCans_0 rfl <|
z_getR (q := 50) X dX12_takesCans_1 fl_X12_161 sm_0 rfl <|
z_iconst X dX12_takesCans_4 <|
z_iload_n X 1 dX12_takesCans_5 rfl <|
z_sipush X dX12_takesCans_6 si_169 <|
z_idiv X dX12_takesCans_9 hp1 kc_169 o fun z1 o =>
z_iast X dX12_takesCans_10 sm_50 kc_0 (w32_rg _) o fun s2 o =>
z_aload_n X 0 dX12_takesCans_11 rfl <|
z_getR (q := 50) X dX12_takesCans_12 fl_X12_161 sm_0 rfl <|
z_iconst X dX12_takesCans_15 <|
z_iload_n X 1 dX12_takesCans_16 rfl <|
z_bipush X dX12_takesCans_17 bi_13 <|
z_idiv X dX12_takesCans_19 hp1 kc_13 o fun z3 o =>
z_bipush X dX12_takesCans_20 bi_13 <|
z_irem X dX12_takesCans_22 (w32_rg _) kc_13 o fun z4 o =>
z_iast X dX12_takesCans_23 sm_50 kc_1 (irm_rg kc_13 z4) o fun s5 o =>
z_aload_n X 0 dX12_takesCans_24 rfl <|
z_getR (q := 50) X dX12_takesCans_25 fl_X12_161 sm_0 rfl <|
z_iconst X dX12_takesCans_28 <|
z_iload_n X 1 dX12_takesCans_29 rfl <|
z_bipush X dX12_takesCans_30 bi_13 <|
z_irem X dX12_takesCans_32 hp1 kc_13 o fun z6 o =>
z_iast X dX12_takesCans_33 sm_50 kc_2 (irm_rg kc_13 z6) o fun s7 o =>
z_vret (v := 0) X Y dX12_takesCans_34 o : At E s0 0 [(0, .ref (G.2.2.1 0)), (1, .int (pI p1))] [])
set_option maxHeartbeats 4000000 in
set_option maxRecDepth 100000 in
theorem ct_X12_poured (p1 : Int) (p2 : Int) (p3 : Int) (hp1 : rg p1) (hp2 : rg p2) (hp3 : rg p3) (G : Gw) (s0 : St) (r : Int) (σ1 : St) (e : fX12_poured p1 p2 p3 s0 = some (r, σ1)) : Ct yX12_poured cX12_poured 5 (some .int) 1 22 SM G [.ref (G.2.2.1 0), .int (pI p1), .int (pI p2), .int (pI p3)] s0 (QI SM G r rg σ1) :=
  Ct.of (by decide +kernel) (Nat.le_of_ble_eq_true rfl) fun E X Y => by
    have o : Ok (fX12_poured p1 p2 p3 s0) (fun x σ' => x = r ∧ σ' = σ1) := ⟨r, σ1, e, rfl, rfl⟩
    unfold fX12_poured at o
    exact (
z_aload_n X 0 dX12_poured_0 rfl <|
z_iload_n X 1 dX12_poured_1 rfl <|
z_callvV X dX12_poured_2 q_2323 wX12_takesCans sm_0 rfl (by decide) [.int (pI p1)] [] rfl rfl (Nat.le_of_ble_eq_true rfl) (fun r σ1 e => ct_X12_takesCans p1 hp1 G _ r σ1 e) o fun r1 s2 o =>
z_aload_n X 0 dX12_poured_5 rfl <|
z_aload_n X 0 dX12_poured_6 rfl <|
z_getR (q := 50) X dX12_poured_7 fl_X12_161 sm_0 rfl <|
z_iload_n X 2 dX12_poured_10 rfl <|
z_iald X dX12_poured_11 sm_50 hp2 o fun v4 r5 o =>
z_aload_n X 0 dX12_poured_12 rfl <|
z_getR (q := 51) X dX12_poured_13 fl_X12_164 sm_0 rfl <|
z_iload_n X 3 dX12_poured_16 rfl <|
z_iald X dX12_poured_17 sm_51 hp3 o fun v6 r7 o =>
z_aload_n X 0 dX12_poured_18 rfl <|
z_getR (q := 50) X dX12_poured_19 fl_X12_161 sm_0 rfl <|
z_iload_n X 3 dX12_poured_22 rfl <|
z_iald X dX12_poured_23 sm_50 hp3 o fun v8 r9 o =>
z_isub X dX12_poured_24 <|
z_callvI X dX12_poured_25 q_2120 wX12_lesser sm_0 rfl (by decide) [.int (pI v4), .int (pI (w32 (v6 - v8)))] [] rfl rfl (Nat.le_of_ble_eq_true rfl) (fun r σ1 e => ct_X12_lesser v4 (w32 (v6 - v8)) r5 (w32_rg _) G _ r σ1 e) o fun r10 s11 h12 o =>
z_istore (L1 := [(4, .int (pI r10)), (0, .ref (G.2.2.1 0)), (1, .int (pI p1)), (2, .int (pI p2)), (3, .int (pI p3))]) X dX12_poured_28 (by decide) rfl <|
z_aload_n X 1 dX12_poured_30 rfl <|
z_getR (q := 50) X dX12_poured_31 fl_X12_161 sm_0 rfl <|
z_iload_n X 3 dX12_poured_34 rfl <|
z_aload_n X 1 dX12_poured_35 rfl <|
z_getR (q := 50) X dX12_poured_36 fl_X12_161 sm_0 rfl <|
z_iload_n X 3 dX12_poured_39 rfl <|
z_iald X dX12_poured_40 sm_50 hp2 o fun v13 r14 o =>
z_iload X 0 dX12_poured_41 rfl <|
z_isub X dX12_poured_43 <|
z_iast X dX12_poured_44 sm_50 hp2 (w32_rg _) o fun s15 o =>
z_aload_n X 1 dX12_poured_45 rfl <|
z_getR (q := 50) X dX12_poured_46 fl_X12_161 sm_0 rfl <|
z_iload_n X 4 dX12_poured_49 rfl <|
z_aload_n X 1 dX12_poured_50 rfl <|
z_getR (q := 50) X dX12_poured_51 fl_X12_161 sm_0 rfl <|
z_iload_n X 4 dX12_poured_54 rfl <|
z_iald X dX12_poured_55 sm_50 hp3 o fun v16 r17 o =>
z_iload X 0 dX12_poured_56 rfl <|
z_iadd X dX12_poured_58 <|
z_iast X dX12_poured_59 sm_50 hp3 (w32_rg _) o fun s18 o =>
z_sipush X dX12_poured_60 si_169 <|
z_aload_n X 1 dX12_poured_63 rfl <|
z_getR (q := 50) X dX12_poured_64 fl_X12_161 sm_0 rfl <|
z_iconst X dX12_poured_67 <|
z_iald X dX12_poured_68 sm_50 kc_0 o fun v19 r20 o =>
z_imul X dX12_poured_69 <|
z_bipush X dX12_poured_70 bi_13 <|
z_aload_n X 1 dX12_poured_72 rfl <|
z_getR (q := 50) X dX12_poured_73 fl_X12_161 sm_0 rfl <|
z_iconst X dX12_poured_76 <|
z_iald X dX12_poured_77 sm_50 kc_1 o fun v21 r22 o =>
z_imul X dX12_poured_78 <|
z_iadd X dX12_poured_79 <|
z_aload_n X 1 dX12_poured_80 rfl <|
z_getR (q := 50) X dX12_poured_81 fl_X12_161 sm_0 rfl <|
z_iconst X dX12_poured_84 <|
z_iald X dX12_poured_85 sm_50 kc_2 o fun v23 r24 o =>
z_iadd X dX12_poured_86 <|
z_iret X Y dX12_poured_87 o (w32_rg _) : At E s0 0 [(0, .ref (G.2.2.1 0)), (1, .int (pI p1)), (2, .int (pI p2)), (3, .int (pI p3))] [])
set_option maxHeartbeats 4000000 in
set_option maxRecDepth 100000 in
theorem ct_X12_lamps (p1 : Int) (p2 : Int) (p3 : Int) (p4 : Int) (hp1 : rg p1) (hp2 : rg p2) (hp3 : rg p3) (hp4 : rg p4) (G : Gw) (s0 : St) (r : Int) (σ1 : St) (e : fX12_lamps p1 p2 p3 p4 s0 = some (r, σ1)) : Ct yX12_lamps cX12_lamps 10 (some .int) 2 46 SM G [.ref (G.2.2.1 0), .int (pI p1), .int (pI p2), .int (pI p3), .int (pI p4)] s0 (QI SM G r rg σ1) :=
  Ct.of (by decide +kernel) (Nat.le_of_ble_eq_true rfl) fun E X Y => by
    have o : Ok (fX12_lamps p1 p2 p3 p4 s0) (fun x σ' => x = r ∧ σ' = σ1) := ⟨r, σ1, e, rfl, rfl⟩
    unfold fX12_lamps at o
    exact (
z_aload_n X 0 dX12_lamps_0 rfl <|
z_iconst X dX12_lamps_1 <|
z_putI X dX12_lamps_2 fl_X12_183 sm_0 ft_X12_0 rfl kc_0 o fun s1 o =>
z_aload_n X 0 dX12_lamps_5 rfl <|
z_iload_n X 1 dX12_lamps_6 rfl <|
z_iconst X dX12_lamps_7 <|
z_bipush X dX12_lamps_8 bi_12 <|
z_callvI X dX12_lamps_10 q_1822 wX12_isIn sm_0 rfl (by decide) [.int (pI p1), .int (pI 1), .int (pI 12)] [] rfl rfl (Nat.le_of_ble_eq_true rfl) (fun r σ1 e => ct_X12_isIn p1 1 12 hp1 kc_1 kc_12 G _ r σ1 e) o fun r2 s3 h4 o =>
z_if_eq (tgt := 50) X dX12_lamps_13 (by decide) (r01_rg h4) o (fun o =>
z_iconst X dX12_lamps_50 <|
z_iret X Y dX12_lamps_51 o kc_m1) fun o =>
z_aload_n X 0 dX12_lamps_16 rfl <|
z_iload_n X 2 dX12_lamps_17 rfl <|
z_iconst X dX12_lamps_18 <|
z_bipush X dX12_lamps_19 bi_12 <|
z_callvI X dX12_lamps_21 q_1822 wX12_isIn sm_0 rfl (by decide) [.int (pI p2), .int (pI 1), .int (pI 12)] [] rfl rfl (Nat.le_of_ble_eq_true rfl) (fun r σ1 e => ct_X12_isIn p2 1 12 hp2 kc_1 kc_12 G _ r σ1 e) o fun r5 s6 h7 o =>
z_if_eq (tgt := 50) X dX12_lamps_24 (by decide) (r01_rg h7) o (fun o =>
z_iconst X dX12_lamps_50 <|
z_iret X Y dX12_lamps_51 o kc_m1) fun o =>
z_aload_n X 0 dX12_lamps_27 rfl <|
z_iload_n X 3 dX12_lamps_28 rfl <|
z_iconst X dX12_lamps_29 <|
z_bipush X dX12_lamps_30 bi_12 <|
z_callvI X dX12_lamps_32 q_1822 wX12_isIn sm_0 rfl (by decide) [.int (pI p3), .int (pI 1), .int (pI 12)] [] rfl rfl (Nat.le_of_ble_eq_true rfl) (fun r σ1 e => ct_X12_isIn p3 1 12 hp3 kc_1 kc_12 G _ r σ1 e) o fun r8 s9 h10 o =>
z_if_eq (tgt := 50) X dX12_lamps_35 (by decide) (r01_rg h10) o (fun o =>
z_iconst X dX12_lamps_50 <|
z_iret X Y dX12_lamps_51 o kc_m1) fun o =>
z_aload_n X 0 dX12_lamps_38 rfl <|
z_iload X 4 dX12_lamps_39 rfl <|
z_iconst X dX12_lamps_41 <|
z_bipush X dX12_lamps_42 bi_12 <|
z_callvI X dX12_lamps_44 q_1822 wX12_isIn sm_0 rfl (by decide) [.int (pI p4), .int (pI 0), .int (pI 12)] [] rfl rfl (Nat.le_of_ble_eq_true rfl) (fun r σ1 e => ct_X12_isIn p4 0 12 hp4 kc_0 kc_12 G _ r σ1 e) o fun r11 s12 h13 o =>
z_if_ne (tgt := 52) X dX12_lamps_47 (by decide) (r01_rg h13) o (fun o =>
z_aload_n X 0 dX12_lamps_52 rfl <|
z_getR (q := 51) X dX12_lamps_53 fl_X12_164 sm_0 rfl <|
z_iconst X dX12_lamps_56 <|
z_iload_n X 1 dX12_lamps_57 rfl <|
z_iast X dX12_lamps_58 sm_51 kc_0 hp1 o fun s14 o =>
z_aload_n X 0 dX12_lamps_59 rfl <|
z_getR (q := 51) X dX12_lamps_60 fl_X12_164 sm_0 rfl <|
z_iconst X dX12_lamps_63 <|
z_iload_n X 2 dX12_lamps_64 rfl <|
z_iast X dX12_lamps_65 sm_51 kc_1 hp2 o fun s15 o =>
z_aload_n X 0 dX12_lamps_66 rfl <|
z_getR (q := 51) X dX12_lamps_67 fl_X12_164 sm_0 rfl <|
z_iconst X dX12_lamps_70 <|
z_iload_n X 3 dX12_lamps_71 rfl <|
z_iast X dX12_lamps_72 sm_51 kc_2 hp3 o fun s16 o =>
z_iconst X dX12_lamps_73 <|
z_istore (L1 := [(5, .int (pI 0)), (0, .ref (G.2.2.1 0)), (1, .int (pI p1)), (2, .int (pI p2)), (3, .int (pI p3)), (4, .int (pI p4))]) X dX12_lamps_74 (by decide) rfl <|
z_join o (fun (y21 : Unit) s22 => True → At E s22 100 [(0, .ref (G.2.2.1 0)), (1, .int (pI p1)), (4, .int (pI p4))] []) (fun y21 s22 o r23 =>
z_aload_n X 0 dX12_lamps_100 rfl <|
z_getR (q := 52) X dX12_lamps_101 fl_X12_167 sm_0 rfl <|
z_sipush X dX12_lamps_104 si_169 <|
z_iload_n X 1 dX12_lamps_107 rfl <|
z_imul X dX12_lamps_108 <|
z_iconst X dX12_lamps_109 <|
z_iast X dX12_lamps_110 sm_52 (w32_rg _) kc_0 o fun s24 o =>
z_aload_n X 0 dX12_lamps_111 rfl <|
z_getR (q := 53) X dX12_lamps_112 fl_X12_170 sm_0 rfl <|
z_iconst X dX12_lamps_115 <|
z_sipush X dX12_lamps_116 si_169 <|
z_iload_n X 1 dX12_lamps_119 rfl <|
z_imul X dX12_lamps_120 <|
z_iast X dX12_lamps_121 sm_53 kc_0 (w32_rg _) o fun s25 o =>
z_iconst X dX12_lamps_122 <|
z_istore (L1 := [(5, .int (pI 1)), (0, .ref (G.2.2.1 0)), (1, .int (pI p1)), (4, .int (pI p4))]) X dX12_lamps_123 (by decide) rfl <|
z_iconst X dX12_lamps_125 <|
z_istore (L1 := [(6, .int (pI 0)), (5, .int (pI 1)), (0, .ref (G.2.2.1 0)), (1, .int (pI p1)), (4, .int (pI p4))]) X dX12_lamps_126 (by decide) rfl <|
z_joix o (fun (y61 : Int) s62 => rg y61 → At E s62 183 [(0, .ref (G.2.2.1 0)), (7, .int (pI y61))] []) (fun y61 s62 o r63 =>
z_aload_n X 0 dX12_lamps_183 rfl <|
z_getR (q := 52) X dX12_lamps_184 fl_X12_167 sm_0 rfl <|
z_iload X 1 dX12_lamps_187 rfl <|
z_iald X dX12_lamps_189 sm_52 r63 o fun v64 r65 o =>
z_iret X Y dX12_lamps_190 o r65) fun o =>
z_sub (L1 := [(0, .ref (G.2.2.1 0)), (4, .int (pI p4)), (5, .int (pI 1)), (6, .int (pI 0))]) X [2, 4, 1, 0] rfl <|
z_iter (fun (x26 : Int × Int) s27 => rg x26.1 ∧ rg x26.2 → At E s27 128 [(0, .ref (G.2.2.1 0)), (4, .int (pI p4)), (5, .int (pI x26.1)), (6, .int (pI x26.2))] []) o (fun x26 s27 o r28 =>
z_iload X 3 dX12_lamps_128 rfl <|
z_iload X 2 dX12_lamps_130 rfl <|
z_icmp_ge (tgt := 290) X dX12_lamps_132 (by decide) r28.2 r28.1 o (fun o =>
z_iconst X dX12_lamps_290 <|
z_iret X Y dX12_lamps_291 (ok_ret (ok_some o)) kc_m1) fun o =>
z_aload_n X 0 dX12_lamps_135 rfl <|
z_getR (q := 53) X dX12_lamps_136 fl_X12_170 sm_0 rfl <|
z_iload X 3 dX12_lamps_139 rfl <|
z_iald X dX12_lamps_141 sm_53 r28.2 o fun v29 r30 o =>
z_istore (L1 := [(7, .int (pI v29)), (0, .ref (G.2.2.1 0)), (4, .int (pI p4)), (5, .int (pI x26.1)), (6, .int (pI x26.2))]) X dX12_lamps_142 (by decide) rfl <|
z_aload_n X 1 dX12_lamps_144 rfl <|
z_iload X 0 dX12_lamps_145 rfl <|
z_callvV X dX12_lamps_147 q_2323 wX12_takesCans sm_0 rfl (by decide) [.int (pI v29)] [] rfl rfl (Nat.le_of_ble_eq_true rfl) (fun r σ1 e => ct_X12_takesCans v29 r30 G _ r σ1 e) o fun r31 s32 o =>
z_aload_n X 1 dX12_lamps_150 rfl <|
z_getR (q := 50) X dX12_lamps_151 fl_X12_161 sm_0 rfl <|
z_iconst X dX12_lamps_154 <|
z_iald X dX12_lamps_155 sm_50 kc_0 o fun v34 r35 o =>
z_iload X 2 dX12_lamps_156 rfl <|
z_icmp_eq (tgt := 183) X dX12_lamps_158 (by decide) r35 hp4 o (fun o =>
z_sub (L1 := [(0, .ref (G.2.2.1 0)), (7, .int (pI v29))]) X [1, 0] rfl <|
ok_some o r30) fun o =>
z_aload_n X 1 dX12_lamps_161 rfl <|
z_getR (q := 50) X dX12_lamps_162 fl_X12_161 sm_0 rfl <|
z_iconst X dX12_lamps_165 <|
z_iald X dX12_lamps_166 sm_50 kc_1 o fun v36 r37 o =>
z_iload X 2 dX12_lamps_167 rfl <|
z_icmp_eq (tgt := 183) X dX12_lamps_169 (by decide) r37 hp4 o (fun o =>
z_sub (L1 := [(0, .ref (G.2.2.1 0)), (7, .int (pI v29))]) X [1, 0] rfl <|
ok_some o r30) fun o =>
z_aload_n X 1 dX12_lamps_172 rfl <|
z_getR (q := 50) X dX12_lamps_173 fl_X12_161 sm_0 rfl <|
z_iconst X dX12_lamps_176 <|
z_iald X dX12_lamps_177 sm_50 kc_2 o fun v38 r39 o =>
z_iload X 2 dX12_lamps_178 rfl <|
z_icmp_ne (tgt := 191) X dX12_lamps_180 (by decide) r39 hp4 o (fun o =>
z_iconst X dX12_lamps_191 <|
z_istore (L1 := [(8, .int (pI 0)), (7, .int (pI v29)), (0, .ref (G.2.2.1 0)), (4, .int (pI p4)), (5, .int (pI x26.1)), (6, .int (pI x26.2))]) X dX12_lamps_192 (by decide) rfl <|
z_join o (fun (y58 : Int) s59 => rg y58 → At E s59 284 [(0, .ref (G.2.2.1 0)), (4, .int (pI p4)), (5, .int (pI y58)), (6, .int (pI x26.2))] []) (fun y58 s59 o r60 =>
z_iinc (L1 := [(6, .int (pI (w32 (x26.2 + 1)))), (0, .ref (G.2.2.1 0)), (4, .int (pI p4)), (5, .int (pI y58))]) X 3 dX12_lamps_284 rfl (by decide) rfl <|
z_goto (tgt := 128) X dX12_lamps_287 (by decide) <|
z_sub (L1 := [(0, .ref (G.2.2.1 0)), (4, .int (pI p4)), (5, .int (pI y58)), (6, .int (pI (w32 (x26.2 + 1))))]) X [1, 2, 3, 0] rfl <|
ok_some o ⟨r60, (w32_rg _)⟩) fun o =>
z_sub (L1 := [(0, .ref (G.2.2.1 0)), (4, .int (pI p4)), (5, .int (pI x26.1)), (6, .int (pI x26.2)), (7, .int (pI v29)), (8, .int (pI 0))]) X [2, 3, 4, 5, 1, 0] rfl <|
z_iter (fun (x40 : Int × Int) s41 => rg x40.1 ∧ rg x40.2 → At E s41 194 [(0, .ref (G.2.2.1 0)), (4, .int (pI p4)), (5, .int (pI x40.1)), (6, .int (pI x26.2)), (7, .int (pI v29)), (8, .int (pI x40.2))] []) o (fun x40 s41 o r42 =>
z_iload X 5 dX12_lamps_194 rfl <|
z_bipush X dX12_lamps_196 bi_9 <|
z_icmp_ge (tgt := 284) X dX12_lamps_198 (by decide) r42.2 kc_9 o (fun o =>
z_sub (L1 := [(0, .ref (G.2.2.1 0)), (4, .int (pI p4)), (5, .int (pI x40.1)), (6, .int (pI x26.2))]) X [0, 1, 2, 3] rfl <|
ok_some o r42.1) fun o =>
z_iload X 5 dX12_lamps_201 rfl <|
z_iconst X dX12_lamps_203 <|
z_idiv X dX12_lamps_204 r42.2 kc_3 o fun z43 o =>
z_iload X 5 dX12_lamps_205 rfl <|
z_iconst X dX12_lamps_207 <|
z_irem X dX12_lamps_208 r42.2 kc_3 o fun z44 o =>
z_icmp_ne (tgt := 215) X dX12_lamps_209 (by decide) (w32_rg _) (irm_rg kc_3 z44) o (fun o =>
z_aload_n X 0 dX12_lamps_215 rfl <|
z_iload X 4 dX12_lamps_216 rfl <|
z_iload X 5 dX12_lamps_218 rfl <|
z_iconst X dX12_lamps_220 <|
z_idiv X dX12_lamps_221 r42.2 kc_3 o fun z45 o =>
z_iload X 5 dX12_lamps_222 rfl <|
z_iconst X dX12_lamps_224 <|
z_irem X dX12_lamps_225 r42.2 kc_3 o fun z46 o =>
z_callvI X dX12_lamps_226 q_2327 wX12_poured sm_0 rfl (by decide) [.int (pI v29), .int (pI (idv x40.2 3)), .int (pI (irm x40.2 3))] [] rfl rfl (Nat.le_of_ble_eq_true rfl) (fun r σ1 e => ct_X12_poured v29 (idv x40.2 3) (irm x40.2 3) r30 (w32_rg _) (irm_rg kc_3 z46) G _ r σ1 e) o fun r47 s48 h49 o =>
z_istore (L1 := [(9, .int (pI r47)), (0, .ref (G.2.2.1 0)), (4, .int (pI p4)), (5, .int (pI x40.1)), (6, .int (pI x26.2)), (7, .int (pI v29)), (8, .int (pI x40.2))]) X dX12_lamps_229 (by decide) rfl <|
z_aload_n X 1 dX12_lamps_231 rfl <|
z_getR (q := 52) X dX12_lamps_232 fl_X12_167 sm_0 rfl <|
z_iload X 0 dX12_lamps_235 rfl <|
z_iald X dX12_lamps_237 sm_52 h49 o fun v50 r51 o =>
z_ldcw X dX12_lamps_238 q_2217 ki_100000000 <|
z_icmp_ge (tgt := 247) X dX12_lamps_241 (by decide) r51 kc_100000000 o (fun o =>
z_aload_n X 1 dX12_lamps_247 rfl <|
z_getR (q := 52) X dX12_lamps_248 fl_X12_167 sm_0 rfl <|
z_iload X 0 dX12_lamps_251 rfl <|
z_aload_n X 1 dX12_lamps_253 rfl <|
z_getR (q := 52) X dX12_lamps_254 fl_X12_167 sm_0 rfl <|
z_iload X 5 dX12_lamps_257 rfl <|
z_iald X dX12_lamps_259 sm_52 r30 o fun v52 r53 o =>
z_iconst X dX12_lamps_260 <|
z_iadd X dX12_lamps_261 <|
z_iast X dX12_lamps_262 sm_52 h49 (w32_rg _) o fun s54 o =>
z_aload_n X 1 dX12_lamps_263 rfl <|
z_getR (q := 53) X dX12_lamps_264 fl_X12_170 sm_0 rfl <|
z_iload X 3 dX12_lamps_267 rfl <|
z_iload X 0 dX12_lamps_269 rfl <|
z_iast X dX12_lamps_271 sm_53 r42.1 h49 o fun s55 o =>
z_iload X 3 dX12_lamps_272 rfl <|
z_iconst X dX12_lamps_274 <|
z_iadd X dX12_lamps_275 <|
z_istoreL (L1 := fun v56 => [(5, .int (pI v56)), (9, .int (pI r47)), (0, .ref (G.2.2.1 0)), (4, .int (pI p4)), (6, .int (pI x26.2)), (7, .int (pI v29)), (8, .int (pI x40.2))]) (R := rg) X dX12_lamps_276 (by decide) (fun _ => rfl) o (w32_rg _) fun v56 r57 o =>
z_iinc (L1 := [(8, .int (pI (w32 (x40.2 + 1)))), (5, .int (pI v56)), (9, .int (pI r47)), (0, .ref (G.2.2.1 0)), (4, .int (pI p4)), (6, .int (pI x26.2)), (7, .int (pI v29))]) X 6 dX12_lamps_278 rfl (by decide) rfl <|
z_goto (tgt := 194) X dX12_lamps_281 (by decide) <|
z_sub (L1 := [(0, .ref (G.2.2.1 0)), (4, .int (pI p4)), (5, .int (pI v56)), (6, .int (pI x26.2)), (7, .int (pI v29)), (8, .int (pI (w32 (x40.2 + 1))))]) X [3, 4, 1, 5, 6, 0] rfl <|
ok_some o ⟨r57, (w32_rg _)⟩) fun o =>
z_goto (tgt := 278) X dX12_lamps_244 (by decide) <|
z_iinc (L1 := [(8, .int (pI (w32 (x40.2 + 1)))), (9, .int (pI r47)), (0, .ref (G.2.2.1 0)), (4, .int (pI p4)), (5, .int (pI x40.1)), (6, .int (pI x26.2)), (7, .int (pI v29))]) X 6 dX12_lamps_278 rfl (by decide) rfl <|
z_goto (tgt := 194) X dX12_lamps_281 (by decide) <|
z_sub (L1 := [(0, .ref (G.2.2.1 0)), (4, .int (pI p4)), (5, .int (pI x40.1)), (6, .int (pI x26.2)), (7, .int (pI v29)), (8, .int (pI (w32 (x40.2 + 1))))]) X [2, 3, 4, 5, 6, 0] rfl <|
ok_some o ⟨r42.1, (w32_rg _)⟩) fun o =>
z_goto (tgt := 278) X dX12_lamps_212 (by decide) <|
z_iinc (L1 := [(8, .int (pI (w32 (x40.2 + 1)))), (0, .ref (G.2.2.1 0)), (4, .int (pI p4)), (5, .int (pI x40.1)), (6, .int (pI x26.2)), (7, .int (pI v29))]) X 5 dX12_lamps_278 rfl (by decide) rfl <|
z_goto (tgt := 194) X dX12_lamps_281 (by decide) <|
z_sub (L1 := [(0, .ref (G.2.2.1 0)), (4, .int (pI p4)), (5, .int (pI x40.1)), (6, .int (pI x26.2)), (7, .int (pI v29)), (8, .int (pI (w32 (x40.2 + 1))))]) X [1, 2, 3, 4, 5, 0] rfl <|
ok_some o ⟨r42.1, (w32_rg _)⟩) ⟨r28.1, kc_0⟩) fun o =>
z_sub (L1 := [(0, .ref (G.2.2.1 0)), (7, .int (pI v29))]) X [1, 0] rfl <|
ok_some o r30) ⟨kc_1, kc_0⟩) fun o =>
z_sub (L1 := [(0, .ref (G.2.2.1 0)), (1, .int (pI p1)), (4, .int (pI p4)), (5, .int (pI 0))]) X [1, 2, 5, 0] rfl <|
z_iter (fun (x17 : Int) s18 => rg x17 → At E s18 76 [(0, .ref (G.2.2.1 0)), (1, .int (pI p1)), (4, .int (pI p4)), (5, .int (pI x17))] []) o (fun x17 s18 o r19 =>
z_iload X 3 dX12_lamps_76 rfl <|
z_sipush X dX12_lamps_78 si_2197 <|
z_icmp_ge (tgt := 100) X dX12_lamps_81 (by decide) r19 kc_2197 o (fun o =>
z_sub (L1 := [(0, .ref (G.2.2.1 0)), (1, .int (pI p1)), (4, .int (pI p4))]) X [0, 1, 2] rfl <|
ok_some o trivial) fun o =>
z_aload_n X 0 dX12_lamps_84 rfl <|
z_getR (q := 52) X dX12_lamps_85 fl_X12_167 sm_0 rfl <|
z_iload X 3 dX12_lamps_88 rfl <|
z_ldcw X dX12_lamps_90 q_2217 ki_100000000 <|
z_iast X dX12_lamps_93 sm_52 r19 kc_100000000 o fun s20 o =>
z_iinc (L1 := [(5, .int (pI (w32 (x17 + 1)))), (0, .ref (G.2.2.1 0)), (1, .int (pI p1)), (4, .int (pI p4))]) X 3 dX12_lamps_94 rfl (by decide) rfl <|
z_goto (tgt := 76) X dX12_lamps_97 (by decide) <|
z_sub (L1 := [(0, .ref (G.2.2.1 0)), (1, .int (pI p1)), (4, .int (pI p4)), (5, .int (pI (w32 (x17 + 1))))]) X [1, 2, 3, 0] rfl <|
ok_some o (w32_rg _)) kc_0) fun o =>
z_iconst X dX12_lamps_50 <|
z_iret X Y dX12_lamps_51 o kc_m1 : At E s0 0 [(0, .ref (G.2.2.1 0)), (1, .int (pI p1)), (2, .int (pI p2)), (3, .int (pI p3)), (4, .int (pI p4))] [])
set_option maxHeartbeats 4000000 in
set_option maxRecDepth 100000 in
theorem ct_X12_last (p1 : Int) (p2 : Int) (hp1 : rg p1) (hp2 : rg p2) (G : Gw) (s0 : St) (r : Int) (σ1 : St) (e : fX12_last p1 p2 s0 = some (r, σ1)) : Ct yX12_last cX12_last 6 (some .int) 1 23 SM G [.ref (G.2.2.1 0), .int (pI p1), .int (pI p2)] s0 (QI SM G r rg σ1) :=
  Ct.of (by decide +kernel) (Nat.le_of_ble_eq_true rfl) fun E X Y => by
    have o : Ok (fX12_last p1 p2 s0) (fun x σ' => x = r ∧ σ' = σ1) := ⟨r, σ1, e, rfl, rfl⟩
    unfold fX12_last at o
    exact (
z_aload_n X 0 dX12_last_0 rfl <|
z_iconst X dX12_last_1 <|
z_putI X dX12_last_2 fl_X12_183 sm_0 ft_X12_0 rfl kc_0 o fun s1 o =>
z_aload_n X 0 dX12_last_5 rfl <|
z_iload_n X 1 dX12_last_6 rfl <|
z_callvI X dX12_last_7 q_1838 wX12_isPorch sm_0 rfl (by decide) [.int (pI p1)] [] rfl rfl (Nat.le_of_ble_eq_true rfl) (fun r σ1 e => ct_X12_isPorch p1 hp1 G _ r σ1 e) o fun r2 s3 h4 o =>
z_if_eq (tgt := 23) X dX12_last_10 (by decide) (r01_rg h4) o (fun o =>
z_iconst X dX12_last_23 <|
z_iret X Y dX12_last_24 o kc_m1) fun o =>
z_aload_n X 0 dX12_last_13 rfl <|
z_iload_n X 2 dX12_last_14 rfl <|
z_iconst X dX12_last_15 <|
z_iconst X dX12_last_16 <|
z_callvI X dX12_last_17 q_1822 wX12_isIn sm_0 rfl (by decide) [.int (pI p2), .int (pI 0), .int (pI 2)] [] rfl rfl (Nat.le_of_ble_eq_true rfl) (fun r σ1 e => ct_X12_isIn p2 0 2 hp2 kc_0 kc_2 G _ r σ1 e) o fun r5 s6 h7 o =>
z_if_ne (tgt := 25) X dX12_last_20 (by decide) (r01_rg h7) o (fun o =>
z_iconst X dX12_last_25 <|
z_istore_n (L1 := [(3, .int (pI 0)), (0, .ref (G.2.2.1 0)), (1, .int (pI p1)), (2, .int (pI p2))]) X dX12_last_26 rfl (by decide) rfl <|
z_join o (fun (y15 : Unit) s16 => True → At E s16 59 [(0, .ref (G.2.2.1 0)), (1, .int (pI p1)), (2, .int (pI p2))] []) (fun y15 s16 o r17 =>
z_iconst X dX12_last_59 <|
z_istore_n (L1 := [(3, .int (pI 0)), (0, .ref (G.2.2.1 0)), (1, .int (pI p1)), (2, .int (pI p2))]) X dX12_last_60 rfl (by decide) rfl <|
z_join o (fun (y51 : Unit) s52 => True → At E s52 166 [(0, .ref (G.2.2.1 0)), (1, .int (pI p1)), (2, .int (pI p2))] []) (fun y51 s52 o r53 =>
z_iconst X dX12_last_166 <|
z_istore_n (L1 := [(3, .int (pI 0)), (0, .ref (G.2.2.1 0)), (1, .int (pI p1)), (2, .int (pI p2))]) X dX12_last_167 rfl (by decide) rfl <|
z_iload_n X 2 dX12_last_168 rfl <|
z_istore (L1 := [(4, .int (pI p1)), (3, .int (pI 0)), (0, .ref (G.2.2.1 0)), (1, .int (pI p1)), (2, .int (pI p2))]) X dX12_last_169 (by decide) rfl <|
z_aload_n X 2 dX12_last_171 rfl <|
z_getI X dX12_last_172 fl_X12_196 sm_0 rfl o fun v54 r55 o =>
z_iconst X dX12_last_175 <|
z_isub X dX12_last_176 <|
z_istoreL (L1 := fun v56 => [(5, .int (pI v56)), (4, .int (pI p1)), (3, .int (pI 0)), (0, .ref (G.2.2.1 0)), (1, .int (pI p1)), (2, .int (pI p2))]) (R := rg) X dX12_last_177 (by decide) (fun _ => rfl) o (w32_rg _) fun v56 r57 o =>
z_join o (fun (y69 : Int × Int) s70 => rg y69.1 ∧ rg y69.2 → At E s70 231 [(0, .ref (G.2.2.1 0)), (2, .int (pI p2)), (3, .int (pI y69.1)), (4, .int (pI y69.2))] []) (fun y69 s70 o r71 =>
z_iload_n X 1 dX12_last_231 rfl <|
z_if_ne (tgt := 240) X dX12_last_232 (by decide) hp2 o (fun o =>
z_iload_n X 1 dX12_last_240 rfl <|
z_iconst X dX12_last_241 <|
z_icmp_ne (tgt := 255) X dX12_last_242 (by decide) hp2 kc_1 o (fun o =>
z_iload_n X 2 dX12_last_255 rfl <|
z_iret X Y dX12_last_256 o r71.1) fun o =>
z_aload_n X 0 dX12_last_245 rfl <|
z_getR (q := 48) X dX12_last_246 fl_X12_155 sm_0 rfl <|
z_iload X 3 dX12_last_249 rfl <|
z_iald X dX12_last_251 sm_48 r71.2 o fun v72 r73 o =>
z_goto (tgt := 256) X dX12_last_252 (by decide) <|
z_iret X Y dX12_last_256 o r73) fun o =>
z_iload X 3 dX12_last_235 rfl <|
z_goto (tgt := 256) X dX12_last_237 (by decide) <|
z_iret X Y dX12_last_256 o r71.2) fun o =>
z_sub (L1 := [(0, .ref (G.2.2.1 0)), (2, .int (pI p2)), (3, .int (pI 0)), (4, .int (pI p1)), (5, .int (pI v56))]) X [3, 5, 2, 1, 0] rfl <|
z_iter (fun (x58 : Int × Int × Int) s59 => rg x58.1 ∧ rg x58.2.1 ∧ rg x58.2.2 → At E s59 179 [(0, .ref (G.2.2.1 0)), (2, .int (pI p2)), (3, .int (pI x58.1)), (4, .int (pI x58.2.1)), (5, .int (pI x58.2.2))] []) o (fun x58 s59 o r60 =>
z_iload X 4 dX12_last_179 rfl <|
z_if_lt (tgt := 231) X dX12_last_181 (by decide) r60.2.2 o (fun o =>
z_sub (L1 := [(0, .ref (G.2.2.1 0)), (2, .int (pI p2)), (3, .int (pI x58.1)), (4, .int (pI x58.2.1))]) X [0, 1, 2, 3] rfl <|
ok_some o ⟨r60.1, r60.2.1⟩) fun o =>
z_aload_n X 0 dX12_last_184 rfl <|
z_getR (q := 48) X dX12_last_185 fl_X12_155 sm_0 rfl <|
z_iload X 4 dX12_last_188 rfl <|
z_iald X dX12_last_190 sm_48 r60.2.2 o fun v61 r62 o =>
z_ldcw X dX12_last_191 q_2217 ki_100000000 <|
z_icmp_lt (tgt := 200) X dX12_last_194 (by decide) r62 kc_100000000 o (fun o =>
z_iload_n X 2 dX12_last_200 rfl <|
z_iconst X dX12_last_201 <|
z_iadd X dX12_last_202 <|
z_istoreL_n (L1 := fun v63 => [(3, .int (pI v63)), (0, .ref (G.2.2.1 0)), (2, .int (pI p2)), (4, .int (pI x58.2.1)), (5, .int (pI x58.2.2))]) (R := rg) X dX12_last_203 rfl (by decide) (fun _ => rfl) o (w32_rg _) fun v63 r64 o =>
z_aload_n X 1 dX12_last_204 rfl <|
z_getR (q := 48) X dX12_last_205 fl_X12_155 sm_0 rfl <|
z_iload X 4 dX12_last_208 rfl <|
z_iald X dX12_last_210 sm_48 r60.2.2 o fun v65 r66 o =>
z_aload_n X 1 dX12_last_211 rfl <|
z_getR (q := 48) X dX12_last_212 fl_X12_155 sm_0 rfl <|
z_iload X 3 dX12_last_215 rfl <|
z_iald X dX12_last_217 sm_48 r60.2.1 o fun v67 r68 o =>
z_icmp_lt (tgt := 225) X dX12_last_218 (by decide) r66 r68 o (fun o =>
z_iinc (L1 := [(5, .int (pI (w32 (x58.2.2 + (-1))))), (3, .int (pI v63)), (0, .ref (G.2.2.1 0)), (2, .int (pI p2)), (4, .int (pI x58.2.1))]) X 4 dX12_last_225 rfl (by decide) rfl <|
z_goto (tgt := 179) X dX12_last_228 (by decide) <|
z_sub (L1 := [(0, .ref (G.2.2.1 0)), (2, .int (pI p2)), (3, .int (pI v63)), (4, .int (pI x58.2.1)), (5, .int (pI (w32 (x58.2.2 + (-1)))))]) X [2, 3, 1, 4, 0] rfl <|
ok_some o ⟨r64, r60.2.1, (w32_rg _)⟩) fun o =>
z_iload X 4 dX12_last_221 rfl <|
z_istore (L1 := [(4, .int (pI x58.2.2)), (3, .int (pI v63)), (0, .ref (G.2.2.1 0)), (2, .int (pI p2)), (5, .int (pI x58.2.2))]) X dX12_last_223 (by decide) rfl <|
z_iinc (L1 := [(5, .int (pI (w32 (x58.2.2 + (-1))))), (4, .int (pI x58.2.2)), (3, .int (pI v63)), (0, .ref (G.2.2.1 0)), (2, .int (pI p2))]) X 4 dX12_last_225 rfl (by decide) rfl <|
z_goto (tgt := 179) X dX12_last_228 (by decide) <|
z_sub (L1 := [(0, .ref (G.2.2.1 0)), (2, .int (pI p2)), (3, .int (pI v63)), (4, .int (pI x58.2.2)), (5, .int (pI (w32 (x58.2.2 + (-1)))))]) X [3, 4, 2, 1, 0] rfl <|
ok_some o ⟨r64, r60.2.2, (w32_rg _)⟩) fun o =>
z_goto (tgt := 225) X dX12_last_197 (by decide) <|
z_iinc (L1 := [(5, .int (pI (w32 (x58.2.2 + (-1))))), (0, .ref (G.2.2.1 0)), (2, .int (pI p2)), (3, .int (pI x58.1)), (4, .int (pI x58.2.1))]) X 4 dX12_last_225 rfl (by decide) rfl <|
z_goto (tgt := 179) X dX12_last_228 (by decide) <|
z_sub (L1 := [(0, .ref (G.2.2.1 0)), (2, .int (pI p2)), (3, .int (pI x58.1)), (4, .int (pI x58.2.1)), (5, .int (pI (w32 (x58.2.2 + (-1)))))]) X [1, 2, 3, 4, 0] rfl <|
ok_some o ⟨r60.1, r60.2.1, (w32_rg _)⟩) ⟨kc_0, hp1, r57⟩) fun o =>
z_sub (L1 := [(0, .ref (G.2.2.1 0)), (1, .int (pI p1)), (2, .int (pI p2)), (3, .int (pI 0))]) X [1, 2, 3, 0] rfl <|
z_iter (fun (x18 : Int) s19 => rg x18 → At E s19 61 [(0, .ref (G.2.2.1 0)), (1, .int (pI p1)), (2, .int (pI p2)), (3, .int (pI x18))] []) o (fun x18 s19 o r20 =>
z_iload_n X 3 dX12_last_61 rfl <|
z_aload_n X 0 dX12_last_62 rfl <|
z_getI X dX12_last_63 fl_X12_196 sm_0 rfl o fun v21 r22 o =>
z_icmp_ge (tgt := 166) X dX12_last_66 (by decide) r20 r22 o (fun o =>
z_sub (L1 := [(0, .ref (G.2.2.1 0)), (1, .int (pI p1)), (2, .int (pI p2))]) X [0, 1, 2] rfl <|
ok_some o trivial) fun o =>
z_iconst X dX12_last_69 <|
z_istore (L1 := [(4, .int (pI 0)), (0, .ref (G.2.2.1 0)), (1, .int (pI p1)), (2, .int (pI p2)), (3, .int (pI x18))]) X dX12_last_70 (by decide) rfl <|
z_join o (fun (y48 : Unit) s49 => True → At E s49 160 [(0, .ref (G.2.2.1 0)), (1, .int (pI p1)), (2, .int (pI p2)), (3, .int (pI x18))] []) (fun y48 s49 o r50 =>
z_iinc (L1 := [(3, .int (pI (w32 (x18 + 1)))), (0, .ref (G.2.2.1 0)), (1, .int (pI p1)), (2, .int (pI p2))]) X 3 dX12_last_160 rfl (by decide) rfl <|
z_goto (tgt := 61) X dX12_last_163 (by decide) <|
z_sub (L1 := [(0, .ref (G.2.2.1 0)), (1, .int (pI p1)), (2, .int (pI p2)), (3, .int (pI (w32 (x18 + 1))))]) X [1, 2, 3, 0] rfl <|
ok_some o (w32_rg _)) fun o =>
z_sub (L1 := [(0, .ref (G.2.2.1 0)), (1, .int (pI p1)), (2, .int (pI p2)), (3, .int (pI x18)), (4, .int (pI 0))]) X [1, 2, 3, 4, 0] rfl <|
z_iter (fun (x23 : Int) s24 => rg x23 → At E s24 72 [(0, .ref (G.2.2.1 0)), (1, .int (pI p1)), (2, .int (pI p2)), (3, .int (pI x18)), (4, .int (pI x23))] []) o (fun x23 s24 o r25 =>
z_iload X 4 dX12_last_72 rfl <|
z_aload_n X 0 dX12_last_74 rfl <|
z_getI X dX12_last_75 fl_X12_196 sm_0 rfl o fun v26 r27 o =>
z_icmp_ge (tgt := 160) X dX12_last_78 (by decide) r25 r27 o (fun o =>
z_sub (L1 := [(0, .ref (G.2.2.1 0)), (1, .int (pI p1)), (2, .int (pI p2)), (3, .int (pI x18))]) X [0, 1, 2, 3] rfl <|
ok_some o trivial) fun o =>
z_iconst X dX12_last_81 <|
z_istore (L1 := [(5, .int (pI 0)), (0, .ref (G.2.2.1 0)), (1, .int (pI p1)), (2, .int (pI p2)), (3, .int (pI x18)), (4, .int (pI x23))]) X dX12_last_82 (by decide) rfl <|
z_join o (fun (y45 : Unit) s46 => True → At E s46 154 [(0, .ref (G.2.2.1 0)), (1, .int (pI p1)), (2, .int (pI p2)), (3, .int (pI x18)), (4, .int (pI x23))] []) (fun y45 s46 o r47 =>
z_iinc (L1 := [(4, .int (pI (w32 (x23 + 1)))), (0, .ref (G.2.2.1 0)), (1, .int (pI p1)), (2, .int (pI p2)), (3, .int (pI x18))]) X 4 dX12_last_154 rfl (by decide) rfl <|
z_goto (tgt := 72) X dX12_last_157 (by decide) <|
z_sub (L1 := [(0, .ref (G.2.2.1 0)), (1, .int (pI p1)), (2, .int (pI p2)), (3, .int (pI x18)), (4, .int (pI (w32 (x23 + 1))))]) X [1, 2, 3, 4, 0] rfl <|
ok_some o (w32_rg _)) fun o =>
z_sub (L1 := [(0, .ref (G.2.2.1 0)), (1, .int (pI p1)), (2, .int (pI p2)), (3, .int (pI x18)), (4, .int (pI x23)), (5, .int (pI 0))]) X [1, 2, 3, 4, 5, 0] rfl <|
z_iter (fun (x28 : Int) s29 => rg x28 → At E s29 84 [(0, .ref (G.2.2.1 0)), (1, .int (pI p1)), (2, .int (pI p2)), (3, .int (pI x18)), (4, .int (pI x23)), (5, .int (pI x28))] []) o (fun x28 s29 o r30 =>
z_iload X 5 dX12_last_84 rfl <|
z_aload_n X 0 dX12_last_86 rfl <|
z_getI X dX12_last_87 fl_X12_196 sm_0 rfl o fun v31 r32 o =>
z_icmp_ge (tgt := 154) X dX12_last_90 (by decide) r30 r32 o (fun o =>
z_sub (L1 := [(0, .ref (G.2.2.1 0)), (1, .int (pI p1)), (2, .int (pI p2)), (3, .int (pI x18)), (4, .int (pI x23))]) X [0, 1, 2, 3, 4] rfl <|
ok_some o trivial) fun o =>
z_aload_n X 0 dX12_last_93 rfl <|
z_getR (q := 20) X dX12_last_94 fl_X12_71 sm_0 rfl <|
z_bipush X dX12_last_97 bi_12 <|
z_iload X 4 dX12_last_99 rfl <|
z_imul X dX12_last_101 <|
z_iload X 5 dX12_last_102 rfl <|
z_iadd X dX12_last_104 <|
z_iald X dX12_last_105 sm_20 (w32_rg _) o fun v33 r34 o =>
z_if_le (tgt := 148) X dX12_last_106 (by decide) r34 o (fun o =>
z_iinc (L1 := [(5, .int (pI (w32 (x28 + 1)))), (0, .ref (G.2.2.1 0)), (1, .int (pI p1)), (2, .int (pI p2)), (3, .int (pI x18)), (4, .int (pI x23))]) X 5 dX12_last_148 rfl (by decide) rfl <|
z_goto (tgt := 84) X dX12_last_151 (by decide) <|
z_sub (L1 := [(0, .ref (G.2.2.1 0)), (1, .int (pI p1)), (2, .int (pI p2)), (3, .int (pI x18)), (4, .int (pI x23)), (5, .int (pI (w32 (x28 + 1))))]) X [1, 2, 3, 4, 5, 0] rfl <|
ok_some o (w32_rg _)) fun o =>
z_aload_n X 0 dX12_last_109 rfl <|
z_getR (q := 48) X dX12_last_110 fl_X12_155 sm_0 rfl <|
z_iload X 5 dX12_last_113 rfl <|
z_aload_n X 0 dX12_last_115 rfl <|
z_aload_n X 0 dX12_last_116 rfl <|
z_getR (q := 48) X dX12_last_117 fl_X12_155 sm_0 rfl <|
z_iload X 5 dX12_last_120 rfl <|
z_iald X dX12_last_122 sm_48 r30 o fun v35 r36 o =>
z_aload_n X 0 dX12_last_123 rfl <|
z_getR (q := 48) X dX12_last_124 fl_X12_155 sm_0 rfl <|
z_iload X 4 dX12_last_127 rfl <|
z_iald X dX12_last_129 sm_48 r25 o fun v37 r38 o =>
z_aload_n X 0 dX12_last_130 rfl <|
z_getR (q := 20) X dX12_last_131 fl_X12_71 sm_0 rfl <|
z_bipush X dX12_last_134 bi_12 <|
z_iload X 4 dX12_last_136 rfl <|
z_imul X dX12_last_138 <|
z_iload X 5 dX12_last_139 rfl <|
z_iadd X dX12_last_141 <|
z_iald X dX12_last_142 sm_20 (w32_rg _) o fun v39 r40 o =>
z_iadd X dX12_last_143 <|
z_callvI X dX12_last_144 q_2120 wX12_lesser sm_0 rfl (by decide) [.int (pI v35), .int (pI (w32 (v37 + v39)))] [.int (pI x28), .ref (G.2.2.1 48)] rfl rfl (Nat.le_of_ble_eq_true rfl) (fun r σ1 e => ct_X12_lesser v35 (w32 (v37 + v39)) r36 (w32_rg _) G _ r σ1 e) o fun r41 s42 h43 o =>
z_iast X dX12_last_147 sm_48 r30 h43 o fun s44 o =>
z_iinc (L1 := [(5, .int (pI (w32 (x28 + 1)))), (0, .ref (G.2.2.1 0)), (1, .int (pI p1)), (2, .int (pI p2)), (3, .int (pI x18)), (4, .int (pI x23))]) X 5 dX12_last_148 rfl (by decide) rfl <|
z_goto (tgt := 84) X dX12_last_151 (by decide) <|
z_sub (L1 := [(0, .ref (G.2.2.1 0)), (1, .int (pI p1)), (2, .int (pI p2)), (3, .int (pI x18)), (4, .int (pI x23)), (5, .int (pI (w32 (x28 + 1))))]) X [1, 2, 3, 4, 5, 0] rfl <|
ok_some o (w32_rg _)) kc_0) kc_0) kc_0) fun o =>
z_sub (L1 := [(0, .ref (G.2.2.1 0)), (1, .int (pI p1)), (2, .int (pI p2)), (3, .int (pI 0))]) X [1, 2, 3, 0] rfl <|
z_iter (fun (x8 : Int) s9 => rg x8 → At E s9 27 [(0, .ref (G.2.2.1 0)), (1, .int (pI p1)), (2, .int (pI p2)), (3, .int (pI x8))] []) o (fun x8 s9 o r10 =>
z_iload_n X 3 dX12_last_27 rfl <|
z_aload_n X 0 dX12_last_28 rfl <|
z_getI X dX12_last_29 fl_X12_196 sm_0 rfl o fun v11 r12 o =>
z_icmp_ge (tgt := 59) X dX12_last_32 (by decide) r10 r12 o (fun o =>
z_sub (L1 := [(0, .ref (G.2.2.1 0)), (1, .int (pI p1)), (2, .int (pI p2))]) X [0, 1, 2] rfl <|
ok_some o trivial) fun o =>
z_aload_n X 0 dX12_last_35 rfl <|
z_getR (q := 48) X dX12_last_36 fl_X12_155 sm_0 rfl <|
z_iload_n X 3 dX12_last_39 rfl <|
z_iload_n X 3 dX12_last_40 rfl <|
z_iload_n X 1 dX12_last_41 rfl <|
z_icmp_ne (tgt := 49) X dX12_last_42 (by decide) r10 hp1 o (fun o =>
z_ldcw X dX12_last_49 q_2217 ki_100000000 <|
z_iast X dX12_last_52 sm_48 r10 kc_100000000 o fun s13 o =>
z_iinc (L1 := [(3, .int (pI (w32 (x8 + 1)))), (0, .ref (G.2.2.1 0)), (1, .int (pI p1)), (2, .int (pI p2))]) X 3 dX12_last_53 rfl (by decide) rfl <|
z_goto (tgt := 27) X dX12_last_56 (by decide) <|
z_sub (L1 := [(0, .ref (G.2.2.1 0)), (1, .int (pI p1)), (2, .int (pI p2)), (3, .int (pI (w32 (x8 + 1))))]) X [1, 2, 3, 0] rfl <|
ok_some o (w32_rg _)) fun o =>
z_iconst X dX12_last_45 <|
z_goto (tgt := 52) X dX12_last_46 (by decide) <|
z_iast X dX12_last_52 sm_48 r10 kc_0 o fun s14 o =>
z_iinc (L1 := [(3, .int (pI (w32 (x8 + 1)))), (0, .ref (G.2.2.1 0)), (1, .int (pI p1)), (2, .int (pI p2))]) X 3 dX12_last_53 rfl (by decide) rfl <|
z_goto (tgt := 27) X dX12_last_56 (by decide) <|
z_sub (L1 := [(0, .ref (G.2.2.1 0)), (1, .int (pI p1)), (2, .int (pI p2)), (3, .int (pI (w32 (x8 + 1))))]) X [1, 2, 3, 0] rfl <|
ok_some o (w32_rg _)) kc_0) fun o =>
z_iconst X dX12_last_23 <|
z_iret X Y dX12_last_24 o kc_m1 : At E s0 0 [(0, .ref (G.2.2.1 0)), (1, .int (pI p1)), (2, .int (pI p2))] [])
set_option maxHeartbeats 4000000 in
set_option maxRecDepth 100000 in
theorem ct_X12_levelled   (G : Gw) (s0 : St) (r : Int) (σ1 : St) (e : fX12_levelled s0 = some (r, σ1)) : Ct yX12_levelled cX12_levelled 5 (some .int) 1 22 SM G [.ref (G.2.2.1 0)] s0 (QI SM G r rg σ1) :=
  Ct.of (by decide +kernel) (Nat.le_of_ble_eq_true rfl) fun E X Y => by
    have o : Ok (fX12_levelled s0) (fun x σ' => x = r ∧ σ' = σ1) := ⟨r, σ1, e, rfl, rfl⟩
    unfold fX12_levelled at o
    exact (
z_iconst X dX12_levelled_0 <|
z_istore_n (L1 := [(1, .int (pI 0)), (0, .ref (G.2.2.1 0))]) X dX12_levelled_1 rfl (by decide) rfl <|
z_iconst X dX12_levelled_2 <|
z_istore_n (L1 := [(2, .int (pI 0)), (1, .int (pI 0)), (0, .ref (G.2.2.1 0))]) X dX12_levelled_3 rfl (by decide) rfl <|
z_join o (fun (y10 : Int) s11 => rg y10 → At E s11 27 [(0, .ref (G.2.2.1 0)), (1, .int (pI y10))] []) (fun y10 s11 o r12 =>
z_aload_n X 0 dX12_levelled_27 rfl <|
z_getI X dX12_levelled_28 fl_X12_512 sm_0 rfl o fun v13 r14 o =>
z_if_ne (tgt := 36) X dX12_levelled_31 (by decide) r14 o (fun o =>
z_iload_n X 1 dX12_levelled_36 rfl <|
z_aload_n X 0 dX12_levelled_37 rfl <|
z_getI X dX12_levelled_38 fl_X12_512 sm_0 rfl o fun v15 r16 o =>
z_irem X dX12_levelled_41 r12 r16 o fun z17 o =>
z_if_eq (tgt := 47) X dX12_levelled_42 (by decide) (irm_rg r16 z17) o (fun o =>
z_iconst X dX12_levelled_47 <|
z_istore_n (L1 := [(2, .int (pI 0)), (0, .ref (G.2.2.1 0)), (1, .int (pI y10))]) X dX12_levelled_48 rfl (by decide) rfl <|
z_iconst X dX12_levelled_49 <|
z_istore_n (L1 := [(3, .int (pI 0)), (2, .int (pI 0)), (0, .ref (G.2.2.1 0)), (1, .int (pI y10))]) X dX12_levelled_50 rfl (by decide) rfl <|
z_iconst X dX12_levelled_51 <|
z_istore (L1 := [(4, .int (pI 0)), (3, .int (pI 0)), (2, .int (pI 0)), (0, .ref (G.2.2.1 0)), (1, .int (pI y10))]) X dX12_levelled_52 (by decide) rfl <|
z_join o (fun (y35 : Int) s36 => rg y35 → At E s36 95 [(2, .int (pI y35))] []) (fun y35 s36 o r37 =>
z_iload_n X 0 dX12_levelled_95 rfl <|
z_iret X Y dX12_levelled_96 o r37) fun o =>
z_sub (L1 := [(0, .ref (G.2.2.1 0)), (1, .int (pI y10)), (2, .int (pI 0)), (3, .int (pI 0)), (4, .int (pI 0))]) X [3, 4, 2, 1, 0] rfl <|
z_iter (fun (x18 : Int × Int × Int) s19 => rg x18.1 ∧ rg x18.2.1 ∧ rg x18.2.2 → At E s19 54 [(0, .ref (G.2.2.1 0)), (1, .int (pI y10)), (2, .int (pI x18.1)), (3, .int (pI x18.2.1)), (4, .int (pI x18.2.2))] []) o (fun x18 s19 o r20 =>
z_iload X 4 dX12_levelled_54 rfl <|
z_aload_n X 0 dX12_levelled_56 rfl <|
z_getI X dX12_levelled_57 fl_X12_512 sm_0 rfl o fun v21 r22 o =>
z_icmp_ge (tgt := 95) X dX12_levelled_60 (by decide) r20.2.2 r22 o (fun o =>
z_sub (L1 := [(2, .int (pI x18.1))]) X [2] rfl <|
ok_some o r20.1) fun o =>
z_iload_n X 3 dX12_levelled_63 rfl <|
z_aload_n X 0 dX12_levelled_64 rfl <|
z_getR (q := 39) X dX12_levelled_65 fl_X12_128 sm_0 rfl <|
z_iload X 4 dX12_levelled_68 rfl <|
z_iald X dX12_levelled_70 sm_39 r20.2.2 o fun v23 r24 o =>
z_iadd X dX12_levelled_71 <|
z_iload_n X 1 dX12_levelled_72 rfl <|
z_aload_n X 0 dX12_levelled_73 rfl <|
z_getI X dX12_levelled_74 fl_X12_512 sm_0 rfl o fun v25 r26 o =>
z_idiv X dX12_levelled_77 r12 r26 o fun z27 o =>
z_isub X dX12_levelled_78 <|
z_istoreL_n (L1 := fun v28 => [(3, .int (pI v28)), (0, .ref (G.2.2.1 0)), (1, .int (pI y10)), (2, .int (pI x18.1)), (4, .int (pI x18.2.2))]) (R := rg) X dX12_levelled_79 rfl (by decide) (fun _ => rfl) o (w32_rg _) fun v28 r29 o =>
z_iload_n X 3 dX12_levelled_80 rfl <|
z_aload_n X 1 dX12_levelled_81 rfl <|
z_iload_n X 0 dX12_levelled_82 rfl <|
z_iconst X dX12_levelled_83 <|
z_callvI X dX12_levelled_84 q_2250 wX12_apart sm_0 rfl (by decide) [.int (pI v28), .int (pI 0)] [.int (pI x18.1)] rfl rfl (Nat.le_of_ble_eq_true rfl) (fun r σ1 e => ct_X12_apart v28 0 r29 kc_0 G _ r σ1 e) o fun r30 s31 h32 o =>
z_iadd X dX12_levelled_87 <|
z_istoreL_n (L1 := fun v33 => [(2, .int (pI v33)), (3, .int (pI v28)), (0, .ref (G.2.2.1 0)), (1, .int (pI y10)), (4, .int (pI x18.2.2))]) (R := rg) X dX12_levelled_88 rfl (by decide) (fun _ => rfl) o (w32_rg _) fun v33 r34 o =>
z_iinc (L1 := [(4, .int (pI (w32 (x18.2.2 + 1)))), (2, .int (pI v33)), (3, .int (pI v28)), (0, .ref (G.2.2.1 0)), (1, .int (pI y10))]) X 4 dX12_levelled_89 rfl (by decide) rfl <|
z_goto (tgt := 54) X dX12_levelled_92 (by decide) <|
z_sub (L1 := [(0, .ref (G.2.2.1 0)), (1, .int (pI y10)), (2, .int (pI v33)), (3, .int (pI v28)), (4, .int (pI (w32 (x18.2.2 + 1))))]) X [3, 4, 1, 2, 0] rfl <|
ok_some o ⟨r34, r29, (w32_rg _)⟩) ⟨kc_0, kc_0, kc_0⟩) fun o =>
z_iconst X dX12_levelled_45 <|
z_iret X Y dX12_levelled_46 o kc_m1) fun o =>
z_iconst X dX12_levelled_34 <|
z_iret X Y dX12_levelled_35 o kc_0) fun o =>
z_sub (L1 := [(0, .ref (G.2.2.1 0)), (1, .int (pI 0)), (2, .int (pI 0))]) X [2, 1, 0] rfl <|
z_iter (fun (x1 : Int × Int) s2 => rg x1.1 ∧ rg x1.2 → At E s2 4 [(0, .ref (G.2.2.1 0)), (1, .int (pI x1.1)), (2, .int (pI x1.2))] []) o (fun x1 s2 o r3 =>
z_iload_n X 2 dX12_levelled_4 rfl <|
z_aload_n X 0 dX12_levelled_5 rfl <|
z_getI X dX12_levelled_6 fl_X12_512 sm_0 rfl o fun v4 r5 o =>
z_icmp_ge (tgt := 27) X dX12_levelled_9 (by decide) r3.2 r5 o (fun o =>
z_sub (L1 := [(0, .ref (G.2.2.1 0)), (1, .int (pI x1.1))]) X [0, 1] rfl <|
ok_some o r3.1) fun o =>
z_iload_n X 1 dX12_levelled_12 rfl <|
z_aload_n X 0 dX12_levelled_13 rfl <|
z_getR (q := 39) X dX12_levelled_14 fl_X12_128 sm_0 rfl <|
z_iload_n X 2 dX12_levelled_17 rfl <|
z_iald X dX12_levelled_18 sm_39 r3.2 o fun v6 r7 o =>
z_iadd X dX12_levelled_19 <|
z_istoreL_n (L1 := fun v8 => [(1, .int (pI v8)), (0, .ref (G.2.2.1 0)), (2, .int (pI x1.2))]) (R := rg) X dX12_levelled_20 rfl (by decide) (fun _ => rfl) o (w32_rg _) fun v8 r9 o =>
z_iinc (L1 := [(2, .int (pI (w32 (x1.2 + 1)))), (1, .int (pI v8)), (0, .ref (G.2.2.1 0))]) X 2 dX12_levelled_21 rfl (by decide) rfl <|
z_goto (tgt := 4) X dX12_levelled_24 (by decide) <|
z_sub (L1 := [(0, .ref (G.2.2.1 0)), (1, .int (pI v8)), (2, .int (pI (w32 (x1.2 + 1))))]) X [2, 1, 0] rfl <|
ok_some o ⟨r9, (w32_rg _)⟩) ⟨kc_0, kc_0⟩ : At E s0 0 [(0, .ref (G.2.2.1 0))] [])
set_option maxHeartbeats 4000000 in
set_option maxRecDepth 100000 in
theorem ct_X12_level (p1 : Int) (hp1 : rg p1) (G : Gw) (s0 : St) (r : Int) (σ1 : St) (e : fX12_level p1 s0 = some (r, σ1)) : Ct yX12_level cX12_level 2 (some .int) 2 47 SM G [.ref (G.2.2.1 0), .int (pI p1)] s0 (QI SM G r rg σ1) :=
  Ct.of (by decide +kernel) (Nat.le_of_ble_eq_true rfl) fun E X Y => by
    have o : Ok (fX12_level p1 s0) (fun x σ' => x = r ∧ σ' = σ1) := ⟨r, σ1, e, rfl, rfl⟩
    unfold fX12_level at o
    exact (
z_aload_n X 0 dX12_level_0 rfl <|
z_iconst X dX12_level_1 <|
z_putI X dX12_level_2 fl_X12_183 sm_0 ft_X12_0 rfl kc_0 o fun s1 o =>
z_iload_n X 1 dX12_level_5 rfl <|
z_if_ne (tgt := 16) X dX12_level_6 (by decide) hp1 o (fun o =>
z_iload_n X 1 dX12_level_16 rfl <|
z_iconst X dX12_level_17 <|
z_icmp_ne (tgt := 28) X dX12_level_18 (by decide) hp1 kc_1 o (fun o =>
z_iconst X dX12_level_28 <|
z_iret X Y dX12_level_29 o kc_m1) fun o =>
z_aload_n X 0 dX12_level_21 rfl <|
z_callvI X dX12_level_22 q_2254 wX12_ditch sm_0 rfl (by decide) [] [] rfl rfl (Nat.le_of_ble_eq_true rfl) (fun r σ1 e => ct_X12_ditch G _ r σ1 e) o fun r2 s3 h4 o =>
z_goto (tgt := 29) X dX12_level_25 (by decide) <|
z_iret X Y dX12_level_29 o h4) fun o =>
z_aload_n X 0 dX12_level_9 rfl <|
z_callvI X dX12_level_10 q_2246 wX12_levelled sm_0 rfl (by decide) [] [] rfl rfl (Nat.le_of_ble_eq_true rfl) (fun r σ1 e => ct_X12_levelled G _ r σ1 e) o fun r5 s6 h7 o =>
z_goto (tgt := 29) X dX12_level_13 (by decide) <|
z_iret X Y dX12_level_29 o h7 : At E s0 0 [(0, .ref (G.2.2.1 0)), (1, .int (pI p1))] [])
set_option maxHeartbeats 4000000 in
set_option maxRecDepth 100000 in
theorem ct_X12_look (p1 : Int) (hp1 : rg p1) (G : Gw) (s0 : St) (r : Int) (σ1 : St) (e : fX12_look p1 s0 = some (r, σ1)) : Ct yX12_look cX12_look 4 (some .int) 0 0 SM G [.ref (G.2.2.1 0), .int (pI p1)] s0 (QI SM G r rg σ1) :=
  Ct.of (by decide +kernel) (Nat.le_of_ble_eq_true rfl) fun E X Y => by
    have o : Ok (fX12_look p1 s0) (fun x σ' => x = r ∧ σ' = σ1) := ⟨r, σ1, e, rfl, rfl⟩
    unfold fX12_look at o
    exact (
z_aload_n X 0 dX12_look_0 rfl <|
z_iconst X dX12_look_1 <|
z_putI X dX12_look_2 fl_X12_183 sm_0 ft_X12_0 rfl kc_0 o fun s1 o =>
z_iload_n X 1 dX12_look_5 rfl <|
z_if_ne (tgt := 14) X dX12_look_6 (by decide) hp1 o (fun o =>
z_iload_n X 1 dX12_look_14 rfl <|
z_iconst X dX12_look_15 <|
z_icmp_ne (tgt := 24) X dX12_look_16 (by decide) hp1 kc_1 o (fun o =>
z_iload_n X 1 dX12_look_24 rfl <|
z_iconst X dX12_look_25 <|
z_icmp_ne (tgt := 36) X dX12_look_26 (by decide) hp1 kc_2 o (fun o =>
z_iload_n X 1 dX12_look_36 rfl <|
z_iconst X dX12_look_37 <|
z_icmp_ne (tgt := 48) X dX12_look_38 (by decide) hp1 kc_3 o (fun o =>
z_iload_n X 1 dX12_look_48 rfl <|
z_iconst X dX12_look_49 <|
z_icmp_ne (tgt := 60) X dX12_look_50 (by decide) hp1 kc_4 o (fun o =>
z_iload_n X 1 dX12_look_60 rfl <|
z_bipush X dX12_look_61 bi_7 <|
z_icmp_ne (tgt := 73) X dX12_look_63 (by decide) hp1 kc_7 o (fun o =>
z_iload_n X 1 dX12_look_73 rfl <|
z_bipush X dX12_look_74 bi_8 <|
z_icmp_ne (tgt := 86) X dX12_look_76 (by decide) hp1 kc_8 o (fun o =>
z_iload_n X 1 dX12_look_86 rfl <|
z_bipush X dX12_look_87 bi_9 <|
z_icmp_ne (tgt := 99) X dX12_look_89 (by decide) hp1 kc_9 o (fun o =>
z_iload_n X 1 dX12_look_99 rfl <|
z_bipush X dX12_look_100 bi_10 <|
z_icmp_ne (tgt := 110) X dX12_look_102 (by decide) hp1 kc_10 o (fun o =>
z_iload_n X 1 dX12_look_110 rfl <|
z_bipush X dX12_look_111 bi_11 <|
z_icmp_ne (tgt := 121) X dX12_look_113 (by decide) hp1 kc_11 o (fun o =>
z_iload_n X 1 dX12_look_121 rfl <|
z_bipush X dX12_look_122 bi_12 <|
z_icmp_ne (tgt := 132) X dX12_look_124 (by decide) hp1 kc_12 o (fun o =>
z_iload_n X 1 dX12_look_132 rfl <|
z_bipush X dX12_look_133 bi_13 <|
z_icmp_ne (tgt := 143) X dX12_look_135 (by decide) hp1 kc_13 o (fun o =>
z_iload_n X 1 dX12_look_143 rfl <|
z_iconst X dX12_look_144 <|
z_joix o (fun (y2 : Unit) s3 => True → At E s3 156 [(0, .ref (G.2.2.1 0)), (1, .int (pI p1))] []) (fun y2 s3 o r4 =>
z_iconst X dX12_look_156 <|
z_istore_n (L1 := [(2, .int (pI 0)), (0, .ref (G.2.2.1 0)), (1, .int (pI p1))]) X dX12_look_157 rfl (by decide) rfl <|
z_iconst X dX12_look_158 <|
z_istore_n (L1 := [(3, .int (pI 0)), (2, .int (pI 0)), (0, .ref (G.2.2.1 0)), (1, .int (pI p1))]) X dX12_look_159 rfl (by decide) rfl <|
z_join o (fun (y17 : Int) s18 => rg y17 → At E s18 203 [(2, .int (pI y17))] []) (fun y17 s18 o r19 =>
z_iload_n X 0 dX12_look_203 rfl <|
z_iret X Y dX12_look_204 o r19) fun o =>
z_sub (L1 := [(0, .ref (G.2.2.1 0)), (1, .int (pI p1)), (2, .int (pI 0)), (3, .int (pI 0))]) X [2, 3, 1, 0] rfl <|
z_iter (fun (x5 : Int × Int) s6 => rg x5.1 ∧ rg x5.2 → At E s6 160 [(0, .ref (G.2.2.1 0)), (1, .int (pI p1)), (2, .int (pI x5.1)), (3, .int (pI x5.2))] []) o (fun x5 s6 o r7 =>
z_iload_n X 3 dX12_look_160 rfl <|
z_aload_n X 0 dX12_look_161 rfl <|
z_getI X dX12_look_162 fl_X12_199 sm_0 rfl o fun v8 r9 o =>
z_icmp_ge (tgt := 203) X dX12_look_165 (by decide) r7.2 r9 o (fun o =>
z_sub (L1 := [(2, .int (pI x5.1))]) X [2] rfl <|
ok_some o r7.1) fun o =>
z_aload_n X 0 dX12_look_168 rfl <|
z_getR (q := 1) X dX12_look_169 fl_X12_7 sm_0 rfl <|
z_iload_n X 1 dX12_look_172 rfl <|
z_iconst X dX12_look_173 <|
z_join o (fun (y10 : Int) s11 => rg y10 → At E s11 185 [(0, .ref (G.2.2.1 0)), (1, .int (pI p1)), (2, .int (pI x5.1)), (3, .int (pI x5.2))] [.int (pI y10), .ref (G.2.2.1 1)]) (fun y10 s11 o r12 =>
z_iload_n X 3 dX12_look_185 rfl <|
z_iadd X dX12_look_186 <|
z_iald X dX12_look_187 sm_1 (w32_rg _) o fun v13 r14 o =>
z_if_le (tgt := 197) X dX12_look_188 (by decide) r14 o (fun o =>
z_iinc (L1 := [(3, .int (pI (w32 (x5.2 + 1)))), (0, .ref (G.2.2.1 0)), (1, .int (pI p1)), (2, .int (pI x5.1))]) X 3 dX12_look_197 rfl (by decide) rfl <|
z_goto (tgt := 160) X dX12_look_200 (by decide) <|
z_sub (L1 := [(0, .ref (G.2.2.1 0)), (1, .int (pI p1)), (2, .int (pI x5.1)), (3, .int (pI (w32 (x5.2 + 1))))]) X [1, 2, 3, 0] rfl <|
ok_some o ⟨r7.1, (w32_rg _)⟩) fun o =>
z_iload_n X 2 dX12_look_191 rfl <|
z_iconst X dX12_look_192 <|
z_iload_n X 3 dX12_look_193 rfl <|
z_ishl X dX12_look_194 <|
z_ior X dX12_look_195 <|
z_istoreL_n (L1 := fun v15 => [(2, .int (pI v15)), (0, .ref (G.2.2.1 0)), (1, .int (pI p1)), (3, .int (pI x5.2))]) (R := rg) X dX12_look_196 rfl (by decide) (fun _ => rfl) o (int_rg _) fun v15 r16 o =>
z_iinc (L1 := [(3, .int (pI (w32 (x5.2 + 1)))), (2, .int (pI v15)), (0, .ref (G.2.2.1 0)), (1, .int (pI p1))]) X 3 dX12_look_197 rfl (by decide) rfl <|
z_goto (tgt := 160) X dX12_look_200 (by decide) <|
z_sub (L1 := [(0, .ref (G.2.2.1 0)), (1, .int (pI p1)), (2, .int (pI v15)), (3, .int (pI (w32 (x5.2 + 1))))]) X [2, 3, 1, 0] rfl <|
ok_some o ⟨r16, (w32_rg _)⟩) fun o =>
z_icmp_ne (tgt := 182) X dX12_look_174 (by decide) hp1 kc_5 o (fun o =>
z_sipush X dX12_look_182 si_141 <|
ok_some o kc_141) fun o =>
z_bipush X dX12_look_177 bi_41 <|
z_goto (tgt := 185) X dX12_look_179 (by decide) <|
ok_some o kc_41) ⟨kc_0, kc_0⟩) fun o =>
z_icmp_eq (tgt := 156) X dX12_look_145 (by decide) hp1 kc_5 o (fun o =>
ok_some o trivial) fun o =>
z_iload_n X 1 dX12_look_148 rfl <|
z_bipush X dX12_look_149 bi_6 <|
z_icmp_eq (tgt := 156) X dX12_look_151 (by decide) hp1 kc_6 o (fun o =>
ok_some o trivial) fun o =>
z_iconst X dX12_look_154 <|
z_iret X Y dX12_look_155 (ok_ret (ok_some o)) kc_m1) fun o =>
z_aload_n X 0 dX12_look_138 rfl <|
z_getI X dX12_look_139 fl_X12_187 sm_0 rfl o fun v20 r21 o =>
z_iret X Y dX12_look_142 o r21) fun o =>
z_aload_n X 0 dX12_look_127 rfl <|
z_getI X dX12_look_128 fl_X12_352 sm_0 rfl o fun v22 r23 o =>
z_iret X Y dX12_look_131 o r23) fun o =>
z_aload_n X 0 dX12_look_116 rfl <|
z_getI X dX12_look_117 fl_X12_358 sm_0 rfl o fun v24 r25 o =>
z_iret X Y dX12_look_120 o r25) fun o =>
z_aload_n X 0 dX12_look_105 rfl <|
z_getI X dX12_look_106 fl_X12_355 sm_0 rfl o fun v26 r27 o =>
z_iret X Y dX12_look_109 o r27) fun o =>
z_aload_n X 0 dX12_look_92 rfl <|
z_getR (q := 10) X dX12_look_93 fl_X12_37 sm_0 rfl <|
z_iconst X dX12_look_96 <|
z_iald X dX12_look_97 sm_10 kc_0 o fun v28 r29 o =>
z_iret X Y dX12_look_98 o r29) fun o =>
z_aload_n X 0 dX12_look_79 rfl <|
z_getR (q := 1) X dX12_look_80 fl_X12_7 sm_0 rfl <|
z_iconst X dX12_look_83 <|
z_iald X dX12_look_84 sm_1 kc_2 o fun v30 r31 o =>
z_iret X Y dX12_look_85 o r31) fun o =>
z_aload_n X 0 dX12_look_66 rfl <|
z_getR (q := 1) X dX12_look_67 fl_X12_7 sm_0 rfl <|
z_iconst X dX12_look_70 <|
z_iald X dX12_look_71 sm_1 kc_3 o fun v32 r33 o =>
z_iret X Y dX12_look_72 o r33) fun o =>
z_aload_n X 0 dX12_look_53 rfl <|
z_getR (q := 1) X dX12_look_54 fl_X12_7 sm_0 rfl <|
z_iconst X dX12_look_57 <|
z_iald X dX12_look_58 sm_1 kc_4 o fun v34 r35 o =>
z_iret X Y dX12_look_59 o r35) fun o =>
z_aload_n X 0 dX12_look_41 rfl <|
z_getR (q := 1) X dX12_look_42 fl_X12_7 sm_0 rfl <|
z_iconst X dX12_look_45 <|
z_iald X dX12_look_46 sm_1 kc_0 o fun v36 r37 o =>
z_iret X Y dX12_look_47 o r37) fun o =>
z_aload_n X 0 dX12_look_29 rfl <|
z_getR (q := 1) X dX12_look_30 fl_X12_7 sm_0 rfl <|
z_iconst X dX12_look_33 <|
z_iald X dX12_look_34 sm_1 kc_1 o fun v38 r39 o =>
z_iret X Y dX12_look_35 o r39) fun o =>
z_aload_n X 0 dX12_look_19 rfl <|
z_getI X dX12_look_20 fl_X12_199 sm_0 rfl o fun v40 r41 o =>
z_iret X Y dX12_look_23 o r41) fun o =>
z_aload_n X 0 dX12_look_9 rfl <|
z_getI X dX12_look_10 fl_X12_196 sm_0 rfl o fun v42 r43 o =>
z_iret X Y dX12_look_13 o r43 : At E s0 0 [(0, .ref (G.2.2.1 0)), (1, .int (pI p1))] [])
set_option maxHeartbeats 4000000 in
set_option maxRecDepth 100000 in
theorem ct_X12_settledWays   (G : Gw) (s0 : St) (r : Int) (σ1 : St) (e : fX12_settledWays s0 = some (r, σ1)) : Ct yX12_settledWays cX12_settledWays 3 (some .int) 1 26 SM G [.ref (G.2.2.1 0)] s0 (QI SM G r rg σ1) :=
  Ct.of (by decide +kernel) (Nat.le_of_ble_eq_true rfl) fun E X Y => by
    have o : Ok (fX12_settledWays s0) (fun x σ' => x = r ∧ σ' = σ1) := ⟨r, σ1, e, rfl, rfl⟩
    unfold fX12_settledWays at o
    exact (
z_iconst X dX12_settledWays_0 <|
z_istore_n (L1 := [(1, .int (pI 0)), (0, .ref (G.2.2.1 0))]) X dX12_settledWays_1 rfl (by decide) rfl <|
z_join o (fun (y5 : Unit) s6 => True → At E s6 20 [(0, .ref (G.2.2.1 0))] []) (fun y5 s6 o r7 =>
z_iconst X dX12_settledWays_20 <|
z_istore_n (L1 := [(1, .int (pI 0)), (0, .ref (G.2.2.1 0))]) X dX12_settledWays_21 rfl (by decide) rfl <|
z_iconst X dX12_settledWays_22 <|
z_istore_n (L1 := [(2, .int (pI 1)), (1, .int (pI 0)), (0, .ref (G.2.2.1 0))]) X dX12_settledWays_23 rfl (by decide) rfl <|
z_join o (fun (y22 : Int) s23 => rg y22 → At E s23 48 [(1, .int (pI y22))] []) (fun y22 s23 o r24 =>
z_iload_n X 0 dX12_settledWays_48 rfl <|
z_iret X Y dX12_settledWays_49 o r24) fun o =>
z_sub (L1 := [(0, .ref (G.2.2.1 0)), (1, .int (pI 0)), (2, .int (pI 1))]) X [2, 1, 0] rfl <|
z_iter (fun (x8 : Int × Int) s9 => rg x8.1 ∧ r01 x8.2 → At E s9 24 [(0, .ref (G.2.2.1 0)), (1, .int (pI x8.1)), (2, .int (pI x8.2))] []) o (fun x8 s9 o r10 =>
z_iload_n X 2 dX12_settledWays_24 rfl <|
z_if_eq (tgt := 48) X dX12_settledWays_25 (by decide) (r01_rg r10.2) o (fun o =>
z_sub (L1 := [(1, .int (pI x8.1))]) X [1] rfl <|
ok_some o r10.1) fun o =>
z_aload_n X 0 dX12_settledWays_28 rfl <|
z_callvI X dX12_settledWays_29 q_2177 wX12_isSettled sm_0 rfl (by decide) [] [] rfl rfl (Nat.le_of_ble_eq_true rfl) (fun r σ1 e => ct_X12_isSettled G _ r σ1 e) o fun r11 s12 h13 o =>
z_join o (fun (y16 : Int) s17 => rg y16 → At E s17 39 [(0, .ref (G.2.2.1 0)), (1, .int (pI y16))] []) (fun y16 s17 o r18 =>
z_aload_n X 0 dX12_settledWays_39 rfl <|
z_iconst X dX12_settledWays_40 <|
z_callvI X dX12_settledWays_41 q_2181 wX12_goesToNextOrder sm_0 rfl (by decide) [.int (pI 5)] [] rfl rfl (Nat.le_of_ble_eq_true rfl) (fun r σ1 e => ct_X12_goesToNextOrder 5 kc_5 G _ r σ1 e) o fun r19 s20 h21 o =>
z_istore_n (L1 := [(2, .int (pI r19)), (0, .ref (G.2.2.1 0)), (1, .int (pI y16))]) X dX12_settledWays_44 rfl (by decide) rfl <|
z_goto (tgt := 24) X dX12_settledWays_45 (by decide) <|
z_sub (L1 := [(0, .ref (G.2.2.1 0)), (1, .int (pI y16)), (2, .int (pI r19))]) X [1, 2, 0] rfl <|
ok_some o ⟨r18, h21⟩) fun o =>
z_if_eq (tgt := 39) X dX12_settledWays_32 (by decide) (r01_rg h13) o (fun o =>
z_sub (L1 := [(0, .ref (G.2.2.1 0)), (1, .int (pI x8.1))]) X [0, 1] rfl <|
ok_some o r10.1) fun o =>
z_iload_n X 1 dX12_settledWays_35 rfl <|
z_iconst X dX12_settledWays_36 <|
z_iadd X dX12_settledWays_37 <|
z_istoreL_n (L1 := fun v14 => [(1, .int (pI v14)), (0, .ref (G.2.2.1 0)), (2, .int (pI x8.2))]) (R := rg) X dX12_settledWays_38 rfl (by decide) (fun _ => rfl) o (w32_rg _) fun v14 r15 o =>
z_sub (L1 := [(0, .ref (G.2.2.1 0)), (1, .int (pI v14))]) X [1, 0] rfl <|
ok_some o r15) ⟨kc_0, kb_1⟩) fun o =>
z_sub (L1 := [(0, .ref (G.2.2.1 0)), (1, .int (pI 0))]) X [1, 0] rfl <|
z_iter (fun (x1 : Int) s2 => rg x1 → At E s2 2 [(0, .ref (G.2.2.1 0)), (1, .int (pI x1))] []) o (fun x1 s2 o r3 =>
z_iload_n X 1 dX12_settledWays_2 rfl <|
z_iconst X dX12_settledWays_3 <|
z_icmp_ge (tgt := 20) X dX12_settledWays_4 (by decide) r3 kc_5 o (fun o =>
z_sub (L1 := [(0, .ref (G.2.2.1 0))]) X [0] rfl <|
ok_some o trivial) fun o =>
z_aload_n X 0 dX12_settledWays_7 rfl <|
z_getR (q := 28) X dX12_settledWays_8 fl_X12_95 sm_0 rfl <|
z_iload_n X 1 dX12_settledWays_11 rfl <|
z_iload_n X 1 dX12_settledWays_12 rfl <|
z_iast X dX12_settledWays_13 sm_28 r3 r3 o fun s4 o =>
z_iinc (L1 := [(1, .int (pI (w32 (x1 + 1)))), (0, .ref (G.2.2.1 0))]) X 1 dX12_settledWays_14 rfl (by decide) rfl <|
z_goto (tgt := 2) X dX12_settledWays_17 (by decide) <|
z_sub (L1 := [(0, .ref (G.2.2.1 0)), (1, .int (pI (w32 (x1 + 1))))]) X [1, 0] rfl <|
ok_some o (w32_rg _)) kc_0 : At E s0 0 [(0, .ref (G.2.2.1 0))] [])
set_option maxHeartbeats 4000000 in
set_option maxRecDepth 100000 in
theorem ct_X12_matched (p1 : Int) (p2 : Int) (p3 : Int) (hp1 : rg p1) (hp2 : rg p2) (hp3 : rg p3) (G : Gw) (s0 : St) (r : Int) (σ1 : St) (e : fX12_matched p1 p2 p3 s0 = some (r, σ1)) : Ct yX12_matched cX12_matched 5 (some .int) 2 48 SM G [.ref (G.2.2.1 0), .int (pI p1), .int (pI p2), .int (pI p3)] s0 (QI SM G r rg σ1) :=
  Ct.of (by decide +kernel) (Nat.le_of_ble_eq_true rfl) fun E X Y => by
    have o : Ok (fX12_matched p1 p2 p3 s0) (fun x σ' => x = r ∧ σ' = σ1) := ⟨r, σ1, e, rfl, rfl⟩
    unfold fX12_matched at o
    exact (
z_aload_n X 0 dX12_matched_0 rfl <|
z_iconst X dX12_matched_1 <|
z_putI X dX12_matched_2 fl_X12_183 sm_0 ft_X12_0 rfl kc_0 o fun s1 o =>
z_aload_n X 0 dX12_matched_5 rfl <|
z_callvV X dX12_matched_6 q_2169 wX12_findsWishes sm_0 rfl (by decide) [] [] rfl rfl (Nat.le_of_ble_eq_true rfl) (fun r σ1 e => ct_X12_findsWishes G _ r σ1 e) o fun r2 s3 o =>
z_iload_n X 1 dX12_matched_9 rfl <|
z_iconst X dX12_matched_10 <|
z_icmp_ne (tgt := 19) X dX12_matched_11 (by decide) hp1 kc_m1 o (fun o =>
z_aload_n X 0 dX12_matched_19 rfl <|
z_iload_n X 1 dX12_matched_20 rfl <|
z_iconst X dX12_matched_21 <|
z_iconst X dX12_matched_22 <|
z_callvI X dX12_matched_23 q_1822 wX12_isIn sm_0 rfl (by decide) [.int (pI p1), .int (pI 0), .int (pI 1)] [] rfl rfl (Nat.le_of_ble_eq_true rfl) (fun r σ1 e => ct_X12_isIn p1 0 1 hp1 kc_0 kc_1 G _ r σ1 e) o fun r5 s6 h7 o =>
z_if_eq (tgt := 49) X dX12_matched_26 (by decide) (r01_rg h7) o (fun o =>
z_iconst X dX12_matched_49 <|
z_iret X Y dX12_matched_50 o kc_m1) fun o =>
z_aload_n X 0 dX12_matched_29 rfl <|
z_iload_n X 2 dX12_matched_30 rfl <|
z_iconst X dX12_matched_31 <|
z_iconst X dX12_matched_32 <|
z_callvI X dX12_matched_33 q_1822 wX12_isIn sm_0 rfl (by decide) [.int (pI p2), .int (pI 0), .int (pI 4)] [] rfl rfl (Nat.le_of_ble_eq_true rfl) (fun r σ1 e => ct_X12_isIn p2 0 4 hp2 kc_0 kc_4 G _ r σ1 e) o fun r8 s9 h10 o =>
z_if_eq (tgt := 49) X dX12_matched_36 (by decide) (r01_rg h10) o (fun o =>
z_iconst X dX12_matched_49 <|
z_iret X Y dX12_matched_50 o kc_m1) fun o =>
z_aload_n X 0 dX12_matched_39 rfl <|
z_iload_n X 3 dX12_matched_40 rfl <|
z_iconst X dX12_matched_41 <|
z_iconst X dX12_matched_42 <|
z_callvI X dX12_matched_43 q_1822 wX12_isIn sm_0 rfl (by decide) [.int (pI p3), .int (pI 0), .int (pI 1)] [] rfl rfl (Nat.le_of_ble_eq_true rfl) (fun r σ1 e => ct_X12_isIn p3 0 1 hp3 kc_0 kc_1 G _ r σ1 e) o fun r11 s12 h13 o =>
z_if_ne (tgt := 51) X dX12_matched_46 (by decide) (r01_rg h13) o (fun o =>
z_aload_n X 0 dX12_matched_51 rfl <|
z_iload_n X 3 dX12_matched_52 rfl <|
z_callvV X dX12_matched_53 q_2185 wX12_engages sm_0 rfl (by decide) [.int (pI p3)] [] rfl rfl (Nat.le_of_ble_eq_true rfl) (fun r σ1 e => ct_X12_engages p3 hp3 G _ r σ1 e) o fun r14 s15 o =>
z_iload_n X 1 dX12_matched_56 rfl <|
z_iload_n X 3 dX12_matched_57 rfl <|
z_icmp_eq (tgt := 68) X dX12_matched_58 (by decide) hp1 hp3 o (fun o =>
z_iconst X dX12_matched_68 <|
z_istore (L1 := [(4, .int (pI 0)), (0, .ref (G.2.2.1 0)), (1, .int (pI p1)), (2, .int (pI p2)), (3, .int (pI p3))]) X dX12_matched_69 (by decide) rfl <|
z_joix o (fun (y22 : Int) s23 => rg y22 → At E s23 88 [(4, .int (pI y22))] []) (fun y22 s23 o r24 =>
z_iload X 0 dX12_matched_88 rfl <|
z_iret X Y dX12_matched_90 o r24) fun o =>
z_sub (L1 := [(0, .ref (G.2.2.1 0)), (2, .int (pI p2)), (4, .int (pI 0))]) X [1, 3, 0] rfl <|
z_iter (fun (x17 : Int) s18 => rg x17 → At E s18 71 [(0, .ref (G.2.2.1 0)), (2, .int (pI p2)), (4, .int (pI x17))] []) o (fun x17 s18 o r19 =>
z_iload X 2 dX12_matched_71 rfl <|
z_iconst X dX12_matched_73 <|
z_icmp_ge (tgt := 97) X dX12_matched_74 (by decide) r19 kc_5 o (fun o =>
z_iconst X dX12_matched_97 <|
z_iret X Y dX12_matched_98 (ok_ret (ok_some o)) kc_m1) fun o =>
z_aload_n X 0 dX12_matched_77 rfl <|
z_getR (q := 26) X dX12_matched_78 fl_X12_89 sm_0 rfl <|
z_iload X 2 dX12_matched_81 rfl <|
z_iald X dX12_matched_83 sm_26 r19 o fun v20 r21 o =>
z_iload_n X 1 dX12_matched_84 rfl <|
z_icmp_ne (tgt := 91) X dX12_matched_85 (by decide) r21 hp2 o (fun o =>
z_iinc (L1 := [(4, .int (pI (w32 (x17 + 1)))), (0, .ref (G.2.2.1 0)), (2, .int (pI p2))]) X 2 dX12_matched_91 rfl (by decide) rfl <|
z_goto (tgt := 71) X dX12_matched_94 (by decide) <|
z_sub (L1 := [(0, .ref (G.2.2.1 0)), (2, .int (pI p2)), (4, .int (pI (w32 (x17 + 1))))]) X [1, 2, 0] rfl <|
ok_some o (w32_rg _)) fun o =>
z_sub (L1 := [(4, .int (pI x17))]) X [2] rfl <|
ok_some o r19) kc_0) fun o =>
z_aload_n X 0 dX12_matched_61 rfl <|
z_getR (q := 26) X dX12_matched_62 fl_X12_89 sm_0 rfl <|
z_iload_n X 2 dX12_matched_65 rfl <|
z_iald X dX12_matched_66 sm_26 hp2 o fun v25 r26 o =>
z_iret X Y dX12_matched_67 o r26) fun o =>
z_iconst X dX12_matched_49 <|
z_iret X Y dX12_matched_50 o kc_m1) fun o =>
z_aload_n X 0 dX12_matched_14 rfl <|
z_callvI X dX12_matched_15 q_2173 wX12_settledWays sm_0 rfl (by decide) [] [] rfl rfl (Nat.le_of_ble_eq_true rfl) (fun r σ1 e => ct_X12_settledWays G _ r σ1 e) o fun r27 s28 h29 o =>
z_iret X Y dX12_matched_18 o h29 : At E s0 0 [(0, .ref (G.2.2.1 0)), (1, .int (pI p1)), (2, .int (pI p2)), (3, .int (pI p3))] [])
