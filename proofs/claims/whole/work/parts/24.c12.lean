set_option maxHeartbeats 4000000 in
set_option maxRecDepth 100000 in
theorem ct_X12_minutes (p1 : Int) (hp1 : rg p1) (G : Gw) (s0 : St) (r : Int) (σ1 : St) (e : fX12_minutes p1 s0 = some (r, σ1)) : Ct yX12_minutes cX12_minutes 4 (some .int) 7 163 SM G [.ref (G.2.2.1 0), .int (pI p1)] s0 (QI SM G r rg σ1) :=
  Ct.of (by decide +kernel) (Nat.le_of_ble_eq_true rfl) fun E X Y => by
    have o : Ok (fX12_minutes p1 s0) (fun x σ' => x = r ∧ σ' = σ1) := ⟨r, σ1, e, rfl, rfl⟩
    unfold fX12_minutes at o
    exact (
z_aload_n X 0 dX12_minutes_0 rfl <|
z_iconst X dX12_minutes_1 <|
z_putI X dX12_minutes_2 fl_X12_183 sm_0 ft_X12_0 rfl kc_0 o fun s1 o =>
z_aload_n X 0 dX12_minutes_5 rfl <|
z_iload_n X 1 dX12_minutes_6 rfl <|
z_iconst X dX12_minutes_7 <|
z_bipush X dX12_minutes_8 bi_60 <|
z_callvI X dX12_minutes_10 q_1822 wX12_isIn sm_0 rfl (by decide) [.int (pI p1), .int (pI 1), .int (pI 60)] [] rfl rfl (Nat.le_of_ble_eq_true rfl) (fun r σ1 e => ct_X12_isIn p1 1 60 hp1 kc_1 kc_60 G _ r σ1 e) o fun r2 s3 h4 o =>
z_if_eq (tgt := 40) X dX12_minutes_13 (by decide) (r01_rg h4) o (fun o =>
z_iconst X dX12_minutes_40 <|
z_iret X Y dX12_minutes_41 o kc_m1) fun o =>
z_aload_n X 0 dX12_minutes_16 rfl <|
z_getR (q := 1) X dX12_minutes_17 fl_X12_7 sm_0 rfl <|
z_iconst X dX12_minutes_20 <|
z_iald X dX12_minutes_21 sm_1 kc_0 o fun v5 r6 o =>
z_aload_n X 0 dX12_minutes_22 rfl <|
z_getR (q := 1) X dX12_minutes_23 fl_X12_7 sm_0 rfl <|
z_iconst X dX12_minutes_26 <|
z_iald X dX12_minutes_27 sm_1 kc_1 o fun v7 r8 o =>
z_iload_n X 1 dX12_minutes_28 rfl <|
z_iadd X dX12_minutes_29 <|
z_bipush X dX12_minutes_30 bi_60 <|
z_idiv X dX12_minutes_32 (w32_rg _) kc_60 o fun z9 o =>
z_iadd X dX12_minutes_33 <|
z_sipush X dX12_minutes_34 si_9990 <|
z_icmp_le (tgt := 42) X dX12_minutes_37 (by decide) (w32_rg _) kc_9990 o (fun o =>
z_iconst X dX12_minutes_42 <|
z_istore_n (L1 := [(2, .int (pI 0)), (0, .ref (G.2.2.1 0)), (1, .int (pI p1))]) X dX12_minutes_43 rfl (by decide) rfl <|
z_iconst X dX12_minutes_44 <|
z_istore_n (L1 := [(3, .int (pI 0)), (2, .int (pI 0)), (0, .ref (G.2.2.1 0)), (1, .int (pI p1))]) X dX12_minutes_45 rfl (by decide) rfl <|
z_join o (fun (y21 : Int) s22 => rg y21 → At E s22 68 [(2, .int (pI y21))] []) (fun y21 s22 o r23 =>
z_iload_n X 0 dX12_minutes_68 rfl <|
z_iret X Y dX12_minutes_69 o r23) fun o =>
z_sub (L1 := [(0, .ref (G.2.2.1 0)), (1, .int (pI p1)), (2, .int (pI 0)), (3, .int (pI 0))]) X [2, 3, 1, 0] rfl <|
z_iter (fun (x10 : Int × Int) s11 => rg x10.1 ∧ rg x10.2 → At E s11 46 [(0, .ref (G.2.2.1 0)), (1, .int (pI p1)), (2, .int (pI x10.1)), (3, .int (pI x10.2))] []) o (fun x10 s11 o r12 =>
z_iload_n X 3 dX12_minutes_46 rfl <|
z_iload_n X 1 dX12_minutes_47 rfl <|
z_icmp_ge (tgt := 68) X dX12_minutes_48 (by decide) r12.2 hp1 o (fun o =>
z_sub (L1 := [(2, .int (pI x10.1))]) X [2] rfl <|
ok_some o r12.1) fun o =>
z_aload_n X 0 dX12_minutes_51 rfl <|
z_callvV X dX12_minutes_52 q_2026 wX12_keepsAhead sm_0 rfl (by decide) [] [] rfl rfl (Nat.le_of_ble_eq_true rfl) (fun r σ1 e => ct_X12_keepsAhead G _ r σ1 e) o fun r13 s14 o =>
z_iload_n X 2 dX12_minutes_55 rfl <|
z_aload_n X 0 dX12_minutes_56 rfl <|
z_callvI X dX12_minutes_57 q_2050 wX12_goesBy sm_0 rfl (by decide) [] [.int (pI x10.1)] rfl rfl (Nat.le_of_ble_eq_true rfl) (fun r σ1 e => ct_X12_goesBy G _ r σ1 e) o fun r16 s17 h18 o =>
z_iadd X dX12_minutes_60 <|
z_istoreL_n (L1 := fun v19 => [(2, .int (pI v19)), (0, .ref (G.2.2.1 0)), (1, .int (pI p1)), (3, .int (pI x10.2))]) (R := rg) X dX12_minutes_61 rfl (by decide) (fun _ => rfl) o (w32_rg _) fun v19 r20 o =>
z_iinc (L1 := [(3, .int (pI (w32 (x10.2 + 1)))), (2, .int (pI v19)), (0, .ref (G.2.2.1 0)), (1, .int (pI p1))]) X 3 dX12_minutes_62 rfl (by decide) rfl <|
z_goto (tgt := 46) X dX12_minutes_65 (by decide) <|
z_sub (L1 := [(0, .ref (G.2.2.1 0)), (1, .int (pI p1)), (2, .int (pI v19)), (3, .int (pI (w32 (x10.2 + 1))))]) X [2, 3, 1, 0] rfl <|
ok_some o ⟨r20, (w32_rg _)⟩) ⟨kc_0, kc_0⟩) fun o =>
z_iconst X dX12_minutes_40 <|
z_iret X Y dX12_minutes_41 o kc_m1 : At E s0 0 [(0, .ref (G.2.2.1 0)), (1, .int (pI p1))] [])
set_option maxHeartbeats 4000000 in
set_option maxRecDepth 100000 in
theorem ct_X12_of (p1 : Int) (p2 : Int) (hp1 : rg p1) (hp2 : rg p2) (G : Gw) (s0 : St) (r : Int) (σ1 : St) (e : fX12_of p1 p2 s0 = some (r, σ1)) : Ct yX12_of cX12_of 3 (some .int) 5 115 SM G [.ref (G.2.2.1 0), .int (pI p1), .int (pI p2)] s0 (QI SM G r rg σ1) :=
  Ct.of (by decide +kernel) (Nat.le_of_ble_eq_true rfl) fun E X Y => by
    have o : Ok (fX12_of p1 p2 s0) (fun x σ' => x = r ∧ σ' = σ1) := ⟨r, σ1, e, rfl, rfl⟩
    unfold fX12_of at o
    exact (
z_aload_n X 0 dX12_of_0 rfl <|
z_iconst X dX12_of_1 <|
z_putI X dX12_of_2 fl_X12_183 sm_0 ft_X12_0 rfl kc_0 o fun s1 o =>
z_aload_n X 0 dX12_of_5 rfl <|
z_iload_n X 1 dX12_of_6 rfl <|
z_callvI X dX12_of_7 q_1842 wX12_isPerson sm_0 rfl (by decide) [.int (pI p1)] [] rfl rfl (Nat.le_of_ble_eq_true rfl) (fun r σ1 e => ct_X12_isPerson p1 hp1 G _ r σ1 e) o fun r2 s3 h4 o =>
z_if_ne (tgt := 16) X dX12_of_10 (by decide) (r01_rg h4) o (fun o =>
z_iload_n X 2 dX12_of_16 rfl <|
z_if_ne (tgt := 27) X dX12_of_17 (by decide) hp2 o (fun o =>
z_iload_n X 2 dX12_of_27 rfl <|
z_iconst X dX12_of_28 <|
z_icmp_ne (tgt := 39) X dX12_of_29 (by decide) hp2 kc_1 o (fun o =>
z_iload_n X 2 dX12_of_39 rfl <|
z_iconst X dX12_of_40 <|
z_icmp_ne (tgt := 50) X dX12_of_41 (by decide) hp2 kc_2 o (fun o =>
z_iload_n X 2 dX12_of_50 rfl <|
z_iconst X dX12_of_51 <|
z_icmp_ne (tgt := 65) X dX12_of_52 (by decide) hp2 kc_3 o (fun o =>
z_iload_n X 2 dX12_of_65 rfl <|
z_iconst X dX12_of_66 <|
z_icmp_ne (tgt := 80) X dX12_of_67 (by decide) hp2 kc_4 o (fun o =>
z_iload_n X 2 dX12_of_80 rfl <|
z_iconst X dX12_of_81 <|
z_icmp_ne (tgt := 95) X dX12_of_82 (by decide) hp2 kc_5 o (fun o =>
z_iload_n X 2 dX12_of_95 rfl <|
z_bipush X dX12_of_96 bi_6 <|
z_icmp_ne (tgt := 114) X dX12_of_98 (by decide) hp2 kc_6 o (fun o =>
z_iload_n X 2 dX12_of_114 rfl <|
z_bipush X dX12_of_115 bi_7 <|
z_icmp_eq (tgt := 125) X dX12_of_117 (by decide) hp2 kc_7 o (fun o =>
z_aload_n X 0 dX12_of_125 rfl <|
z_iload_n X 1 dX12_of_126 rfl <|
z_callvI X dX12_of_127 q_2010 wX12_doesSit sm_0 rfl (by decide) [.int (pI p1)] [] rfl rfl (Nat.le_of_ble_eq_true rfl) (fun r σ1 e => ct_X12_doesSit p1 hp1 G _ r σ1 e) o fun r5 s6 h7 o =>
z_if_eq (tgt := 141) X dX12_of_130 (by decide) (r01_rg h7) o (fun o =>
z_iconst X dX12_of_141 <|
z_iret X Y dX12_of_142 o kc_m1) fun o =>
z_aload_n X 0 dX12_of_133 rfl <|
z_iload_n X 1 dX12_of_134 rfl <|
z_callvI X dX12_of_135 q_2062 wX12_speaksOf sm_0 rfl (by decide) [.int (pI p1)] [] rfl rfl (Nat.le_of_ble_eq_true rfl) (fun r σ1 e => ct_X12_speaksOf p1 hp1 G _ r σ1 e) o fun r8 s9 h10 o =>
z_goto (tgt := 142) X dX12_of_138 (by decide) <|
z_iret X Y dX12_of_142 o h10) fun o =>
z_bipush X dX12_of_120 bi_m2 <|
z_goto (tgt := 142) X dX12_of_122 (by decide) <|
z_iret X Y dX12_of_142 o kc_m2) fun o =>
z_aload_n X 0 dX12_of_101 rfl <|
z_getR (q := 1) X dX12_of_102 fl_X12_7 sm_0 rfl <|
z_sipush X dX12_of_105 si_141 <|
z_iload_n X 1 dX12_of_108 rfl <|
z_iadd X dX12_of_109 <|
z_iald X dX12_of_110 sm_1 (w32_rg _) o fun v11 r12 o =>
z_iconst X dX12_of_111 <|
z_isub X dX12_of_112 <|
z_iret X Y dX12_of_113 o (w32_rg _)) fun o =>
z_aload_n X 0 dX12_of_85 rfl <|
z_getR (q := 1) X dX12_of_86 fl_X12_7 sm_0 rfl <|
z_bipush X dX12_of_89 bi_121 <|
z_iload_n X 1 dX12_of_91 rfl <|
z_iadd X dX12_of_92 <|
z_iald X dX12_of_93 sm_1 (w32_rg _) o fun v13 r14 o =>
z_iret X Y dX12_of_94 o r14) fun o =>
z_aload_n X 0 dX12_of_70 rfl <|
z_getR (q := 1) X dX12_of_71 fl_X12_7 sm_0 rfl <|
z_bipush X dX12_of_74 bi_101 <|
z_iload_n X 1 dX12_of_76 rfl <|
z_iadd X dX12_of_77 <|
z_iald X dX12_of_78 sm_1 (w32_rg _) o fun v15 r16 o =>
z_iret X Y dX12_of_79 o r16) fun o =>
z_aload_n X 0 dX12_of_55 rfl <|
z_getR (q := 1) X dX12_of_56 fl_X12_7 sm_0 rfl <|
z_bipush X dX12_of_59 bi_61 <|
z_iload_n X 1 dX12_of_61 rfl <|
z_iadd X dX12_of_62 <|
z_iald X dX12_of_63 sm_1 (w32_rg _) o fun v17 r18 o =>
z_iret X Y dX12_of_64 o r18) fun o =>
z_aload_n X 0 dX12_of_44 rfl <|
z_iload_n X 1 dX12_of_45 rfl <|
z_callvI X dX12_of_46 q_2018 wX12_sitsOn sm_0 rfl (by decide) [.int (pI p1)] [] rfl rfl (Nat.le_of_ble_eq_true rfl) (fun r σ1 e => ct_X12_sitsOn p1 hp1 G _ r σ1 e) o fun r19 s20 h21 o =>
z_iret X Y dX12_of_49 o h21) fun o =>
z_aload_n X 0 dX12_of_32 rfl <|
z_getR (q := 6) X dX12_of_33 fl_X12_25 sm_0 rfl <|
z_iload_n X 1 dX12_of_36 rfl <|
z_iald X dX12_of_37 sm_6 hp1 o fun v22 r23 o =>
z_iret X Y dX12_of_38 o r23) fun o =>
z_aload_n X 0 dX12_of_20 rfl <|
z_getR (q := 5) X dX12_of_21 fl_X12_22 sm_0 rfl <|
z_iload_n X 1 dX12_of_24 rfl <|
z_iald X dX12_of_25 sm_5 hp1 o fun v24 r25 o =>
z_iret X Y dX12_of_26 o r25) fun o =>
z_bipush X dX12_of_13 bi_m2 <|
z_iret X Y dX12_of_15 o kc_m2 : At E s0 0 [(0, .ref (G.2.2.1 0)), (1, .int (pI p1)), (2, .int (pI p2))] [])
set_option maxHeartbeats 4000000 in
set_option maxRecDepth 100000 in
theorem ct_X12_person (p1 : Int) (p2 : Int) (hp1 : rg p1) (hp2 : rg p2) (G : Gw) (s0 : St) (r : Int) (σ1 : St) (e : fX12_person p1 p2 s0 = some (r, σ1)) : Ct yX12_person cX12_person 4 (some .int) 1 23 SM G [.ref (G.2.2.1 0), .int (pI p1), .int (pI p2)] s0 (QI SM G r rg σ1) :=
  Ct.of (by decide +kernel) (Nat.le_of_ble_eq_true rfl) fun E X Y => by
    have o : Ok (fX12_person p1 p2 s0) (fun x σ' => x = r ∧ σ' = σ1) := ⟨r, σ1, e, rfl, rfl⟩
    unfold fX12_person at o
    exact (
z_aload_n X 0 dX12_person_0 rfl <|
z_iconst X dX12_person_1 <|
z_putI X dX12_person_2 fl_X12_183 sm_0 ft_X12_0 rfl kc_0 o fun s1 o =>
z_aload_n X 0 dX12_person_5 rfl <|
z_iload_n X 1 dX12_person_6 rfl <|
z_iconst X dX12_person_7 <|
z_bipush X dX12_person_8 bi_9 <|
z_callvI X dX12_person_10 q_1822 wX12_isIn sm_0 rfl (by decide) [.int (pI p1), .int (pI 0), .int (pI 9)] [] rfl rfl (Nat.le_of_ble_eq_true rfl) (fun r σ1 e => ct_X12_isIn p1 0 9 hp1 kc_0 kc_9 G _ r σ1 e) o fun r2 s3 h4 o =>
z_if_eq (tgt := 36) X dX12_person_13 (by decide) (r01_rg h4) o (fun o =>
z_iconst X dX12_person_36 <|
z_iret X Y dX12_person_37 o kc_m1) fun o =>
z_aload_n X 0 dX12_person_16 rfl <|
z_iload_n X 2 dX12_person_17 rfl <|
z_iconst X dX12_person_18 <|
z_bipush X dX12_person_19 bi_9 <|
z_callvI X dX12_person_21 q_1822 wX12_isIn sm_0 rfl (by decide) [.int (pI p2), .int (pI 0), .int (pI 9)] [] rfl rfl (Nat.le_of_ble_eq_true rfl) (fun r σ1 e => ct_X12_isIn p2 0 9 hp2 kc_0 kc_9 G _ r σ1 e) o fun r5 s6 h7 o =>
z_if_eq (tgt := 36) X dX12_person_24 (by decide) (r01_rg h7) o (fun o =>
z_iconst X dX12_person_36 <|
z_iret X Y dX12_person_37 o kc_m1) fun o =>
z_aload_n X 0 dX12_person_27 rfl <|
z_getI X dX12_person_28 fl_X12_199 sm_0 rfl o fun v8 r9 o =>
z_bipush X dX12_person_31 bi_20 <|
z_icmp_ne (tgt := 38) X dX12_person_33 (by decide) r9 kc_20 o (fun o =>
z_aload_n X 0 dX12_person_38 rfl <|
z_getR (q := 5) X dX12_person_39 fl_X12_22 sm_0 rfl <|
z_aload_n X 0 dX12_person_42 rfl <|
z_getI X dX12_person_43 fl_X12_199 sm_0 rfl o fun v10 r11 o =>
z_iload_n X 1 dX12_person_46 rfl <|
z_iast X dX12_person_47 sm_5 r11 hp1 o fun s12 o =>
z_aload_n X 0 dX12_person_48 rfl <|
z_getR (q := 6) X dX12_person_49 fl_X12_25 sm_0 rfl <|
z_aload_n X 0 dX12_person_52 rfl <|
z_getI X dX12_person_53 fl_X12_199 sm_0 rfl o fun v13 r14 o =>
z_iload_n X 2 dX12_person_56 rfl <|
z_iast X dX12_person_57 sm_6 r14 hp2 o fun s15 o =>
z_bipush X dX12_person_58 bi_41 <|
z_istore_n (L1 := [(3, .int (pI 41)), (0, .ref (G.2.2.1 0)), (1, .int (pI p1)), (2, .int (pI p2))]) X dX12_person_60 rfl (by decide) rfl <|
z_join o (fun (y24 : Unit) s25 => True → At E s25 88 [(0, .ref (G.2.2.1 0))] []) (fun y24 s25 o r26 =>
z_aload_n X 0 dX12_person_88 rfl <|
z_aload_n X 0 dX12_person_89 rfl <|
z_getI X dX12_person_90 fl_X12_199 sm_0 rfl o fun v27 r28 o =>
z_iconst X dX12_person_93 <|
z_iadd X dX12_person_94 <|
z_putI X dX12_person_95 fl_X12_199 sm_0 ft_X12_7 rfl (w32_rg _) o fun s29 o =>
z_aload_n X 0 dX12_person_98 rfl <|
z_iconst X dX12_person_99 <|
z_putI X dX12_person_100 fl_X12_187 sm_0 ft_X12_3 rfl kc_0 o fun s30 o =>
z_aload_n X 0 dX12_person_103 rfl <|
z_getI X dX12_person_104 fl_X12_199 sm_0 rfl o fun v31 r32 o =>
z_iconst X dX12_person_107 <|
z_isub X dX12_person_108 <|
z_iret X Y dX12_person_109 o (w32_rg _)) fun o =>
z_sub (L1 := [(0, .ref (G.2.2.1 0)), (3, .int (pI 41))]) X [1, 0] rfl <|
z_iter (fun (x16 : Int) s17 => rg x16 → At E s17 61 [(0, .ref (G.2.2.1 0)), (3, .int (pI x16))] []) o (fun x16 s17 o r18 =>
z_iload_n X 1 dX12_person_61 rfl <|
z_sipush X dX12_person_62 si_161 <|
z_icmp_ge (tgt := 88) X dX12_person_65 (by decide) r18 kc_161 o (fun o =>
z_sub (L1 := [(0, .ref (G.2.2.1 0))]) X [0] rfl <|
ok_some o trivial) fun o =>
z_aload_n X 0 dX12_person_68 rfl <|
z_getR (q := 1) X dX12_person_69 fl_X12_7 sm_0 rfl <|
z_iload_n X 1 dX12_person_72 rfl <|
z_aload_n X 0 dX12_person_73 rfl <|
z_getI X dX12_person_74 fl_X12_199 sm_0 rfl o fun v19 r20 o =>
z_iadd X dX12_person_77 <|
z_iconst X dX12_person_78 <|
z_iast X dX12_person_79 sm_1 (w32_rg _) kc_0 o fun s21 o =>
z_iload_n X 1 dX12_person_80 rfl <|
z_bipush X dX12_person_81 bi_20 <|
z_iadd X dX12_person_83 <|
z_istoreL_n (L1 := fun v22 => [(3, .int (pI v22)), (0, .ref (G.2.2.1 0))]) (R := rg) X dX12_person_84 rfl (by decide) (fun _ => rfl) o (w32_rg _) fun v22 r23 o =>
z_goto (tgt := 61) X dX12_person_85 (by decide) <|
z_sub (L1 := [(0, .ref (G.2.2.1 0)), (3, .int (pI v22))]) X [1, 0] rfl <|
ok_some o r23) kc_41) fun o =>
z_iconst X dX12_person_36 <|
z_iret X Y dX12_person_37 o kc_m1 : At E s0 0 [(0, .ref (G.2.2.1 0)), (1, .int (pI p1)), (2, .int (pI p2))] [])
set_option maxHeartbeats 4000000 in
set_option maxRecDepth 100000 in
theorem ct_X12_porch (p1 : Int) (p2 : Int) (hp1 : rg p1) (hp2 : rg p2) (G : Gw) (s0 : St) (r : Int) (σ1 : St) (e : fX12_porch p1 p2 s0 = some (r, σ1)) : Ct yX12_porch cX12_porch 3 (some .int) 1 23 SM G [.ref (G.2.2.1 0), .int (pI p1), .int (pI p2)] s0 (QI SM G r rg σ1) :=
  Ct.of (by decide +kernel) (Nat.le_of_ble_eq_true rfl) fun E X Y => by
    have o : Ok (fX12_porch p1 p2 s0) (fun x σ' => x = r ∧ σ' = σ1) := ⟨r, σ1, e, rfl, rfl⟩
    unfold fX12_porch at o
    exact (
z_aload_n X 0 dX12_porch_0 rfl <|
z_iconst X dX12_porch_1 <|
z_putI X dX12_porch_2 fl_X12_183 sm_0 ft_X12_0 rfl kc_0 o fun s1 o =>
z_aload_n X 0 dX12_porch_5 rfl <|
z_iload_n X 1 dX12_porch_6 rfl <|
z_iconst X dX12_porch_7 <|
z_bipush X dX12_porch_8 bi_6 <|
z_callvI X dX12_porch_10 q_1822 wX12_isIn sm_0 rfl (by decide) [.int (pI p1), .int (pI 1), .int (pI 6)] [] rfl rfl (Nat.le_of_ble_eq_true rfl) (fun r σ1 e => ct_X12_isIn p1 1 6 hp1 kc_1 kc_6 G _ r σ1 e) o fun r2 s3 h4 o =>
z_if_eq (tgt := 36) X dX12_porch_13 (by decide) (r01_rg h4) o (fun o =>
z_iconst X dX12_porch_36 <|
z_iret X Y dX12_porch_37 o kc_m1) fun o =>
z_aload_n X 0 dX12_porch_16 rfl <|
z_iload_n X 2 dX12_porch_17 rfl <|
z_iconst X dX12_porch_18 <|
z_bipush X dX12_porch_19 bi_99 <|
z_callvI X dX12_porch_21 q_1822 wX12_isIn sm_0 rfl (by decide) [.int (pI p2), .int (pI 0), .int (pI 99)] [] rfl rfl (Nat.le_of_ble_eq_true rfl) (fun r σ1 e => ct_X12_isIn p2 0 99 hp2 kc_0 kc_99 G _ r σ1 e) o fun r5 s6 h7 o =>
z_if_eq (tgt := 36) X dX12_porch_24 (by decide) (r01_rg h7) o (fun o =>
z_iconst X dX12_porch_36 <|
z_iret X Y dX12_porch_37 o kc_m1) fun o =>
z_aload_n X 0 dX12_porch_27 rfl <|
z_getI X dX12_porch_28 fl_X12_196 sm_0 rfl o fun v8 r9 o =>
z_bipush X dX12_porch_31 bi_12 <|
z_icmp_ne (tgt := 38) X dX12_porch_33 (by decide) r9 kc_12 o (fun o =>
z_aload_n X 0 dX12_porch_38 rfl <|
z_getR (q := 4) X dX12_porch_39 fl_X12_19 sm_0 rfl <|
z_aload_n X 0 dX12_porch_42 rfl <|
z_getI X dX12_porch_43 fl_X12_196 sm_0 rfl o fun v10 r11 o =>
z_iload_n X 1 dX12_porch_46 rfl <|
z_iast X dX12_porch_47 sm_4 r11 hp1 o fun s12 o =>
z_aload_n X 0 dX12_porch_48 rfl <|
z_getR (q := 1) X dX12_porch_49 fl_X12_7 sm_0 rfl <|
z_iconst X dX12_porch_52 <|
z_aload_n X 0 dX12_porch_53 rfl <|
z_getI X dX12_porch_54 fl_X12_196 sm_0 rfl o fun v13 r14 o =>
z_iadd X dX12_porch_57 <|
z_iload_n X 2 dX12_porch_58 rfl <|
z_iast X dX12_porch_59 sm_1 (w32_rg _) hp2 o fun s15 o =>
z_aload_n X 0 dX12_porch_60 rfl <|
z_getR (q := 1) X dX12_porch_61 fl_X12_7 sm_0 rfl <|
z_bipush X dX12_porch_64 bi_17 <|
z_aload_n X 0 dX12_porch_66 rfl <|
z_getI X dX12_porch_67 fl_X12_196 sm_0 rfl o fun v16 r17 o =>
z_iadd X dX12_porch_70 <|
z_iconst X dX12_porch_71 <|
z_iast X dX12_porch_72 sm_1 (w32_rg _) kc_0 o fun s18 o =>
z_aload_n X 0 dX12_porch_73 rfl <|
z_getR (q := 1) X dX12_porch_74 fl_X12_7 sm_0 rfl <|
z_bipush X dX12_porch_77 bi_29 <|
z_aload_n X 0 dX12_porch_79 rfl <|
z_getI X dX12_porch_80 fl_X12_196 sm_0 rfl o fun v19 r20 o =>
z_iadd X dX12_porch_83 <|
z_iconst X dX12_porch_84 <|
z_iast X dX12_porch_85 sm_1 (w32_rg _) kc_0 o fun s21 o =>
z_aload_n X 0 dX12_porch_86 rfl <|
z_aload_n X 0 dX12_porch_87 rfl <|
z_getI X dX12_porch_88 fl_X12_196 sm_0 rfl o fun v22 r23 o =>
z_iconst X dX12_porch_91 <|
z_iadd X dX12_porch_92 <|
z_putI X dX12_porch_93 fl_X12_196 sm_0 ft_X12_6 rfl (w32_rg _) o fun s24 o =>
z_aload_n X 0 dX12_porch_96 rfl <|
z_iconst X dX12_porch_97 <|
z_putI X dX12_porch_98 fl_X12_187 sm_0 ft_X12_3 rfl kc_0 o fun s25 o =>
z_aload_n X 0 dX12_porch_101 rfl <|
z_getI X dX12_porch_102 fl_X12_196 sm_0 rfl o fun v26 r27 o =>
z_iconst X dX12_porch_105 <|
z_isub X dX12_porch_106 <|
z_iret X Y dX12_porch_107 o (w32_rg _)) fun o =>
z_iconst X dX12_porch_36 <|
z_iret X Y dX12_porch_37 o kc_m1 : At E s0 0 [(0, .ref (G.2.2.1 0)), (1, .int (pI p1)), (2, .int (pI p2))] [])
set_option maxHeartbeats 4000000 in
set_option maxRecDepth 100000 in
theorem ct_X12_porchOf (p1 : Int) (p2 : Int) (hp1 : rg p1) (hp2 : rg p2) (G : Gw) (s0 : St) (r : Int) (σ1 : St) (e : fX12_porchOf p1 p2 s0 = some (r, σ1)) : Ct yX12_porchOf cX12_porchOf 4 (some .int) 5 115 SM G [.ref (G.2.2.1 0), .int (pI p1), .int (pI p2)] s0 (QI SM G r rg σ1) :=
  Ct.of (by decide +kernel) (Nat.le_of_ble_eq_true rfl) fun E X Y => by
    have o : Ok (fX12_porchOf p1 p2 s0) (fun x σ' => x = r ∧ σ' = σ1) := ⟨r, σ1, e, rfl, rfl⟩
    unfold fX12_porchOf at o
    exact (
z_aload_n X 0 dX12_porchOf_0 rfl <|
z_iconst X dX12_porchOf_1 <|
z_putI X dX12_porchOf_2 fl_X12_183 sm_0 ft_X12_0 rfl kc_0 o fun s1 o =>
z_aload_n X 0 dX12_porchOf_5 rfl <|
z_iload_n X 1 dX12_porchOf_6 rfl <|
z_callvI X dX12_porchOf_7 q_1838 wX12_isPorch sm_0 rfl (by decide) [.int (pI p1)] [] rfl rfl (Nat.le_of_ble_eq_true rfl) (fun r σ1 e => ct_X12_isPorch p1 hp1 G _ r σ1 e) o fun r2 s3 h4 o =>
z_if_ne (tgt := 16) X dX12_porchOf_10 (by decide) (r01_rg h4) o (fun o =>
z_iload_n X 2 dX12_porchOf_16 rfl <|
z_if_ne (tgt := 27) X dX12_porchOf_17 (by decide) hp2 o (fun o =>
z_iload_n X 2 dX12_porchOf_27 rfl <|
z_iconst X dX12_porchOf_28 <|
z_icmp_ne (tgt := 41) X dX12_porchOf_29 (by decide) hp2 kc_1 o (fun o =>
z_iload_n X 2 dX12_porchOf_41 rfl <|
z_iconst X dX12_porchOf_42 <|
z_icmp_ne (tgt := 56) X dX12_porchOf_43 (by decide) hp2 kc_2 o (fun o =>
z_iload_n X 2 dX12_porchOf_56 rfl <|
z_iconst X dX12_porchOf_57 <|
z_icmp_ne (tgt := 73) X dX12_porchOf_58 (by decide) hp2 kc_3 o (fun o =>
z_iload_n X 2 dX12_porchOf_73 rfl <|
z_iconst X dX12_porchOf_74 <|
z_icmp_ne (tgt := 84) X dX12_porchOf_75 (by decide) hp2 kc_4 o (fun o =>
z_iload_n X 2 dX12_porchOf_84 rfl <|
z_iconst X dX12_porchOf_85 <|
z_icmp_ne (tgt := 95) X dX12_porchOf_86 (by decide) hp2 kc_5 o (fun o =>
z_aload_n X 0 dX12_porchOf_95 rfl <|
z_iload_n X 2 dX12_porchOf_96 rfl <|
z_bipush X dX12_porchOf_97 bi_10 <|
z_bipush X dX12_porchOf_99 bi_9 <|
z_aload_n X 0 dX12_porchOf_101 rfl <|
z_getI X dX12_porchOf_102 fl_X12_196 sm_0 rfl o fun v5 r6 o =>
z_iadd X dX12_porchOf_105 <|
z_callvI X dX12_porchOf_106 q_1822 wX12_isIn sm_0 rfl (by decide) [.int (pI p2), .int (pI 10), .int (pI (w32 (9 + v5)))] [] rfl rfl (Nat.le_of_ble_eq_true rfl) (fun r σ1 e => ct_X12_isIn p2 10 (w32 (9 + v5)) hp2 kc_10 (w32_rg _) G _ r σ1 e) o fun r7 s8 h9 o =>
z_if_ne (tgt := 115) X dX12_porchOf_109 (by decide) (r01_rg h9) o (fun o =>
z_aload_n X 0 dX12_porchOf_115 rfl <|
z_getR (q := 20) X dX12_porchOf_116 fl_X12_71 sm_0 rfl <|
z_bipush X dX12_porchOf_119 bi_12 <|
z_iload_n X 1 dX12_porchOf_121 rfl <|
z_imul X dX12_porchOf_122 <|
z_iload_n X 2 dX12_porchOf_123 rfl <|
z_iadd X dX12_porchOf_124 <|
z_bipush X dX12_porchOf_125 bi_10 <|
z_isub X dX12_porchOf_127 <|
z_iald X dX12_porchOf_128 sm_20 (w32_rg _) o fun v10 r11 o =>
z_istore_n (L1 := [(3, .int (pI v10)), (0, .ref (G.2.2.1 0)), (1, .int (pI p1)), (2, .int (pI p2))]) X dX12_porchOf_129 rfl (by decide) rfl <|
z_iload_n X 0 dX12_porchOf_130 rfl <|
z_if_ne (tgt := 138) X dX12_porchOf_131 (by decide) r11 o (fun o =>
z_iload_n X 0 dX12_porchOf_138 rfl <|
z_iret X Y dX12_porchOf_139 o r11) fun o =>
z_iconst X dX12_porchOf_134 <|
z_goto (tgt := 139) X dX12_porchOf_135 (by decide) <|
z_iret X Y dX12_porchOf_139 o kc_m1) fun o =>
z_bipush X dX12_porchOf_112 bi_m2 <|
z_iret X Y dX12_porchOf_114 o kc_m2) fun o =>
z_aload_n X 0 dX12_porchOf_89 rfl <|
z_iload_n X 1 dX12_porchOf_90 rfl <|
z_callvI X dX12_porchOf_91 q_2116 wX12_spinsOf sm_0 rfl (by decide) [.int (pI p1)] [] rfl rfl (Nat.le_of_ble_eq_true rfl) (fun r σ1 e => ct_X12_spinsOf p1 hp1 G _ r σ1 e) o fun r12 s13 h14 o =>
z_iret X Y dX12_porchOf_94 o h14) fun o =>
z_aload_n X 0 dX12_porchOf_78 rfl <|
z_iload_n X 1 dX12_porchOf_79 rfl <|
z_callvI X dX12_porchOf_80 q_2014 wX12_sittersOn sm_0 rfl (by decide) [.int (pI p1)] [] rfl rfl (Nat.le_of_ble_eq_true rfl) (fun r σ1 e => ct_X12_sittersOn p1 hp1 G _ r σ1 e) o fun r15 s16 h17 o =>
z_iret X Y dX12_porchOf_83 o h17) fun o =>
z_aload_n X 0 dX12_porchOf_61 rfl <|
z_getR (q := 1) X dX12_porchOf_62 fl_X12_7 sm_0 rfl <|
z_bipush X dX12_porchOf_65 bi_29 <|
z_iload_n X 1 dX12_porchOf_67 rfl <|
z_iadd X dX12_porchOf_68 <|
z_iald X dX12_porchOf_69 sm_1 (w32_rg _) o fun v18 r19 o =>
z_iconst X dX12_porchOf_70 <|
z_isub X dX12_porchOf_71 <|
z_iret X Y dX12_porchOf_72 o (w32_rg _)) fun o =>
z_aload_n X 0 dX12_porchOf_46 rfl <|
z_getR (q := 1) X dX12_porchOf_47 fl_X12_7 sm_0 rfl <|
z_bipush X dX12_porchOf_50 bi_17 <|
z_iload_n X 1 dX12_porchOf_52 rfl <|
z_iadd X dX12_porchOf_53 <|
z_iald X dX12_porchOf_54 sm_1 (w32_rg _) o fun v20 r21 o =>
z_iret X Y dX12_porchOf_55 o r21) fun o =>
z_aload_n X 0 dX12_porchOf_32 rfl <|
z_getR (q := 1) X dX12_porchOf_33 fl_X12_7 sm_0 rfl <|
z_iconst X dX12_porchOf_36 <|
z_iload_n X 1 dX12_porchOf_37 rfl <|
z_iadd X dX12_porchOf_38 <|
z_iald X dX12_porchOf_39 sm_1 (w32_rg _) o fun v22 r23 o =>
z_iret X Y dX12_porchOf_40 o r23) fun o =>
z_aload_n X 0 dX12_porchOf_20 rfl <|
z_getR (q := 4) X dX12_porchOf_21 fl_X12_19 sm_0 rfl <|
z_iload_n X 1 dX12_porchOf_24 rfl <|
z_iald X dX12_porchOf_25 sm_4 hp1 o fun v24 r25 o =>
z_iret X Y dX12_porchOf_26 o r25) fun o =>
z_bipush X dX12_porchOf_13 bi_m2 <|
z_iret X Y dX12_porchOf_15 o kc_m2 : At E s0 0 [(0, .ref (G.2.2.1 0)), (1, .int (pI p1)), (2, .int (pI p2))] [])
set_option maxHeartbeats 4000000 in
set_option maxRecDepth 100000 in
theorem ct_X12_quarrel (p1 : Int) (p2 : Int) (hp1 : rg p1) (hp2 : rg p2) (G : Gw) (s0 : St) (r : Int) (σ1 : St) (e : fX12_quarrel p1 p2 s0 = some (r, σ1)) : Ct yX12_quarrel cX12_quarrel 4 (some .int) 1 23 SM G [.ref (G.2.2.1 0), .int (pI p1), .int (pI p2)] s0 (QI SM G r rg σ1) :=
  Ct.of (by decide +kernel) (Nat.le_of_ble_eq_true rfl) fun E X Y => by
    have o : Ok (fX12_quarrel p1 p2 s0) (fun x σ' => x = r ∧ σ' = σ1) := ⟨r, σ1, e, rfl, rfl⟩
    unfold fX12_quarrel at o
    exact (
z_aload_n X 0 dX12_quarrel_0 rfl <|
z_iconst X dX12_quarrel_1 <|
z_putI X dX12_quarrel_2 fl_X12_183 sm_0 ft_X12_0 rfl kc_0 o fun s1 o =>
z_iload_n X 1 dX12_quarrel_5 rfl <|
z_iconst X dX12_quarrel_6 <|
z_icmp_ne (tgt := 38) X dX12_quarrel_7 (by decide) hp1 kc_m1 o (fun o =>
z_aload_n X 0 dX12_quarrel_38 rfl <|
z_iload_n X 1 dX12_quarrel_39 rfl <|
z_iconst X dX12_quarrel_40 <|
z_bipush X dX12_quarrel_41 bi_7 <|
z_callvI X dX12_quarrel_43 q_1822 wX12_isIn sm_0 rfl (by decide) [.int (pI p1), .int (pI 0), .int (pI 7)] [] rfl rfl (Nat.le_of_ble_eq_true rfl) (fun r σ1 e => ct_X12_isIn p1 0 7 hp1 kc_0 kc_7 G _ r σ1 e) o fun r2 s3 h4 o =>
z_if_eq (tgt := 74) X dX12_quarrel_46 (by decide) (r01_rg h4) o (fun o =>
z_iconst X dX12_quarrel_74 <|
z_iret X Y dX12_quarrel_75 o kc_m1) fun o =>
z_aload_n X 0 dX12_quarrel_49 rfl <|
z_iload_n X 2 dX12_quarrel_50 rfl <|
z_iconst X dX12_quarrel_51 <|
z_bipush X dX12_quarrel_52 bi_7 <|
z_callvI X dX12_quarrel_54 q_1822 wX12_isIn sm_0 rfl (by decide) [.int (pI p2), .int (pI 0), .int (pI 7)] [] rfl rfl (Nat.le_of_ble_eq_true rfl) (fun r σ1 e => ct_X12_isIn p2 0 7 hp2 kc_0 kc_7 G _ r σ1 e) o fun r5 s6 h7 o =>
z_if_eq (tgt := 74) X dX12_quarrel_57 (by decide) (r01_rg h7) o (fun o =>
z_iconst X dX12_quarrel_74 <|
z_iret X Y dX12_quarrel_75 o kc_m1) fun o =>
z_iload_n X 1 dX12_quarrel_60 rfl <|
z_iload_n X 2 dX12_quarrel_61 rfl <|
z_icmp_eq (tgt := 74) X dX12_quarrel_62 (by decide) hp1 hp2 o (fun o =>
z_iconst X dX12_quarrel_74 <|
z_iret X Y dX12_quarrel_75 o kc_m1) fun o =>
z_aload_n X 0 dX12_quarrel_65 rfl <|
z_getI X dX12_quarrel_66 fl_X12_543 sm_0 rfl o fun v8 r9 o =>
z_bipush X dX12_quarrel_69 bi_8 <|
z_icmp_ne (tgt := 76) X dX12_quarrel_71 (by decide) r9 kc_8 o (fun o =>
z_aload_n X 0 dX12_quarrel_76 rfl <|
z_getR (q := 46) X dX12_quarrel_77 fl_X12_149 sm_0 rfl <|
z_iload_n X 1 dX12_quarrel_80 rfl <|
z_aload_n X 0 dX12_quarrel_81 rfl <|
z_getR (q := 46) X dX12_quarrel_82 fl_X12_149 sm_0 rfl <|
z_iload_n X 1 dX12_quarrel_85 rfl <|
z_iald X dX12_quarrel_86 sm_46 hp1 o fun v10 r11 o =>
z_iconst X dX12_quarrel_87 <|
z_iload_n X 2 dX12_quarrel_88 rfl <|
z_ishl X dX12_quarrel_89 <|
z_ior X dX12_quarrel_90 <|
z_iast X dX12_quarrel_91 sm_46 hp1 (int_rg _) o fun s12 o =>
z_aload_n X 0 dX12_quarrel_92 rfl <|
z_getR (q := 46) X dX12_quarrel_93 fl_X12_149 sm_0 rfl <|
z_iload_n X 2 dX12_quarrel_96 rfl <|
z_aload_n X 0 dX12_quarrel_97 rfl <|
z_getR (q := 46) X dX12_quarrel_98 fl_X12_149 sm_0 rfl <|
z_iload_n X 2 dX12_quarrel_101 rfl <|
z_iald X dX12_quarrel_102 sm_46 hp2 o fun v13 r14 o =>
z_iconst X dX12_quarrel_103 <|
z_iload_n X 1 dX12_quarrel_104 rfl <|
z_ishl X dX12_quarrel_105 <|
z_ior X dX12_quarrel_106 <|
z_iast X dX12_quarrel_107 sm_46 hp2 (int_rg _) o fun s15 o =>
z_aload_n X 0 dX12_quarrel_108 rfl <|
z_aload_n X 0 dX12_quarrel_109 rfl <|
z_getI X dX12_quarrel_110 fl_X12_543 sm_0 rfl o fun v16 r17 o =>
z_iconst X dX12_quarrel_113 <|
z_iadd X dX12_quarrel_114 <|
z_putI X dX12_quarrel_115 fl_X12_543 sm_0 ft_X12_72 rfl (w32_rg _) o fun s18 o =>
z_aload_n X 0 dX12_quarrel_118 rfl <|
z_getI X dX12_quarrel_119 fl_X12_543 sm_0 rfl o fun v19 r20 o =>
z_iret X Y dX12_quarrel_122 o r20) fun o =>
z_iconst X dX12_quarrel_74 <|
z_iret X Y dX12_quarrel_75 o kc_m1) fun o =>
z_aload_n X 0 dX12_quarrel_10 rfl <|
z_iconst X dX12_quarrel_11 <|
z_putI X dX12_quarrel_12 fl_X12_543 sm_0 ft_X12_72 rfl kc_0 o fun s21 o =>
z_iconst X dX12_quarrel_15 <|
z_istore_n (L1 := [(3, .int (pI 0)), (0, .ref (G.2.2.1 0)), (1, .int (pI p1)), (2, .int (pI p2))]) X dX12_quarrel_16 rfl (by decide) rfl <|
z_join o (fun (y26 : Unit) s27 => True → At E s27 36 [] []) (fun y26 s27 o r28 =>
z_iconst X dX12_quarrel_36 <|
z_iret X Y dX12_quarrel_37 o kc_0) fun o =>
z_sub (L1 := [(0, .ref (G.2.2.1 0)), (3, .int (pI 0))]) X [1, 0] rfl <|
z_iter (fun (x22 : Int) s23 => rg x22 → At E s23 17 [(0, .ref (G.2.2.1 0)), (3, .int (pI x22))] []) o (fun x22 s23 o r24 =>
z_iload_n X 1 dX12_quarrel_17 rfl <|
z_bipush X dX12_quarrel_18 bi_8 <|
z_icmp_ge (tgt := 36) X dX12_quarrel_20 (by decide) r24 kc_8 o (fun o =>
z_sub (L1 := []) X [] rfl <|
ok_some o trivial) fun o =>
z_aload_n X 0 dX12_quarrel_23 rfl <|
z_getR (q := 46) X dX12_quarrel_24 fl_X12_149 sm_0 rfl <|
z_iload_n X 1 dX12_quarrel_27 rfl <|
z_iconst X dX12_quarrel_28 <|
z_iast X dX12_quarrel_29 sm_46 r24 kc_0 o fun s25 o =>
z_iinc (L1 := [(3, .int (pI (w32 (x22 + 1)))), (0, .ref (G.2.2.1 0))]) X 1 dX12_quarrel_30 rfl (by decide) rfl <|
z_goto (tgt := 17) X dX12_quarrel_33 (by decide) <|
z_sub (L1 := [(0, .ref (G.2.2.1 0)), (3, .int (pI (w32 (x22 + 1))))]) X [1, 0] rfl <|
ok_some o (w32_rg _)) kc_0 : At E s0 0 [(0, .ref (G.2.2.1 0)), (1, .int (pI p1)), (2, .int (pI p2))] [])
set_option maxHeartbeats 4000000 in
set_option maxRecDepth 100000 in
theorem ct_X12_raw (p1 : Int) (hp1 : rg p1) (G : Gw) (s0 : St) (r : Int) (σ1 : St) (e : fX12_raw p1 s0 = some (r, σ1)) : Ct yX12_raw cX12_raw 2 (some .int) 0 0 SM G [.ref (G.2.2.1 0), .int (pI p1)] s0 (QI SM G r rg σ1) :=
  Ct.of (by decide +kernel) (Nat.le_of_ble_eq_true rfl) fun E X Y => by
    have o : Ok (fX12_raw p1 s0) (fun x σ' => x = r ∧ σ' = σ1) := ⟨r, σ1, e, rfl, rfl⟩
    unfold fX12_raw at o
    exact (
z_iload_n X 1 dX12_raw_0 rfl <|
z_aload_n X 0 dX12_raw_1 rfl <|
z_getI X dX12_raw_2 fl_X12_220 sm_0 rfl o fun v1 r2 o =>
z_icmp_ge (tgt := 17) X dX12_raw_5 (by decide) hp1 r2 o (fun o =>
z_iconst X dX12_raw_17 <|
z_iret X Y dX12_raw_18 o kc_m1) fun o =>
z_aload_n X 0 dX12_raw_8 rfl <|
z_getR (q := 8) X dX12_raw_9 fl_X12_31 sm_0 rfl <|
z_iload_n X 1 dX12_raw_12 rfl <|
z_iald X dX12_raw_13 sm_8 hp1 o fun v3 r4 o =>
z_goto (tgt := 18) X dX12_raw_14 (by decide) <|
z_iret X Y dX12_raw_18 o r4 : At E s0 0 [(0, .ref (G.2.2.1 0)), (1, .int (pI p1))] [])
set_option maxHeartbeats 4000000 in
set_option maxRecDepth 100000 in
theorem ct_X12_settles (p1 : Int) (hp1 : rg p1) (G : Gw) (s0 : St) (r : Int) (σ1 : St) (e : fX12_settles p1 s0 = some (r, σ1)) : Ct yX12_settles cX12_settles 2 none 1 22 SM G [.ref (G.2.2.1 0), .int (pI p1)] s0 (QV SM G σ1) :=
  Ct.of (by decide +kernel) (Nat.le_of_ble_eq_true rfl) fun E X Y => by
    have o : Ok (fX12_settles p1 s0) (fun x σ' => x = r ∧ σ' = σ1) := ⟨r, σ1, e, rfl, rfl⟩
    unfold fX12_settles at o
    exact (
z_join o (fun (y19 : Unit) s20 => True → At E s20 57 [] []) (fun y19 s20 o r21 =>
z_vret (v := 0) X Y dX12_settles_57 o) fun o =>
z_iter (fun (x1 : Unit) s2 => True → At E s2 0 [(0, .ref (G.2.2.1 0)), (1, .int (pI p1))] []) o (fun x1 s2 o r3 =>
z_aload_n X 0 dX12_settles_0 rfl <|
z_getI X dX12_settles_1 fl_X12_290 sm_0 rfl o fun v4 r5 o =>
z_if_le (tgt := 57) X dX12_settles_4 (by decide) r5 o (fun o =>
z_sub (L1 := []) X [] rfl <|
ok_some o trivial) fun o =>
z_aload_n X 0 dX12_settles_7 rfl <|
z_getR (q := 17) X dX12_settles_8 fl_X12_58 sm_0 rfl <|
z_aload_n X 0 dX12_settles_11 rfl <|
z_getI X dX12_settles_12 fl_X12_290 sm_0 rfl o fun v6 r7 o =>
z_iconst X dX12_settles_15 <|
z_isub X dX12_settles_16 <|
z_iald X dX12_settles_17 sm_17 (w32_rg _) o fun v8 r9 o =>
z_iload_n X 1 dX12_settles_18 rfl <|
z_icmp_ne (tgt := 57) X dX12_settles_19 (by decide) r9 hp1 o (fun o =>
z_sub (L1 := []) X [] rfl <|
ok_some o trivial) fun o =>
z_aload_n X 0 dX12_settles_22 rfl <|
z_aload_n X 0 dX12_settles_23 rfl <|
z_getI X dX12_settles_24 fl_X12_290 sm_0 rfl o fun v10 r11 o =>
z_iconst X dX12_settles_27 <|
z_isub X dX12_settles_28 <|
z_putI X dX12_settles_29 fl_X12_290 sm_0 ft_X12_30 rfl (w32_rg _) o fun s12 o =>
z_aload_n X 0 dX12_settles_32 rfl <|
z_iload_n X 1 dX12_settles_33 rfl <|
z_iconst X dX12_settles_34 <|
z_callvV X dX12_settles_35 q_1966 wX12_emits sm_0 rfl (by decide) [.int (pI p1), .int (pI 0)] [] rfl rfl (Nat.le_of_ble_eq_true rfl) (fun r σ1 e => ct_X12_emits p1 0 hp1 kc_0 G _ r σ1 e) o fun r13 s14 o =>
z_iload_n X 1 dX12_settles_38 rfl <|
z_bipush X dX12_settles_39 bi_9 <|
z_icmp_ne (tgt := 0) X dX12_settles_41 (by decide) hp1 kc_9 o (fun o =>
ok_some o trivial) fun o =>
z_aload_n X 0 dX12_settles_44 rfl <|
z_aload_n X 0 dX12_settles_45 rfl <|
z_getI X dX12_settles_46 fl_X12_293 sm_0 rfl o fun v16 r17 o =>
z_iconst X dX12_settles_49 <|
z_isub X dX12_settles_50 <|
z_putI X dX12_settles_51 fl_X12_293 sm_0 ft_X12_28 rfl (w32_rg _) o fun s18 o =>
z_goto (tgt := 0) X dX12_settles_54 (by decide) <|
ok_some o trivial) trivial : At E s0 0 [(0, .ref (G.2.2.1 0)), (1, .int (pI p1))] [])
set_option maxHeartbeats 4000000 in
set_option maxRecDepth 100000 in
theorem ct_X12_wordAt (p1 : Int) (p2 : Int) (hp1 : rg p1) (hp2 : rg p2) (G : Gw) (s0 : St) (r : Int) (σ1 : St) (e : fX12_wordAt p1 p2 s0 = some (r, σ1)) : Ct yX12_wordAt cX12_wordAt 6 (some .int) 0 0 SM G [.ref (G.2.2.1 0), .int (pI p1), .int (pI p2)] s0 (QI SM G r rg σ1) :=
  Ct.of (by decide +kernel) (Nat.le_of_ble_eq_true rfl) fun E X Y => by
    have o : Ok (fX12_wordAt p1 p2 s0) (fun x σ' => x = r ∧ σ' = σ1) := ⟨r, σ1, e, rfl, rfl⟩
    unfold fX12_wordAt at o
    exact (
z_iconst X dX12_wordAt_0 <|
z_istore_n (L1 := [(3, .int (pI (-1))), (0, .ref (G.2.2.1 0)), (1, .int (pI p1)), (2, .int (pI p2))]) X dX12_wordAt_1 rfl (by decide) rfl <|
z_iconst X dX12_wordAt_2 <|
z_istore (L1 := [(4, .int (pI 0)), (3, .int (pI (-1))), (0, .ref (G.2.2.1 0)), (1, .int (pI p1)), (2, .int (pI p2))]) X dX12_wordAt_3 (by decide) rfl <|
z_joix o (fun (y35 : Int) s36 => rg y35 → At E s36 86 [(3, .int (pI y35))] []) (fun y35 s36 o r37 =>
z_iload_n X 0 dX12_wordAt_86 rfl <|
z_iret X Y dX12_wordAt_87 o r37) fun o =>
z_sub (L1 := [(0, .ref (G.2.2.1 0)), (1, .int (pI p1)), (2, .int (pI p2)), (3, .int (pI (-1))), (4, .int (pI 0))]) X [2, 3, 4, 1, 0] rfl <|
z_iter (fun (x1 : Int × Int) s2 => rg x1.1 ∧ rg x1.2 → At E s2 5 [(0, .ref (G.2.2.1 0)), (1, .int (pI p1)), (2, .int (pI p2)), (3, .int (pI x1.1)), (4, .int (pI x1.2))] []) o (fun x1 s2 o r3 =>
z_iload X 4 dX12_wordAt_5 rfl <|
z_sipush X dX12_wordAt_7 si_151 <|
z_icmp_ge (tgt := 118) X dX12_wordAt_10 (by decide) r3.2 kc_151 o (fun o =>
z_iconst X dX12_wordAt_118 <|
z_iret X Y dX12_wordAt_119 (ok_ret (ok_some o)) kc_m1) fun o =>
z_iconst X dX12_wordAt_13 <|
z_istore (L1 := [(5, .int (pI 0)), (0, .ref (G.2.2.1 0)), (1, .int (pI p1)), (2, .int (pI p2)), (3, .int (pI x1.1)), (4, .int (pI x1.2))]) X dX12_wordAt_14 (by decide) rfl <|
z_iload_n X 4 dX12_wordAt_16 rfl <|
z_iconst X dX12_wordAt_17 <|
z_iadd X dX12_wordAt_18 <|
z_istoreL_n (L1 := fun v4 => [(3, .int (pI v4)), (5, .int (pI 0)), (0, .ref (G.2.2.1 0)), (1, .int (pI p1)), (2, .int (pI p2)), (4, .int (pI x1.2))]) (R := rg) X dX12_wordAt_19 rfl (by decide) (fun _ => rfl) o (w32_rg _) fun v4 r5 o =>
z_join o (fun (y15 : Int) s16 => rg y15 → At E s16 61 [(0, .ref (G.2.2.1 0)), (1, .int (pI p1)), (2, .int (pI p2)), (3, .int (pI v4)), (4, .int (pI x1.2)), (5, .int (pI y15))] []) (fun y15 s16 o r17 =>
z_iload_n X 1 dX12_wordAt_61 rfl <|
z_iload X 5 dX12_wordAt_62 rfl <|
z_iadd X dX12_wordAt_64 <|
z_iload_n X 2 dX12_wordAt_65 rfl <|
z_joix o (fun (y20 : Unit) s21 => True → At E s21 88 [(0, .ref (G.2.2.1 0)), (1, .int (pI p1)), (2, .int (pI p2)), (3, .int (pI v4)), (4, .int (pI x1.2))] []) (fun y20 s21 o r22 =>
z_iload X 4 dX12_wordAt_88 rfl <|
z_iconst X dX12_wordAt_90 <|
z_iadd X dX12_wordAt_91 <|
z_istoreL (L1 := fun v23 => [(4, .int (pI v23)), (0, .ref (G.2.2.1 0)), (1, .int (pI p1)), (2, .int (pI p2)), (3, .int (pI v4))]) (R := rg) X dX12_wordAt_92 (by decide) (fun _ => rfl) o (w32_rg _) fun v23 r24 o =>
z_join o (fun (y32 : Int) s33 => rg y32 → At E s33 115 [(0, .ref (G.2.2.1 0)), (1, .int (pI p1)), (2, .int (pI p2)), (3, .int (pI v4)), (4, .int (pI y32))] []) (fun y32 s33 o r34 =>
z_goto (tgt := 5) X dX12_wordAt_115 (by decide) <|
ok_some o ⟨r5, r34⟩) fun o =>
z_sub (L1 := [(0, .ref (G.2.2.1 0)), (1, .int (pI p1)), (2, .int (pI p2)), (3, .int (pI v4)), (4, .int (pI v23))]) X [1, 2, 3, 4, 0] rfl <|
z_iter (fun (x25 : Int) s26 => rg x25 → At E s26 94 [(0, .ref (G.2.2.1 0)), (1, .int (pI p1)), (2, .int (pI p2)), (3, .int (pI v4)), (4, .int (pI x25))] []) o (fun x25 s26 o r27 =>
z_aload_n X 0 dX12_wordAt_94 rfl <|
z_getR (q := 9) X dX12_wordAt_95 fl_X12_34 sm_0 rfl <|
z_iload X 4 dX12_wordAt_98 rfl <|
z_iald X dX12_wordAt_100 sm_9 r27 o fun v28 r29 o =>
z_bipush X dX12_wordAt_101 bi_32 <|
z_icmp_eq (tgt := 115) X dX12_wordAt_103 (by decide) r29 kc_32 o (fun o =>
ok_some o r27) fun o =>
z_iload X 4 dX12_wordAt_106 rfl <|
z_iconst X dX12_wordAt_108 <|
z_iadd X dX12_wordAt_109 <|
z_istoreL (L1 := fun v30 => [(4, .int (pI v30)), (0, .ref (G.2.2.1 0)), (1, .int (pI p1)), (2, .int (pI p2)), (3, .int (pI v4))]) (R := rg) X dX12_wordAt_110 (by decide) (fun _ => rfl) o (w32_rg _) fun v30 r31 o =>
z_goto (tgt := 94) X dX12_wordAt_112 (by decide) <|
z_sub (L1 := [(0, .ref (G.2.2.1 0)), (1, .int (pI p1)), (2, .int (pI p2)), (3, .int (pI v4)), (4, .int (pI v30))]) X [1, 2, 3, 4, 0] rfl <|
ok_some o r31) r24) fun o =>
z_icmp_ne (tgt := 88) X dX12_wordAt_66 (by decide) (w32_rg _) hp2 o (fun o =>
z_sub (L1 := [(0, .ref (G.2.2.1 0)), (1, .int (pI p1)), (2, .int (pI p2)), (3, .int (pI v4)), (4, .int (pI x1.2))]) X [0, 1, 2, 3, 4] rfl <|
ok_some o trivial) fun o =>
z_aload_n X 0 dX12_wordAt_69 rfl <|
z_getR (q := 9) X dX12_wordAt_70 fl_X12_34 sm_0 rfl <|
z_iload X 4 dX12_wordAt_73 rfl <|
z_iconst X dX12_wordAt_75 <|
z_iadd X dX12_wordAt_76 <|
z_iload X 5 dX12_wordAt_77 rfl <|
z_iadd X dX12_wordAt_79 <|
z_iald X dX12_wordAt_80 sm_9 (w32_rg _) o fun v18 r19 o =>
z_bipush X dX12_wordAt_81 bi_32 <|
z_icmp_ne (tgt := 88) X dX12_wordAt_83 (by decide) r19 kc_32 o (fun o =>
z_sub (L1 := [(0, .ref (G.2.2.1 0)), (1, .int (pI p1)), (2, .int (pI p2)), (3, .int (pI v4)), (4, .int (pI x1.2))]) X [0, 1, 2, 3, 4] rfl <|
ok_some o trivial) fun o =>
z_sub (L1 := [(3, .int (pI v4))]) X [3] rfl <|
ok_some o r5) fun o =>
z_sub (L1 := [(0, .ref (G.2.2.1 0)), (1, .int (pI p1)), (2, .int (pI p2)), (3, .int (pI v4)), (4, .int (pI x1.2)), (5, .int (pI 0))]) X [2, 3, 4, 0, 5, 1] rfl <|
z_iter (fun (x6 : Int) s7 => rg x6 → At E s7 20 [(0, .ref (G.2.2.1 0)), (1, .int (pI p1)), (2, .int (pI p2)), (3, .int (pI v4)), (4, .int (pI x1.2)), (5, .int (pI x6))] []) o (fun x6 s7 o r8 =>
z_iload_n X 1 dX12_wordAt_20 rfl <|
z_iload X 5 dX12_wordAt_21 rfl <|
z_iadd X dX12_wordAt_23 <|
z_iload_n X 2 dX12_wordAt_24 rfl <|
z_icmp_ge (tgt := 61) X dX12_wordAt_25 (by decide) (w32_rg _) hp2 o (fun o =>
ok_some o r8) fun o =>
z_aload_n X 0 dX12_wordAt_28 rfl <|
z_getR (q := 9) X dX12_wordAt_29 fl_X12_34 sm_0 rfl <|
z_iload X 4 dX12_wordAt_32 rfl <|
z_iconst X dX12_wordAt_34 <|
z_iadd X dX12_wordAt_35 <|
z_iload X 5 dX12_wordAt_36 rfl <|
z_iadd X dX12_wordAt_38 <|
z_iald X dX12_wordAt_39 sm_9 (w32_rg _) o fun v9 r10 o =>
z_aload_n X 0 dX12_wordAt_40 rfl <|
z_getR (q := 8) X dX12_wordAt_41 fl_X12_31 sm_0 rfl <|
z_iload_n X 1 dX12_wordAt_44 rfl <|
z_iload X 5 dX12_wordAt_45 rfl <|
z_iadd X dX12_wordAt_47 <|
z_iald X dX12_wordAt_48 sm_8 (w32_rg _) o fun v11 r12 o =>
z_icmp_ne (tgt := 61) X dX12_wordAt_49 (by decide) r10 r12 o (fun o =>
ok_some o r8) fun o =>
z_iload X 5 dX12_wordAt_52 rfl <|
z_iconst X dX12_wordAt_54 <|
z_iadd X dX12_wordAt_55 <|
z_istoreL (L1 := fun v13 => [(5, .int (pI v13)), (0, .ref (G.2.2.1 0)), (1, .int (pI p1)), (2, .int (pI p2)), (3, .int (pI v4)), (4, .int (pI x1.2))]) (R := rg) X dX12_wordAt_56 (by decide) (fun _ => rfl) o (w32_rg _) fun v13 r14 o =>
z_goto (tgt := 20) X dX12_wordAt_58 (by decide) <|
z_sub (L1 := [(0, .ref (G.2.2.1 0)), (1, .int (pI p1)), (2, .int (pI p2)), (3, .int (pI v4)), (4, .int (pI x1.2)), (5, .int (pI v13))]) X [1, 2, 3, 4, 5, 0] rfl <|
ok_some o r14) kc_0) ⟨kc_m1, kc_0⟩ : At E s0 0 [(0, .ref (G.2.2.1 0)), (1, .int (pI p1)), (2, .int (pI p2))] [])
set_option maxHeartbeats 4000000 in
set_option maxRecDepth 100000 in
theorem ct_X12_reads   (G : Gw) (s0 : St) (r : Int) (σ1 : St) (e : fX12_reads s0 = some (r, σ1)) : Ct yX12_reads cX12_reads 2 none 2 44 SM G [.ref (G.2.2.1 0)] s0 (QV SM G σ1) :=
  Ct.of (by decide +kernel) (Nat.le_of_ble_eq_true rfl) fun E X Y => by
    have o : Ok (fX12_reads s0) (fun x σ' => x = r ∧ σ' = σ1) := ⟨r, σ1, e, rfl, rfl⟩
    unfold fX12_reads at o
    exact (
z_join o (fun (y20 : Unit) s21 => True → At E s21 39 [(0, .ref (G.2.2.1 0))] []) (fun y20 s21 o r22 =>
z_aload_n X 0 dX12_reads_39 rfl <|
z_aload_n X 0 dX12_reads_40 rfl <|
z_getI X dX12_reads_41 fl_X12_227 sm_0 rfl o fun v23 r24 o =>
z_putI X dX12_reads_44 fl_X12_233 sm_0 ft_X12_15 rfl r24 o fun s25 o =>
z_aload_n X 0 dX12_reads_47 rfl <|
z_iconst X dX12_reads_48 <|
z_putI X dX12_reads_49 fl_X12_236 sm_0 ft_X12_16 rfl kc_1 o fun s26 o =>
z_aload_n X 0 dX12_reads_52 rfl <|
z_aload_n X 0 dX12_reads_53 rfl <|
z_getI X dX12_reads_54 fl_X12_227 sm_0 rfl o fun v27 r28 o =>
z_callvI X dX12_reads_57 q_1870 wX12_raw sm_0 rfl (by decide) [.int (pI v27)] [] rfl rfl (Nat.le_of_ble_eq_true rfl) (fun r σ1 e => ct_X12_raw v27 r28 G _ r σ1 e) o fun r29 s30 h31 o =>
z_istore_n (L1 := [(1, .int (pI r29)), (0, .ref (G.2.2.1 0))]) X dX12_reads_60 rfl (by decide) rfl <|
z_iload_n X 0 dX12_reads_61 rfl <|
z_iconst X dX12_reads_62 <|
z_icmp_ne (tgt := 72) X dX12_reads_63 (by decide) h31 kc_m1 o (fun o =>
z_aload_n X 1 dX12_reads_72 rfl <|
z_aload_n X 1 dX12_reads_73 rfl <|
z_getI X dX12_reads_74 fl_X12_227 sm_0 rfl o fun v32 r33 o =>
z_iconst X dX12_reads_77 <|
z_iadd X dX12_reads_78 <|
z_putI X dX12_reads_79 fl_X12_227 sm_0 ft_X12_14 rfl (w32_rg _) o fun s34 o =>
z_aload_n X 1 dX12_reads_82 rfl <|
z_iload_n X 0 dX12_reads_83 rfl <|
z_putI X dX12_reads_84 fl_X12_239 sm_0 ft_X12_17 rfl h31 o fun s35 o =>
z_aload_n X 1 dX12_reads_87 rfl <|
z_iload_n X 0 dX12_reads_88 rfl <|
z_callvI X dX12_reads_89 q_1874 wX12_isLetter sm_0 rfl (by decide) [.int (pI r29)] [] rfl rfl (Nat.le_of_ble_eq_true rfl) (fun r σ1 e => ct_X12_isLetter r29 h31 G _ r σ1 e) o fun r36 s37 h38 o =>
z_if_eq (tgt := 155) X dX12_reads_92 (by decide) (r01_rg h38) o (fun o =>
z_aload_n X 1 dX12_reads_155 rfl <|
z_iload_n X 0 dX12_reads_156 rfl <|
z_callvI X dX12_reads_157 q_1882 wX12_isDigit sm_0 rfl (by decide) [.int (pI r29)] [] rfl rfl (Nat.le_of_ble_eq_true rfl) (fun r σ1 e => ct_X12_isDigit r29 h31 G _ r σ1 e) o fun r39 s40 h41 o =>
z_if_eq (tgt := 260) X dX12_reads_160 (by decide) (r01_rg h41) o (fun o =>
z_aload_n X 1 dX12_reads_260 rfl <|
z_iload_n X 0 dX12_reads_261 rfl <|
z_callvI X dX12_reads_262 q_1886 wX12_isMarkSign sm_0 rfl (by decide) [.int (pI r29)] [] rfl rfl (Nat.le_of_ble_eq_true rfl) (fun r σ1 e => ct_X12_isMarkSign r29 h31 G _ r σ1 e) o fun r42 s43 h44 o =>
z_if_eq (tgt := 273) X dX12_reads_265 (by decide) (r01_rg h44) o (fun o =>
z_vret (v := 0) X Y dX12_reads_273 o) fun o =>
z_aload_n X 1 dX12_reads_268 rfl <|
z_iconst X dX12_reads_269 <|
z_putI X dX12_reads_270 fl_X12_236 sm_0 ft_X12_16 rfl kc_4 o fun s45 o =>
z_vret (v := 0) X Y dX12_reads_273 o) fun o =>
z_aload_n X 1 dX12_reads_163 rfl <|
z_iload_n X 0 dX12_reads_164 rfl <|
z_bipush X dX12_reads_165 bi_48 <|
z_isub X dX12_reads_167 <|
z_putI X dX12_reads_168 fl_X12_239 sm_0 ft_X12_17 rfl (w32_rg _) o fun s46 o =>
z_join o (fun (y77 : Unit) s78 => True → At E s78 239 [(0, .ref (G.2.2.1 0))] []) (fun y77 s78 o r79 =>
z_aload_n X 0 dX12_reads_239 rfl <|
z_getI X dX12_reads_240 fl_X12_227 sm_0 rfl o fun v80 r81 o =>
z_aload_n X 0 dX12_reads_243 rfl <|
z_getI X dX12_reads_244 fl_X12_233 sm_0 rfl o fun v82 r83 o =>
z_isub X dX12_reads_247 <|
z_iconst X dX12_reads_248 <|
z_icmp_ge (tgt := 273) X dX12_reads_249 (by decide) (w32_rg _) kc_5 o (fun o =>
z_vret (v := 0) X Y dX12_reads_273 o) fun o =>
z_aload_n X 0 dX12_reads_252 rfl <|
z_iconst X dX12_reads_253 <|
z_putI X dX12_reads_254 fl_X12_236 sm_0 ft_X12_16 rfl kc_3 o fun s84 o =>
z_goto (tgt := 273) X dX12_reads_257 (by decide) <|
z_vret (v := 0) X Y dX12_reads_273 o) fun o =>
z_sub (L1 := [(0, .ref (G.2.2.1 0))]) X [1] rfl <|
z_iter (fun (x47 : Unit) s48 => True → At E s48 171 [(0, .ref (G.2.2.1 0))] []) o (fun x47 s48 o r49 =>
z_aload_n X 0 dX12_reads_171 rfl <|
z_aload_n X 0 dX12_reads_172 rfl <|
z_aload_n X 0 dX12_reads_173 rfl <|
z_getI X dX12_reads_174 fl_X12_227 sm_0 rfl o fun v50 r51 o =>
z_callvI X dX12_reads_177 q_1870 wX12_raw sm_0 rfl (by decide) [.int (pI v50)] [.ref (G.2.2.1 0)] rfl rfl (Nat.le_of_ble_eq_true rfl) (fun r σ1 e => ct_X12_raw v50 r51 G _ r σ1 e) o fun r52 s53 h54 o =>
z_callvI X dX12_reads_180 q_1882 wX12_isDigit sm_0 rfl (by decide) [.int (pI r52)] [] rfl rfl (Nat.le_of_ble_eq_true rfl) (fun r σ1 e => ct_X12_isDigit r52 h54 G _ r σ1 e) o fun r55 s56 h57 o =>
z_if_eq (tgt := 239) X dX12_reads_183 (by decide) (r01_rg h57) o (fun o =>
ok_some o trivial) fun o =>
z_aload_n X 0 dX12_reads_186 rfl <|
z_aload_n X 0 dX12_reads_187 rfl <|
z_getI X dX12_reads_188 fl_X12_239 sm_0 rfl o fun v58 r59 o =>
z_sipush X dX12_reads_191 si_10000 <|
z_icmp_ge (tgt := 219) X dX12_reads_194 (by decide) r59 kc_10000 o (fun o =>
z_aload_n X 0 dX12_reads_219 rfl <|
z_getI X dX12_reads_220 fl_X12_239 sm_0 rfl o fun v60 r61 o =>
z_putI X dX12_reads_223 fl_X12_239 sm_0 ft_X12_17 rfl r61 o fun s62 o =>
z_aload_n X 0 dX12_reads_226 rfl <|
z_aload_n X 0 dX12_reads_227 rfl <|
z_getI X dX12_reads_228 fl_X12_227 sm_0 rfl o fun v63 r64 o =>
z_iconst X dX12_reads_231 <|
z_iadd X dX12_reads_232 <|
z_putI X dX12_reads_233 fl_X12_227 sm_0 ft_X12_14 rfl (w32_rg _) o fun s65 o =>
z_goto (tgt := 171) X dX12_reads_236 (by decide) <|
ok_some o trivial) fun o =>
z_bipush X dX12_reads_197 bi_10 <|
z_aload_n X 0 dX12_reads_199 rfl <|
z_getI X dX12_reads_200 fl_X12_239 sm_0 rfl o fun v66 r67 o =>
z_imul X dX12_reads_203 <|
z_aload_n X 0 dX12_reads_204 rfl <|
z_aload_n X 0 dX12_reads_205 rfl <|
z_getI X dX12_reads_206 fl_X12_227 sm_0 rfl o fun v68 r69 o =>
z_callvI X dX12_reads_209 q_1870 wX12_raw sm_0 rfl (by decide) [.int (pI v68)] [.int (pI (w32 (10 * v66))), .ref (G.2.2.1 0)] rfl rfl (Nat.le_of_ble_eq_true rfl) (fun r σ1 e => ct_X12_raw v68 r69 G _ r σ1 e) o fun r70 s71 h72 o =>
z_iadd X dX12_reads_212 <|
z_bipush X dX12_reads_213 bi_48 <|
z_isub X dX12_reads_215 <|
z_goto (tgt := 223) X dX12_reads_216 (by decide) <|
z_putI X dX12_reads_223 fl_X12_239 sm_0 ft_X12_17 rfl (w32_rg _) o fun s73 o =>
z_aload_n X 0 dX12_reads_226 rfl <|
z_aload_n X 0 dX12_reads_227 rfl <|
z_getI X dX12_reads_228 fl_X12_227 sm_0 rfl o fun v74 r75 o =>
z_iconst X dX12_reads_231 <|
z_iadd X dX12_reads_232 <|
z_putI X dX12_reads_233 fl_X12_227 sm_0 ft_X12_14 rfl (w32_rg _) o fun s76 o =>
z_goto (tgt := 171) X dX12_reads_236 (by decide) <|
ok_some o trivial) trivial) fun o =>
z_join o (fun (y99 : Unit) s100 => True → At E s100 123 [(0, .ref (G.2.2.1 0))] []) (fun y99 s100 o r101 =>
z_aload_n X 0 dX12_reads_123 rfl <|
z_aload_n X 0 dX12_reads_124 rfl <|
z_aload_n X 0 dX12_reads_125 rfl <|
z_getI X dX12_reads_126 fl_X12_233 sm_0 rfl o fun v102 r103 o =>
z_aload_n X 0 dX12_reads_129 rfl <|
z_getI X dX12_reads_130 fl_X12_227 sm_0 rfl o fun v104 r105 o =>
z_callvI X dX12_reads_133 q_1878 wX12_wordAt sm_0 rfl (by decide) [.int (pI v102), .int (pI v104)] [.ref (G.2.2.1 0)] rfl rfl (Nat.le_of_ble_eq_true rfl) (fun r σ1 e => ct_X12_wordAt v102 v104 r103 r105 G _ r σ1 e) o fun r106 s107 h108 o =>
z_putI X dX12_reads_136 fl_X12_239 sm_0 ft_X12_17 rfl h108 o fun s109 o =>
z_aload_n X 0 dX12_reads_139 rfl <|
z_getI X dX12_reads_140 fl_X12_239 sm_0 rfl o fun v110 r111 o =>
z_iconst X dX12_reads_143 <|
z_icmp_eq (tgt := 273) X dX12_reads_144 (by decide) r111 kc_m1 o (fun o =>
z_vret (v := 0) X Y dX12_reads_273 o) fun o =>
z_aload_n X 0 dX12_reads_147 rfl <|
z_iconst X dX12_reads_148 <|
z_putI X dX12_reads_149 fl_X12_236 sm_0 ft_X12_16 rfl kc_2 o fun s112 o =>
z_goto (tgt := 273) X dX12_reads_152 (by decide) <|
z_vret (v := 0) X Y dX12_reads_273 o) fun o =>
z_sub (L1 := [(0, .ref (G.2.2.1 0))]) X [1] rfl <|
z_iter (fun (x85 : Unit) s86 => True → At E s86 95 [(0, .ref (G.2.2.1 0))] []) o (fun x85 s86 o r87 =>
z_aload_n X 0 dX12_reads_95 rfl <|
z_aload_n X 0 dX12_reads_96 rfl <|
z_aload_n X 0 dX12_reads_97 rfl <|
z_getI X dX12_reads_98 fl_X12_227 sm_0 rfl o fun v88 r89 o =>
z_callvI X dX12_reads_101 q_1870 wX12_raw sm_0 rfl (by decide) [.int (pI v88)] [.ref (G.2.2.1 0)] rfl rfl (Nat.le_of_ble_eq_true rfl) (fun r σ1 e => ct_X12_raw v88 r89 G _ r σ1 e) o fun r90 s91 h92 o =>
z_callvI X dX12_reads_104 q_1874 wX12_isLetter sm_0 rfl (by decide) [.int (pI r90)] [] rfl rfl (Nat.le_of_ble_eq_true rfl) (fun r σ1 e => ct_X12_isLetter r90 h92 G _ r σ1 e) o fun r93 s94 h95 o =>
z_if_eq (tgt := 123) X dX12_reads_107 (by decide) (r01_rg h95) o (fun o =>
ok_some o trivial) fun o =>
z_aload_n X 0 dX12_reads_110 rfl <|
z_aload_n X 0 dX12_reads_111 rfl <|
z_getI X dX12_reads_112 fl_X12_227 sm_0 rfl o fun v96 r97 o =>
z_iconst X dX12_reads_115 <|
z_iadd X dX12_reads_116 <|
z_putI X dX12_reads_117 fl_X12_227 sm_0 ft_X12_14 rfl (w32_rg _) o fun s98 o =>
z_goto (tgt := 95) X dX12_reads_120 (by decide) <|
ok_some o trivial) trivial) fun o =>
z_aload_n X 1 dX12_reads_66 rfl <|
z_iconst X dX12_reads_67 <|
z_putI X dX12_reads_68 fl_X12_236 sm_0 ft_X12_16 rfl kc_0 o fun s113 o =>
z_vret (v := 0) X Y dX12_reads_71 o) fun o =>
z_iter (fun (x1 : Unit) s2 => True → At E s2 0 [(0, .ref (G.2.2.1 0))] []) o (fun x1 s2 o r3 =>
z_aload_n X 0 dX12_reads_0 rfl <|
z_aload_n X 0 dX12_reads_1 rfl <|
z_getI X dX12_reads_2 fl_X12_227 sm_0 rfl o fun v4 r5 o =>
z_callvI X dX12_reads_5 q_1870 wX12_raw sm_0 rfl (by decide) [.int (pI v4)] [] rfl rfl (Nat.le_of_ble_eq_true rfl) (fun r σ1 e => ct_X12_raw v4 r5 G _ r σ1 e) o fun r6 s7 h8 o =>
z_bipush X dX12_reads_8 bi_32 <|
z_icmp_eq (tgt := 26) X dX12_reads_10 (by decide) h8 kc_32 o (fun o =>
z_aload_n X 0 dX12_reads_26 rfl <|
z_aload_n X 0 dX12_reads_27 rfl <|
z_getI X dX12_reads_28 fl_X12_227 sm_0 rfl o fun v9 r10 o =>
z_iconst X dX12_reads_31 <|
z_iadd X dX12_reads_32 <|
z_putI X dX12_reads_33 fl_X12_227 sm_0 ft_X12_14 rfl (w32_rg _) o fun s11 o =>
z_goto (tgt := 0) X dX12_reads_36 (by decide) <|
ok_some o trivial) fun o =>
z_aload_n X 0 dX12_reads_13 rfl <|
z_aload_n X 0 dX12_reads_14 rfl <|
z_getI X dX12_reads_15 fl_X12_227 sm_0 rfl o fun v12 r13 o =>
z_callvI X dX12_reads_18 q_1870 wX12_raw sm_0 rfl (by decide) [.int (pI v12)] [] rfl rfl (Nat.le_of_ble_eq_true rfl) (fun r σ1 e => ct_X12_raw v12 r13 G _ r σ1 e) o fun r14 s15 h16 o =>
z_bipush X dX12_reads_21 bi_10 <|
z_icmp_ne (tgt := 39) X dX12_reads_23 (by decide) h16 kc_10 o (fun o =>
ok_some o trivial) fun o =>
z_aload_n X 0 dX12_reads_26 rfl <|
z_aload_n X 0 dX12_reads_27 rfl <|
z_getI X dX12_reads_28 fl_X12_227 sm_0 rfl o fun v17 r18 o =>
z_iconst X dX12_reads_31 <|
z_iadd X dX12_reads_32 <|
z_putI X dX12_reads_33 fl_X12_227 sm_0 ft_X12_14 rfl (w32_rg _) o fun s19 o =>
z_goto (tgt := 0) X dX12_reads_36 (by decide) <|
ok_some o trivial) trivial : At E s0 0 [(0, .ref (G.2.2.1 0))] [])
set_option maxHeartbeats 4000000 in
set_option maxRecDepth 100000 in
theorem ct_X12_waits (p1 : Int) (hp1 : rg p1) (G : Gw) (s0 : St) (r : Int) (σ1 : St) (e : fX12_waits p1 s0 = some (r, σ1)) : Ct yX12_waits cX12_waits 2 none 0 0 SM G [.ref (G.2.2.1 0), .int (pI p1)] s0 (QV SM G σ1) :=
  Ct.of (by decide +kernel) (Nat.le_of_ble_eq_true rfl) fun E X Y => by
    have o : Ok (fX12_waits p1 s0) (fun x σ' => x = r ∧ σ' = σ1) := ⟨r, σ1, e, rfl, rfl⟩
    unfold fX12_waits at o
    exact (
z_aload_n X 0 dX12_waits_0 rfl <|
z_getR (q := 17) X dX12_waits_1 fl_X12_58 sm_0 rfl <|
z_aload_n X 0 dX12_waits_4 rfl <|
z_getI X dX12_waits_5 fl_X12_290 sm_0 rfl o fun v1 r2 o =>
z_iload_n X 1 dX12_waits_8 rfl <|
z_iast X dX12_waits_9 sm_17 r2 hp1 o fun s3 o =>
z_aload_n X 0 dX12_waits_10 rfl <|
z_aload_n X 0 dX12_waits_11 rfl <|
z_getI X dX12_waits_12 fl_X12_290 sm_0 rfl o fun v4 r5 o =>
z_iconst X dX12_waits_15 <|
z_iadd X dX12_waits_16 <|
z_putI X dX12_waits_17 fl_X12_290 sm_0 ft_X12_30 rfl (w32_rg _) o fun s6 o =>
z_vret (v := 0) X Y dX12_waits_20 o : At E s0 0 [(0, .ref (G.2.2.1 0)), (1, .int (pI p1))] [])
set_option maxHeartbeats 4000000 in
set_option maxRecDepth 100000 in
theorem ct_X12_readUnit   (G : Gw) (s0 : St) (r : Int) (σ1 : St) (e : fX12_readUnit s0 = some (r, σ1)) : Ct yX12_readUnit cX12_readUnit 2 (some .int) 3 65 SM G [.ref (G.2.2.1 0)] s0 (QI SM G r rg σ1) :=
  Ct.of (by decide +kernel) (Nat.le_of_ble_eq_true rfl) fun E X Y => by
    have o : Ok (fX12_readUnit s0) (fun x σ' => x = r ∧ σ' = σ1) := ⟨r, σ1, e, rfl, rfl⟩
    unfold fX12_readUnit at o
    exact (
z_aload_n X 0 dX12_readUnit_0 rfl <|
z_getI X dX12_readUnit_1 fl_X12_236 sm_0 rfl o fun v1 r2 o =>
z_iconst X dX12_readUnit_4 <|
z_join o (fun (y8 : Int) s9 => r01 y8 → At E s9 24 [(0, .ref (G.2.2.1 0))] [.int (pI y8)]) (fun y8 s9 o r10 =>
z_istore_n (L1 := [(1, .int (pI y8)), (0, .ref (G.2.2.1 0))]) X dX12_readUnit_24 rfl (by decide) rfl <|
z_iload_n X 0 dX12_readUnit_25 rfl <|
z_joix o (fun (y16 : Unit) s17 => True → At E s17 43 [(0, .ref (G.2.2.1 0)), (1, .int (pI y8))] []) (fun y16 s17 o r18 =>
z_aload_n X 0 dX12_readUnit_43 rfl <|
z_iload_n X 1 dX12_readUnit_44 rfl <|
z_join o (fun (y19 : Int) s20 => r01 y19 → At E s20 53 [(0, .ref (G.2.2.1 0)), (1, .int (pI y8))] [.int (pI y19), .ref (G.2.2.1 0)]) (fun y19 s20 o r21 =>
z_iload_n X 1 dX12_readUnit_53 rfl <|
z_join o (fun (y26 : Int) s27 => rg y26 → At E s27 71 [(0, .ref (G.2.2.1 0))] [.int (pI y26), .int (pI y19), .ref (G.2.2.1 0)]) (fun y26 s27 o r28 =>
z_callvV X dX12_readUnit_71 q_1966 wX12_emits sm_0 rfl (by decide) [.int (pI y19), .int (pI y26)] [] rfl rfl (Nat.le_of_ble_eq_true rfl) (fun r σ1 e => ct_X12_emits y19 y26 (r01_rg r21) r28 G _ r σ1 e) o fun r29 s30 o =>
z_aload_n X 0 dX12_readUnit_74 rfl <|
z_callvV X dX12_readUnit_75 q_1866 wX12_reads sm_0 rfl (by decide) [] [] rfl rfl (Nat.le_of_ble_eq_true rfl) (fun r σ1 e => ct_X12_reads G _ r σ1 e) o fun r32 s33 o =>
z_iconst X dX12_readUnit_78 <|
z_iret X Y dX12_readUnit_79 o kc_0) fun o =>
z_if_eq (tgt := 67) X dX12_readUnit_54 (by decide) (r01_rg r10) o (fun o =>
z_aload_n X 0 dX12_readUnit_67 rfl <|
z_getI X dX12_readUnit_68 fl_X12_239 sm_0 rfl o fun v22 r23 o =>
z_sub (L1 := [(0, .ref (G.2.2.1 0))]) X [0] rfl <|
ok_some o r23) fun o =>
z_aload_n X 0 dX12_readUnit_57 rfl <|
z_getI X dX12_readUnit_58 fl_X12_239 sm_0 rfl o fun v24 r25 o =>
z_bipush X dX12_readUnit_61 bi_7 <|
z_isub X dX12_readUnit_63 <|
z_goto (tgt := 71) X dX12_readUnit_64 (by decide) <|
z_sub (L1 := [(0, .ref (G.2.2.1 0))]) X [0] rfl <|
ok_some o (w32_rg _)) fun o =>
z_if_eq (tgt := 52) X dX12_readUnit_45 (by decide) (r01_rg r10) o (fun o =>
z_iconst X dX12_readUnit_52 <|
ok_some o kb_0) fun o =>
z_iconst X dX12_readUnit_48 <|
z_goto (tgt := 53) X dX12_readUnit_49 (by decide) <|
ok_some o kb_1) fun o =>
z_if_ne (tgt := 43) X dX12_readUnit_26 (by decide) (r01_rg r10) o (fun o =>
z_sub (L1 := [(0, .ref (G.2.2.1 0)), (1, .int (pI y8))]) X [1, 0] rfl <|
ok_some o trivial) fun o =>
z_aload_n X 1 dX12_readUnit_29 rfl <|
z_getI X dX12_readUnit_30 fl_X12_236 sm_0 rfl o fun v11 r12 o =>
z_iconst X dX12_readUnit_33 <|
z_icmp_eq (tgt := 43) X dX12_readUnit_34 (by decide) r12 kc_3 o (fun o =>
z_sub (L1 := [(0, .ref (G.2.2.1 0)), (1, .int (pI y8))]) X [1, 0] rfl <|
ok_some o trivial) fun o =>
z_aload_n X 1 dX12_readUnit_37 rfl <|
z_iconst X dX12_readUnit_38 <|
z_callvI X dX12_readUnit_39 q_1898 wX12_errs sm_0 rfl (by decide) [.int (pI 1)] [] rfl rfl (Nat.le_of_ble_eq_true rfl) (fun r σ1 e => ct_X12_errs 1 kc_1 G _ r σ1 e) o fun r13 s14 h15 o =>
z_iret X Y dX12_readUnit_42 (ok_ret (ok_some o)) h15) fun o =>
z_icmp_ne (tgt := 23) X dX12_readUnit_5 (by decide) r2 kc_2 o (fun o =>
z_iconst X dX12_readUnit_23 <|
ok_some o kb_0) fun o =>
z_aload_n X 0 dX12_readUnit_8 rfl <|
z_aload_n X 0 dX12_readUnit_9 rfl <|
z_getI X dX12_readUnit_10 fl_X12_239 sm_0 rfl o fun v3 r4 o =>
z_callvI X dX12_readUnit_13 q_1962 wX12_canAsk sm_0 rfl (by decide) [.int (pI v3)] [] rfl rfl (Nat.le_of_ble_eq_true rfl) (fun r σ1 e => ct_X12_canAsk v3 r4 G _ r σ1 e) o fun r5 s6 h7 o =>
z_if_eq (tgt := 23) X dX12_readUnit_16 (by decide) (r01_rg h7) o (fun o =>
z_iconst X dX12_readUnit_23 <|
ok_some o kb_0) fun o =>
z_iconst X dX12_readUnit_19 <|
z_goto (tgt := 24) X dX12_readUnit_20 (by decide) <|
ok_some o kb_1 : At E s0 0 [(0, .ref (G.2.2.1 0))] [])
set_option maxHeartbeats 4000000 in
set_option maxRecDepth 100000 in
theorem ct_X12_readProduct   (G : Gw) (s0 : St) (r : Int) (σ1 : St) (e : fX12_readProduct s0 = some (r, σ1)) : Ct yX12_readProduct cX12_readProduct 2 (some .int) 4 86 SM G [.ref (G.2.2.1 0)] s0 (QI SM G r rg σ1) :=
  Ct.of (by decide +kernel) (Nat.le_of_ble_eq_true rfl) fun E X Y => by
    have o : Ok (fX12_readProduct s0) (fun x σ' => x = r ∧ σ' = σ1) := ⟨r, σ1, e, rfl, rfl⟩
    unfold fX12_readProduct at o
    exact (
z_aload_n X 0 dX12_readProduct_0 rfl <|
z_callvI X dX12_readProduct_1 q_1958 wX12_readUnit sm_0 rfl (by decide) [] [] rfl rfl (Nat.le_of_ble_eq_true rfl) (fun r σ1 e => ct_X12_readUnit G _ r σ1 e) o fun r1 s2 h3 o =>
z_iconst X dX12_readProduct_4 <|
z_icmp_ne (tgt := 10) X dX12_readProduct_5 (by decide) h3 kc_m1 o (fun o =>
z_joix o (fun (y44 : Unit) s45 => True → At E s45 51 [(0, .ref (G.2.2.1 0))] []) (fun y44 s45 o r46 =>
z_aload_n X 0 dX12_readProduct_51 rfl <|
z_iconst X dX12_readProduct_52 <|
z_callvI X dX12_readProduct_53 q_1898 wX12_errs sm_0 rfl (by decide) [.int (pI 1)] [] rfl rfl (Nat.le_of_ble_eq_true rfl) (fun r σ1 e => ct_X12_errs 1 kc_1 G _ r σ1 e) o fun r47 s48 h49 o =>
z_iret X Y dX12_readProduct_56 o h49) fun o =>
z_iter (fun (x4 : Unit) s5 => True → At E s5 10 [(0, .ref (G.2.2.1 0))] []) o (fun x4 s5 o r6 =>
z_aload_n X 0 dX12_readProduct_10 rfl <|
z_bipush X dX12_readProduct_11 bi_42 <|
z_callvI X dX12_readProduct_13 q_1918 wX12_isSign sm_0 rfl (by decide) [.int (pI 42)] [] rfl rfl (Nat.le_of_ble_eq_true rfl) (fun r σ1 e => ct_X12_isSign 42 kc_42 G _ r σ1 e) o fun r7 s8 h9 o =>
z_joix o (fun (y13 : Unit) s14 => True → At E s14 28 [(0, .ref (G.2.2.1 0))] []) (fun y13 s14 o r15 =>
z_aload_n X 0 dX12_readProduct_28 rfl <|
z_bipush X dX12_readProduct_29 bi_42 <|
z_callvI X dX12_readProduct_31 q_1918 wX12_isSign sm_0 rfl (by decide) [.int (pI 42)] [] rfl rfl (Nat.le_of_ble_eq_true rfl) (fun r σ1 e => ct_X12_isSign 42 kc_42 G _ r σ1 e) o fun r16 s17 h18 o =>
z_istore_n (L1 := [(1, .int (pI r16)), (0, .ref (G.2.2.1 0))]) X dX12_readProduct_34 rfl (by decide) rfl <|
z_aload_n X 1 dX12_readProduct_35 rfl <|
z_callvV X dX12_readProduct_36 q_1866 wX12_reads sm_0 rfl (by decide) [] [] rfl rfl (Nat.le_of_ble_eq_true rfl) (fun r σ1 e => ct_X12_reads G _ r σ1 e) o fun r19 s20 o =>
z_iload_n X 0 dX12_readProduct_39 rfl <|
z_joix o (fun (y24 : Unit) s25 => True → At E s25 57 [(0, .ref (G.2.2.1 0)), (1, .int (pI r16))] []) (fun y24 s25 o r26 =>
z_iload_n X 1 dX12_readProduct_57 rfl <|
z_joix o (fun (y32 : Unit) s33 => True → At E s33 74 [(0, .ref (G.2.2.1 0)), (1, .int (pI r16))] []) (fun y32 s33 o r34 =>
z_aload_n X 0 dX12_readProduct_74 rfl <|
z_callvI X dX12_readProduct_75 q_1958 wX12_readUnit sm_0 rfl (by decide) [] [] rfl rfl (Nat.le_of_ble_eq_true rfl) (fun r σ1 e => ct_X12_readUnit G _ r σ1 e) o fun r35 s36 h37 o =>
z_iconst X dX12_readProduct_78 <|
z_icmp_ne (tgt := 84) X dX12_readProduct_79 (by decide) h37 kc_m1 o (fun o =>
z_aload_n X 0 dX12_readProduct_84 rfl <|
z_iload_n X 1 dX12_readProduct_85 rfl <|
z_join o (fun (y38 : Int) s39 => rg y38 → At E s39 94 [(0, .ref (G.2.2.1 0))] [.int (pI y38), .ref (G.2.2.1 0)]) (fun y38 s39 o r40 =>
z_iconst X dX12_readProduct_94 <|
z_callvV X dX12_readProduct_95 q_1966 wX12_emits sm_0 rfl (by decide) [.int (pI y38), .int (pI 0)] [] rfl rfl (Nat.le_of_ble_eq_true rfl) (fun r σ1 e => ct_X12_emits y38 0 r40 kc_0 G _ r σ1 e) o fun r41 s42 o =>
z_goto (tgt := 10) X dX12_readProduct_98 (by decide) <|
ok_some o trivial) fun o =>
z_if_eq (tgt := 93) X dX12_readProduct_86 (by decide) (r01_rg h18) o (fun o =>
z_iconst X dX12_readProduct_93 <|
z_sub (L1 := [(0, .ref (G.2.2.1 0))]) X [0] rfl <|
ok_some o kc_5) fun o =>
z_iconst X dX12_readProduct_89 <|
z_goto (tgt := 94) X dX12_readProduct_90 (by decide) <|
z_sub (L1 := [(0, .ref (G.2.2.1 0))]) X [0] rfl <|
ok_some o kc_4) fun o =>
z_iconst X dX12_readProduct_82 <|
z_iret X Y dX12_readProduct_83 (ok_ret (ok_some o)) kc_m1) fun o =>
z_if_ne (tgt := 74) X dX12_readProduct_58 (by decide) (r01_rg h18) o (fun o =>
ok_some o trivial) fun o =>
z_aload_n X 0 dX12_readProduct_61 rfl <|
z_getI X dX12_readProduct_62 fl_X12_239 sm_0 rfl o fun v27 r28 o =>
z_if_ne (tgt := 74) X dX12_readProduct_65 (by decide) r28 o (fun o =>
ok_some o trivial) fun o =>
z_aload_n X 0 dX12_readProduct_68 rfl <|
z_iconst X dX12_readProduct_69 <|
z_callvI X dX12_readProduct_70 q_1898 wX12_errs sm_0 rfl (by decide) [.int (pI 2)] [] rfl rfl (Nat.le_of_ble_eq_true rfl) (fun r σ1 e => ct_X12_errs 2 kc_2 G _ r σ1 e) o fun r29 s30 h31 o =>
z_iret X Y dX12_readProduct_73 (ok_ret (ok_some o)) h31) fun o =>
z_if_ne (tgt := 57) X dX12_readProduct_40 (by decide) (r01_rg h18) o (fun o =>
z_sub (L1 := [(0, .ref (G.2.2.1 0)), (1, .int (pI r16))]) X [1, 0] rfl <|
ok_some o trivial) fun o =>
z_aload_n X 1 dX12_readProduct_43 rfl <|
z_getI X dX12_readProduct_44 fl_X12_236 sm_0 rfl o fun v22 r23 o =>
z_iconst X dX12_readProduct_47 <|
z_icmp_eq (tgt := 57) X dX12_readProduct_48 (by decide) r23 kc_3 o (fun o =>
z_sub (L1 := [(0, .ref (G.2.2.1 0)), (1, .int (pI r16))]) X [1, 0] rfl <|
ok_some o trivial) fun o =>
z_sub (L1 := [(0, .ref (G.2.2.1 0))]) X [1] rfl <|
ok_some o trivial) fun o =>
z_if_ne (tgt := 28) X dX12_readProduct_16 (by decide) (r01_rg h9) o (fun o =>
ok_some o trivial) fun o =>
z_aload_n X 0 dX12_readProduct_19 rfl <|
z_bipush X dX12_readProduct_20 bi_47 <|
z_callvI X dX12_readProduct_22 q_1918 wX12_isSign sm_0 rfl (by decide) [.int (pI 47)] [] rfl rfl (Nat.le_of_ble_eq_true rfl) (fun r σ1 e => ct_X12_isSign 47 kc_47 G _ r σ1 e) o fun r10 s11 h12 o =>
z_if_eq (tgt := 101) X dX12_readProduct_25 (by decide) (r01_rg h12) o (fun o =>
z_iconst X dX12_readProduct_101 <|
z_iret X Y dX12_readProduct_102 (ok_ret (ok_some o)) kc_0) fun o =>
ok_some o trivial) trivial) fun o =>
z_iconst X dX12_readProduct_8 <|
z_iret X Y dX12_readProduct_9 o kc_m1 : At E s0 0 [(0, .ref (G.2.2.1 0))] [])
set_option maxHeartbeats 4000000 in
set_option maxRecDepth 100000 in
theorem ct_X12_readSum   (G : Gw) (s0 : St) (r : Int) (σ1 : St) (e : fX12_readSum s0 = some (r, σ1)) : Ct yX12_readSum cX12_readSum 2 (some .int) 5 107 SM G [.ref (G.2.2.1 0)] s0 (QI SM G r rg σ1) :=
  Ct.of (by decide +kernel) (Nat.le_of_ble_eq_true rfl) fun E X Y => by
    have o : Ok (fX12_readSum s0) (fun x σ' => x = r ∧ σ' = σ1) := ⟨r, σ1, e, rfl, rfl⟩
    unfold fX12_readSum at o
    exact (
z_aload_n X 0 dX12_readSum_0 rfl <|
z_callvI X dX12_readSum_1 q_1954 wX12_readProduct sm_0 rfl (by decide) [] [] rfl rfl (Nat.le_of_ble_eq_true rfl) (fun r σ1 e => ct_X12_readProduct G _ r σ1 e) o fun r1 s2 h3 o =>
z_iconst X dX12_readSum_4 <|
z_icmp_ne (tgt := 10) X dX12_readSum_5 (by decide) h3 kc_m1 o (fun o =>
z_joix o (fun (y30 : Unit) s31 => True → At E s31 55 [] []) (fun y30 s31 o r32 =>
z_iconst X dX12_readSum_55 <|
z_iret X Y dX12_readSum_56 o kc_m1) fun o =>
z_iter (fun (x4 : Unit) s5 => True → At E s5 10 [(0, .ref (G.2.2.1 0))] []) o (fun x4 s5 o r6 =>
z_aload_n X 0 dX12_readSum_10 rfl <|
z_bipush X dX12_readSum_11 bi_43 <|
z_callvI X dX12_readSum_13 q_1918 wX12_isSign sm_0 rfl (by decide) [.int (pI 43)] [] rfl rfl (Nat.le_of_ble_eq_true rfl) (fun r σ1 e => ct_X12_isSign 43 kc_43 G _ r σ1 e) o fun r7 s8 h9 o =>
z_joix o (fun (y13 : Unit) s14 => True → At E s14 28 [(0, .ref (G.2.2.1 0))] []) (fun y13 s14 o r15 =>
z_aload_n X 0 dX12_readSum_28 rfl <|
z_getI X dX12_readSum_29 fl_X12_239 sm_0 rfl o fun v16 r17 o =>
z_bipush X dX12_readSum_32 bi_43 <|
z_join o (fun (y18 : Int) s19 => rg y18 → At E s19 42 [(0, .ref (G.2.2.1 0))] [.int (pI y18)]) (fun y18 s19 o r20 =>
z_istore_n (L1 := [(1, .int (pI y18)), (0, .ref (G.2.2.1 0))]) X dX12_readSum_42 rfl (by decide) rfl <|
z_aload_n X 1 dX12_readSum_43 rfl <|
z_callvV X dX12_readSum_44 q_1866 wX12_reads sm_0 rfl (by decide) [] [] rfl rfl (Nat.le_of_ble_eq_true rfl) (fun r σ1 e => ct_X12_reads G _ r σ1 e) o fun r21 s22 o =>
z_aload_n X 1 dX12_readSum_47 rfl <|
z_callvI X dX12_readSum_48 q_1954 wX12_readProduct sm_0 rfl (by decide) [] [] rfl rfl (Nat.le_of_ble_eq_true rfl) (fun r σ1 e => ct_X12_readProduct G _ r σ1 e) o fun r24 s25 h26 o =>
z_iconst X dX12_readSum_51 <|
z_icmp_ne (tgt := 57) X dX12_readSum_52 (by decide) h26 kc_m1 o (fun o =>
z_aload_n X 1 dX12_readSum_57 rfl <|
z_iload_n X 0 dX12_readSum_58 rfl <|
z_iconst X dX12_readSum_59 <|
z_callvV X dX12_readSum_60 q_1966 wX12_emits sm_0 rfl (by decide) [.int (pI y18), .int (pI 0)] [] rfl rfl (Nat.le_of_ble_eq_true rfl) (fun r σ1 e => ct_X12_emits y18 0 r20 kc_0 G _ r σ1 e) o fun r27 s28 o =>
z_goto (tgt := 10) X dX12_readSum_63 (by decide) <|
z_sub (L1 := [(0, .ref (G.2.2.1 0))]) X [1] rfl <|
ok_some o trivial) fun o =>
z_sub (L1 := []) X [] rfl <|
ok_some o trivial) fun o =>
z_icmp_ne (tgt := 41) X dX12_readSum_34 (by decide) r17 kc_43 o (fun o =>
z_iconst X dX12_readSum_41 <|
ok_some o kc_3) fun o =>
z_iconst X dX12_readSum_37 <|
z_goto (tgt := 42) X dX12_readSum_38 (by decide) <|
ok_some o kc_2) fun o =>
z_if_ne (tgt := 28) X dX12_readSum_16 (by decide) (r01_rg h9) o (fun o =>
ok_some o trivial) fun o =>
z_aload_n X 0 dX12_readSum_19 rfl <|
z_bipush X dX12_readSum_20 bi_45 <|
z_callvI X dX12_readSum_22 q_1918 wX12_isSign sm_0 rfl (by decide) [.int (pI 45)] [] rfl rfl (Nat.le_of_ble_eq_true rfl) (fun r σ1 e => ct_X12_isSign 45 kc_45 G _ r σ1 e) o fun r10 s11 h12 o =>
z_if_eq (tgt := 66) X dX12_readSum_25 (by decide) (r01_rg h12) o (fun o =>
z_iconst X dX12_readSum_66 <|
z_iret X Y dX12_readSum_67 (ok_ret (ok_some o)) kc_0) fun o =>
ok_some o trivial) trivial) fun o =>
z_iconst X dX12_readSum_8 <|
z_iret X Y dX12_readSum_9 o kc_m1 : At E s0 0 [(0, .ref (G.2.2.1 0))] [])
set_option maxHeartbeats 4000000 in
set_option maxRecDepth 100000 in
theorem ct_X12_readCompared   (G : Gw) (s0 : St) (r : Int) (σ1 : St) (e : fX12_readCompared s0 = some (r, σ1)) : Ct yX12_readCompared cX12_readCompared 2 (some .int) 6 128 SM G [.ref (G.2.2.1 0)] s0 (QI SM G r rg σ1) :=
  Ct.of (by decide +kernel) (Nat.le_of_ble_eq_true rfl) fun E X Y => by
    have o : Ok (fX12_readCompared s0) (fun x σ' => x = r ∧ σ' = σ1) := ⟨r, σ1, e, rfl, rfl⟩
    unfold fX12_readCompared at o
    exact (
z_aload_n X 0 dX12_readCompared_0 rfl <|
z_callvI X dX12_readCompared_1 q_1950 wX12_readSum sm_0 rfl (by decide) [] [] rfl rfl (Nat.le_of_ble_eq_true rfl) (fun r σ1 e => ct_X12_readSum G _ r σ1 e) o fun r1 s2 h3 o =>
z_iconst X dX12_readCompared_4 <|
z_icmp_ne (tgt := 10) X dX12_readCompared_5 (by decide) h3 kc_m1 o (fun o =>
z_aload_n X 0 dX12_readCompared_10 rfl <|
z_bipush X dX12_readCompared_11 bi_60 <|
z_callvI X dX12_readCompared_13 q_1918 wX12_isSign sm_0 rfl (by decide) [.int (pI 60)] [] rfl rfl (Nat.le_of_ble_eq_true rfl) (fun r σ1 e => ct_X12_isSign 60 kc_60 G _ r σ1 e) o fun r4 s5 h6 o =>
z_joix o (fun (y16 : Unit) s17 => True → At E s17 43 [(0, .ref (G.2.2.1 0))] []) (fun y16 s17 o r18 =>
z_aload_n X 0 dX12_readCompared_43 rfl <|
z_getI X dX12_readCompared_44 fl_X12_239 sm_0 rfl o fun v19 r20 o =>
z_bipush X dX12_readCompared_47 bi_60 <|
z_join o (fun (y23 : Int) s24 => rg y23 → At E s24 73 [(0, .ref (G.2.2.1 0))] [.int (pI y23)]) (fun y23 s24 o r25 =>
z_istore_n (L1 := [(1, .int (pI y23)), (0, .ref (G.2.2.1 0))]) X dX12_readCompared_73 rfl (by decide) rfl <|
z_aload_n X 1 dX12_readCompared_74 rfl <|
z_callvV X dX12_readCompared_75 q_1866 wX12_reads sm_0 rfl (by decide) [] [] rfl rfl (Nat.le_of_ble_eq_true rfl) (fun r σ1 e => ct_X12_reads G _ r σ1 e) o fun r26 s27 o =>
z_aload_n X 1 dX12_readCompared_78 rfl <|
z_callvI X dX12_readCompared_79 q_1950 wX12_readSum sm_0 rfl (by decide) [] [] rfl rfl (Nat.le_of_ble_eq_true rfl) (fun r σ1 e => ct_X12_readSum G _ r σ1 e) o fun r29 s30 h31 o =>
z_iconst X dX12_readCompared_82 <|
z_icmp_ne (tgt := 88) X dX12_readCompared_83 (by decide) h31 kc_m1 o (fun o =>
z_aload_n X 1 dX12_readCompared_88 rfl <|
z_iload_n X 0 dX12_readCompared_89 rfl <|
z_iconst X dX12_readCompared_90 <|
z_callvV X dX12_readCompared_91 q_1966 wX12_emits sm_0 rfl (by decide) [.int (pI y23), .int (pI 0)] [] rfl rfl (Nat.le_of_ble_eq_true rfl) (fun r σ1 e => ct_X12_emits y23 0 r25 kc_0 G _ r σ1 e) o fun r32 s33 o =>
z_iconst X dX12_readCompared_94 <|
z_iret X Y dX12_readCompared_95 o kc_0) fun o =>
z_iconst X dX12_readCompared_86 <|
z_iret X Y dX12_readCompared_87 o kc_m1) fun o =>
z_icmp_ne (tgt := 57) X dX12_readCompared_49 (by decide) r20 kc_60 o (fun o =>
z_aload_n X 0 dX12_readCompared_57 rfl <|
z_getI X dX12_readCompared_58 fl_X12_239 sm_0 rfl o fun v21 r22 o =>
z_bipush X dX12_readCompared_61 bi_61 <|
z_icmp_ne (tgt := 71) X dX12_readCompared_63 (by decide) r22 kc_61 o (fun o =>
z_bipush X dX12_readCompared_71 bi_8 <|
ok_some o kc_8) fun o =>
z_bipush X dX12_readCompared_66 bi_7 <|
z_goto (tgt := 73) X dX12_readCompared_68 (by decide) <|
ok_some o kc_7) fun o =>
z_bipush X dX12_readCompared_52 bi_6 <|
z_goto (tgt := 73) X dX12_readCompared_54 (by decide) <|
ok_some o kc_6) fun o =>
z_if_ne (tgt := 43) X dX12_readCompared_16 (by decide) (r01_rg h6) o (fun o =>
ok_some o trivial) fun o =>
z_aload_n X 0 dX12_readCompared_19 rfl <|
z_bipush X dX12_readCompared_20 bi_61 <|
z_callvI X dX12_readCompared_22 q_1918 wX12_isSign sm_0 rfl (by decide) [.int (pI 61)] [] rfl rfl (Nat.le_of_ble_eq_true rfl) (fun r σ1 e => ct_X12_isSign 61 kc_61 G _ r σ1 e) o fun r7 s8 h9 o =>
z_if_ne (tgt := 43) X dX12_readCompared_25 (by decide) (r01_rg h9) o (fun o =>
ok_some o trivial) fun o =>
z_aload_n X 0 dX12_readCompared_28 rfl <|
z_bipush X dX12_readCompared_29 bi_62 <|
z_callvI X dX12_readCompared_31 q_1918 wX12_isSign sm_0 rfl (by decide) [.int (pI 62)] [] rfl rfl (Nat.le_of_ble_eq_true rfl) (fun r σ1 e => ct_X12_isSign 62 kc_62 G _ r σ1 e) o fun r10 s11 h12 o =>
z_if_ne (tgt := 43) X dX12_readCompared_34 (by decide) (r01_rg h12) o (fun o =>
ok_some o trivial) fun o =>
z_aload_n X 0 dX12_readCompared_37 rfl <|
z_iconst X dX12_readCompared_38 <|
z_callvI X dX12_readCompared_39 q_1898 wX12_errs sm_0 rfl (by decide) [.int (pI 1)] [] rfl rfl (Nat.le_of_ble_eq_true rfl) (fun r σ1 e => ct_X12_errs 1 kc_1 G _ r σ1 e) o fun r13 s14 h15 o =>
z_iret X Y dX12_readCompared_42 (ok_ret (ok_some o)) h15) fun o =>
z_iconst X dX12_readCompared_8 <|
z_iret X Y dX12_readCompared_9 o kc_m1 : At E s0 0 [(0, .ref (G.2.2.1 0))] [])
set_option maxHeartbeats 4000000 in
set_option maxRecDepth 100000 in
theorem ct_X12_readAny   (G : Gw) (s0 : St) (r : Int) (σ1 : St) (e : fX12_readAny s0 = some (r, σ1)) : Ct yX12_readAny cX12_readAny 4 (some .int) 7 149 SM G [.ref (G.2.2.1 0)] s0 (QI SM G r rg σ1) :=
  Ct.of (by decide +kernel) (Nat.le_of_ble_eq_true rfl) fun E X Y => by
    have o : Ok (fX12_readAny s0) (fun x σ' => x = r ∧ σ' = σ1) := ⟨r, σ1, e, rfl, rfl⟩
    unfold fX12_readAny at o
    exact (
z_iconst X dX12_readAny_0 <|
z_istore_n (L1 := [(1, .int (pI 0)), (0, .ref (G.2.2.1 0))]) X dX12_readAny_1 rfl (by decide) rfl <|
z_aload_n X 1 dX12_readAny_2 rfl <|
z_iconst X dX12_readAny_3 <|
z_putI X dX12_readAny_4 fl_X12_290 sm_0 ft_X12_30 rfl kc_0 o fun s1 o =>
z_iconst X dX12_readAny_7 <|
z_istore_n (L1 := [(2, .int (pI 1)), (1, .int (pI 0)), (0, .ref (G.2.2.1 0))]) X dX12_readAny_8 rfl (by decide) rfl <|
z_joix o (fun (y92 : Unit) s93 => True → At E s93 42 [(0, .ref (G.2.2.1 0))] []) (fun y92 s93 o r94 =>
z_aload_n X 0 dX12_readAny_42 rfl <|
z_iconst X dX12_readAny_43 <|
z_callvI X dX12_readAny_44 q_1898 wX12_errs sm_0 rfl (by decide) [.int (pI 3)] [] rfl rfl (Nat.le_of_ble_eq_true rfl) (fun r σ1 e => ct_X12_errs 3 kc_3 G _ r σ1 e) o fun r95 s96 h97 o =>
z_iret X Y dX12_readAny_47 o h97) fun o =>
z_sub (L1 := [(0, .ref (G.2.2.1 0)), (1, .int (pI 0)), (2, .int (pI 1))]) X [2, 1, 0] rfl <|
z_iter (fun (x2 : Int × Int) s3 => rg x2.1 ∧ r01 x2.2 → At E s3 9 [(0, .ref (G.2.2.1 0)), (1, .int (pI x2.1)), (2, .int (pI x2.2))] []) o (fun x2 s3 o r4 =>
z_iload_n X 2 dX12_readAny_9 rfl <|
z_if_eq (tgt := 109) X dX12_readAny_10 (by decide) (r01_rg r4.2) o (fun o =>
z_aload_n X 0 dX12_readAny_109 rfl <|
z_iconst X dX12_readAny_110 <|
z_callvI X dX12_readAny_111 q_1894 wX12_isWord sm_0 rfl (by decide) [.int (pI 5)] [] rfl rfl (Nat.le_of_ble_eq_true rfl) (fun r σ1 e => ct_X12_isWord 5 kc_5 G _ r σ1 e) o fun r5 s6 h7 o =>
z_if_eq (tgt := 138) X dX12_readAny_114 (by decide) (r01_rg h7) o (fun o =>
z_aload_n X 0 dX12_readAny_138 rfl <|
z_iconst X dX12_readAny_139 <|
z_callvI X dX12_readAny_140 q_1894 wX12_isWord sm_0 rfl (by decide) [.int (pI 4)] [] rfl rfl (Nat.le_of_ble_eq_true rfl) (fun r σ1 e => ct_X12_isWord 4 kc_4 G _ r σ1 e) o fun r8 s9 h10 o =>
z_if_eq (tgt := 173) X dX12_readAny_143 (by decide) (r01_rg h10) o (fun o =>
z_aload_n X 0 dX12_readAny_173 rfl <|
z_bipush X dX12_readAny_174 bi_10 <|
z_callvV X dX12_readAny_176 q_1982 wX12_settles sm_0 rfl (by decide) [.int (pI 10)] [] rfl rfl (Nat.le_of_ble_eq_true rfl) (fun r σ1 e => ct_X12_settles 10 kc_10 G _ r σ1 e) o fun r11 s12 o =>
z_aload_n X 0 dX12_readAny_179 rfl <|
z_bipush X dX12_readAny_180 bi_11 <|
z_callvV X dX12_readAny_182 q_1982 wX12_settles sm_0 rfl (by decide) [.int (pI 11)] [] rfl rfl (Nat.le_of_ble_eq_true rfl) (fun r σ1 e => ct_X12_settles 11 kc_11 G _ r σ1 e) o fun r14 s15 o =>
z_iload_n X 1 dX12_readAny_185 rfl <|
z_if_ne (tgt := 191) X dX12_readAny_186 (by decide) r4.1 o (fun o =>
z_aload_n X 0 dX12_readAny_191 rfl <|
z_bipush X dX12_readAny_192 bi_41 <|
z_callvI X dX12_readAny_194 q_1918 wX12_isSign sm_0 rfl (by decide) [.int (pI 41)] [] rfl rfl (Nat.le_of_ble_eq_true rfl) (fun r σ1 e => ct_X12_isSign 41 kc_41 G _ r σ1 e) o fun r17 s18 h19 o =>
z_if_ne (tgt := 206) X dX12_readAny_197 (by decide) (r01_rg h19) o (fun o =>
z_aload_n X 0 dX12_readAny_206 rfl <|
z_aload_n X 0 dX12_readAny_207 rfl <|
z_getI X dX12_readAny_208 fl_X12_290 sm_0 rfl o fun v20 r21 o =>
z_iconst X dX12_readAny_211 <|
z_isub X dX12_readAny_212 <|
z_putI X dX12_readAny_213 fl_X12_290 sm_0 ft_X12_30 rfl (w32_rg _) o fun s22 o =>
z_iload_n X 1 dX12_readAny_216 rfl <|
z_iconst X dX12_readAny_217 <|
z_isub X dX12_readAny_218 <|
z_istoreL_n (L1 := fun v23 => [(1, .int (pI v23)), (0, .ref (G.2.2.1 0)), (2, .int (pI x2.2))]) (R := rg) X dX12_readAny_219 rfl (by decide) (fun _ => rfl) o (w32_rg _) fun v23 r24 o =>
z_aload_n X 1 dX12_readAny_220 rfl <|
z_aload_n X 1 dX12_readAny_221 rfl <|
z_getI X dX12_readAny_222 fl_X12_293 sm_0 rfl o fun v25 r26 o =>
z_iconst X dX12_readAny_225 <|
z_isub X dX12_readAny_226 <|
z_putI X dX12_readAny_227 fl_X12_293 sm_0 ft_X12_28 rfl (w32_rg _) o fun s27 o =>
z_aload_n X 1 dX12_readAny_230 rfl <|
z_bipush X dX12_readAny_231 bi_9 <|
z_callvV X dX12_readAny_233 q_1982 wX12_settles sm_0 rfl (by decide) [.int (pI 9)] [] rfl rfl (Nat.le_of_ble_eq_true rfl) (fun r σ1 e => ct_X12_settles 9 kc_9 G _ r σ1 e) o fun r28 s29 o =>
z_aload_n X 1 dX12_readAny_236 rfl <|
z_callvV X dX12_readAny_237 q_1866 wX12_reads sm_0 rfl (by decide) [] [] rfl rfl (Nat.le_of_ble_eq_true rfl) (fun r σ1 e => ct_X12_reads G _ r σ1 e) o fun r31 s32 o =>
z_goto (tgt := 9) X dX12_readAny_240 (by decide) <|
z_sub (L1 := [(0, .ref (G.2.2.1 0)), (1, .int (pI v23)), (2, .int (pI x2.2))]) X [1, 0, 2] rfl <|
ok_some o ⟨r24, r4.2⟩) fun o =>
z_aload_n X 0 dX12_readAny_200 rfl <|
z_iconst X dX12_readAny_201 <|
z_callvI X dX12_readAny_202 q_1898 wX12_errs sm_0 rfl (by decide) [.int (pI 1)] [] rfl rfl (Nat.le_of_ble_eq_true rfl) (fun r σ1 e => ct_X12_errs 1 kc_1 G _ r σ1 e) o fun r34 s35 h36 o =>
z_iret X Y dX12_readAny_205 (ok_ret (ok_some o)) h36) fun o =>
z_iconst X dX12_readAny_189 <|
z_iret X Y dX12_readAny_190 (ok_ret (ok_some o)) kc_0) fun o =>
z_aload_n X 0 dX12_readAny_146 rfl <|
z_bipush X dX12_readAny_147 bi_10 <|
z_callvV X dX12_readAny_149 q_1982 wX12_settles sm_0 rfl (by decide) [.int (pI 10)] [] rfl rfl (Nat.le_of_ble_eq_true rfl) (fun r σ1 e => ct_X12_settles 10 kc_10 G _ r σ1 e) o fun r37 s38 o =>
z_aload_n X 0 dX12_readAny_152 rfl <|
z_bipush X dX12_readAny_153 bi_11 <|
z_callvV X dX12_readAny_155 q_1982 wX12_settles sm_0 rfl (by decide) [.int (pI 11)] [] rfl rfl (Nat.le_of_ble_eq_true rfl) (fun r σ1 e => ct_X12_settles 11 kc_11 G _ r σ1 e) o fun r40 s41 o =>
z_aload_n X 0 dX12_readAny_158 rfl <|
z_bipush X dX12_readAny_159 bi_11 <|
z_callvV X dX12_readAny_161 q_1974 wX12_waits sm_0 rfl (by decide) [.int (pI 11)] [] rfl rfl (Nat.le_of_ble_eq_true rfl) (fun r σ1 e => ct_X12_waits 11 kc_11 G _ r σ1 e) o fun r43 s44 o =>
z_aload_n X 0 dX12_readAny_164 rfl <|
z_callvV X dX12_readAny_165 q_1866 wX12_reads sm_0 rfl (by decide) [] [] rfl rfl (Nat.le_of_ble_eq_true rfl) (fun r σ1 e => ct_X12_reads G _ r σ1 e) o fun r46 s47 o =>
z_iconst X dX12_readAny_168 <|
z_istore_n (L1 := [(2, .int (pI 1)), (0, .ref (G.2.2.1 0)), (1, .int (pI x2.1))]) X dX12_readAny_169 rfl (by decide) rfl <|
z_goto (tgt := 9) X dX12_readAny_170 (by decide) <|
z_sub (L1 := [(0, .ref (G.2.2.1 0)), (1, .int (pI x2.1)), (2, .int (pI 1))]) X [1, 2, 0] rfl <|
ok_some o ⟨r4.1, kb_1⟩) fun o =>
z_aload_n X 0 dX12_readAny_117 rfl <|
z_bipush X dX12_readAny_118 bi_10 <|
z_callvV X dX12_readAny_120 q_1982 wX12_settles sm_0 rfl (by decide) [.int (pI 10)] [] rfl rfl (Nat.le_of_ble_eq_true rfl) (fun r σ1 e => ct_X12_settles 10 kc_10 G _ r σ1 e) o fun r49 s50 o =>
z_aload_n X 0 dX12_readAny_123 rfl <|
z_bipush X dX12_readAny_124 bi_10 <|
z_callvV X dX12_readAny_126 q_1974 wX12_waits sm_0 rfl (by decide) [.int (pI 10)] [] rfl rfl (Nat.le_of_ble_eq_true rfl) (fun r σ1 e => ct_X12_waits 10 kc_10 G _ r σ1 e) o fun r52 s53 o =>
z_aload_n X 0 dX12_readAny_129 rfl <|
z_callvV X dX12_readAny_130 q_1866 wX12_reads sm_0 rfl (by decide) [] [] rfl rfl (Nat.le_of_ble_eq_true rfl) (fun r σ1 e => ct_X12_reads G _ r σ1 e) o fun r55 s56 o =>
z_iconst X dX12_readAny_133 <|
z_istore_n (L1 := [(2, .int (pI 1)), (0, .ref (G.2.2.1 0)), (1, .int (pI x2.1))]) X dX12_readAny_134 rfl (by decide) rfl <|
z_goto (tgt := 9) X dX12_readAny_135 (by decide) <|
z_sub (L1 := [(0, .ref (G.2.2.1 0)), (1, .int (pI x2.1)), (2, .int (pI 1))]) X [1, 2, 0] rfl <|
ok_some o ⟨r4.1, kb_1⟩) fun o =>
z_aload_n X 0 dX12_readAny_13 rfl <|
z_bipush X dX12_readAny_14 bi_6 <|
z_callvI X dX12_readAny_16 q_1894 wX12_isWord sm_0 rfl (by decide) [.int (pI 6)] [] rfl rfl (Nat.le_of_ble_eq_true rfl) (fun r σ1 e => ct_X12_isWord 6 kc_6 G _ r σ1 e) o fun r58 s59 h60 o =>
z_istore_n (L1 := [(3, .int (pI r58)), (0, .ref (G.2.2.1 0)), (1, .int (pI x2.1)), (2, .int (pI x2.2))]) X dX12_readAny_19 rfl (by decide) rfl <|
z_iload_n X 0 dX12_readAny_20 rfl <|
z_joix o (fun (y70 : Int) s71 => r01 y70 → At E s71 33 [(0, .ref (G.2.2.1 0)), (1, .int (pI x2.1)), (2, .int (pI y70)), (3, .int (pI r58))] []) (fun y70 s71 o r72 =>
z_aload_n X 0 dX12_readAny_33 rfl <|
z_getI X dX12_readAny_34 fl_X12_293 sm_0 rfl o fun v73 r74 o =>
z_bipush X dX12_readAny_37 bi_8 <|
z_icmp_ne (tgt := 48) X dX12_readAny_39 (by decide) r74 kc_8 o (fun o =>
z_aload_n X 0 dX12_readAny_48 rfl <|
z_aload_n X 0 dX12_readAny_49 rfl <|
z_getI X dX12_readAny_50 fl_X12_293 sm_0 rfl o fun v75 r76 o =>
z_iconst X dX12_readAny_53 <|
z_iadd X dX12_readAny_54 <|
z_putI X dX12_readAny_55 fl_X12_293 sm_0 ft_X12_28 rfl (w32_rg _) o fun s77 o =>
z_iload_n X 3 dX12_readAny_58 rfl <|
z_join o (fun (y80 : Int) s81 => rg y80 → At E s81 66 [(0, .ref (G.2.2.1 0)), (1, .int (pI y80)), (2, .int (pI y70)), (3, .int (pI r58))] []) (fun y80 s81 o r82 =>
z_aload_n X 0 dX12_readAny_66 rfl <|
z_iload_n X 3 dX12_readAny_67 rfl <|
z_join o (fun (y83 : Int) s84 => rg y83 → At E s84 78 [(0, .ref (G.2.2.1 0)), (1, .int (pI y80)), (2, .int (pI y70))] [.int (pI y83), .ref (G.2.2.1 0)]) (fun y83 s84 o r85 =>
z_callvV X dX12_readAny_78 q_1974 wX12_waits sm_0 rfl (by decide) [.int (pI y83)] [] rfl rfl (Nat.le_of_ble_eq_true rfl) (fun r σ1 e => ct_X12_waits y83 r85 G _ r σ1 e) o fun r86 s87 o =>
z_aload_n X 0 dX12_readAny_81 rfl <|
z_callvV X dX12_readAny_82 q_1866 wX12_reads sm_0 rfl (by decide) [] [] rfl rfl (Nat.le_of_ble_eq_true rfl) (fun r σ1 e => ct_X12_reads G _ r σ1 e) o fun r89 s90 o =>
z_goto (tgt := 9) X dX12_readAny_85 (by decide) <|
ok_some o ⟨r82, r72⟩) fun o =>
z_if_eq (tgt := 76) X dX12_readAny_68 (by decide) (r01_rg h60) o (fun o =>
z_bipush X dX12_readAny_76 bi_12 <|
z_sub (L1 := [(0, .ref (G.2.2.1 0)), (1, .int (pI y80)), (2, .int (pI y70))]) X [0, 1, 2] rfl <|
ok_some o kc_12) fun o =>
z_bipush X dX12_readAny_71 bi_9 <|
z_goto (tgt := 78) X dX12_readAny_73 (by decide) <|
z_sub (L1 := [(0, .ref (G.2.2.1 0)), (1, .int (pI y80)), (2, .int (pI y70))]) X [0, 1, 2] rfl <|
ok_some o kc_9) fun o =>
z_if_ne (tgt := 66) X dX12_readAny_59 (by decide) (r01_rg h60) o (fun o =>
ok_some o r4.1) fun o =>
z_iload_n X 1 dX12_readAny_62 rfl <|
z_iconst X dX12_readAny_63 <|
z_iadd X dX12_readAny_64 <|
z_istoreL_n (L1 := fun v78 => [(1, .int (pI v78)), (0, .ref (G.2.2.1 0)), (2, .int (pI y70)), (3, .int (pI r58))]) (R := rg) X dX12_readAny_65 rfl (by decide) (fun _ => rfl) o (w32_rg _) fun v78 r79 o =>
z_sub (L1 := [(0, .ref (G.2.2.1 0)), (1, .int (pI v78)), (2, .int (pI y70)), (3, .int (pI r58))]) X [1, 0, 2, 3] rfl <|
ok_some o r79) fun o =>
z_sub (L1 := [(0, .ref (G.2.2.1 0))]) X [0] rfl <|
ok_some o trivial) fun o =>
z_if_ne (tgt := 33) X dX12_readAny_21 (by decide) (r01_rg h60) o (fun o =>
z_sub (L1 := [(0, .ref (G.2.2.1 0)), (1, .int (pI x2.1)), (2, .int (pI x2.2)), (3, .int (pI r58))]) X [1, 2, 3, 0] rfl <|
ok_some o r4.2) fun o =>
z_aload_n X 1 dX12_readAny_24 rfl <|
z_bipush X dX12_readAny_25 bi_40 <|
z_callvI X dX12_readAny_27 q_1918 wX12_isSign sm_0 rfl (by decide) [.int (pI 40)] [] rfl rfl (Nat.le_of_ble_eq_true rfl) (fun r σ1 e => ct_X12_isSign 40 kc_40 G _ r σ1 e) o fun r61 s62 h63 o =>
z_if_eq (tgt := 88) X dX12_readAny_30 (by decide) (r01_rg h63) o (fun o =>
z_aload_n X 1 dX12_readAny_88 rfl <|
z_callvI X dX12_readAny_89 q_1978 wX12_readCompared sm_0 rfl (by decide) [] [] rfl rfl (Nat.le_of_ble_eq_true rfl) (fun r σ1 e => ct_X12_readCompared G _ r σ1 e) o fun r64 s65 h66 o =>
z_iconst X dX12_readAny_92 <|
z_icmp_ne (tgt := 98) X dX12_readAny_93 (by decide) h66 kc_m1 o (fun o =>
z_aload_n X 1 dX12_readAny_98 rfl <|
z_bipush X dX12_readAny_99 bi_9 <|
z_callvV X dX12_readAny_101 q_1982 wX12_settles sm_0 rfl (by decide) [.int (pI 9)] [] rfl rfl (Nat.le_of_ble_eq_true rfl) (fun r σ1 e => ct_X12_settles 9 kc_9 G _ r σ1 e) o fun r67 s68 o =>
z_iconst X dX12_readAny_104 <|
z_istore_n (L1 := [(2, .int (pI 0)), (3, .int (pI r58)), (0, .ref (G.2.2.1 0)), (1, .int (pI x2.1))]) X dX12_readAny_105 rfl (by decide) rfl <|
z_goto (tgt := 9) X dX12_readAny_106 (by decide) <|
z_sub (L1 := [(0, .ref (G.2.2.1 0)), (1, .int (pI x2.1)), (2, .int (pI 0))]) X [2, 3, 0] rfl <|
ok_some o ⟨r4.1, kb_0⟩) fun o =>
z_iconst X dX12_readAny_96 <|
z_iret X Y dX12_readAny_97 (ok_ret (ok_some o)) kc_m1) fun o =>
z_sub (L1 := [(0, .ref (G.2.2.1 0)), (1, .int (pI x2.1)), (2, .int (pI x2.2)), (3, .int (pI r58))]) X [1, 2, 3, 0] rfl <|
ok_some o r4.2) ⟨kc_0, kb_1⟩ : At E s0 0 [(0, .ref (G.2.2.1 0))] [])
set_option maxHeartbeats 4000000 in
set_option maxRecDepth 100000 in
theorem ct_X12_readNumber (p1 : Int) (p2 : Int) (hp1 : rg p1) (hp2 : rg p2) (G : Gw) (s0 : St) (r : Int) (σ1 : St) (e : fX12_readNumber p1 p2 s0 = some (r, σ1)) : Ct yX12_readNumber cX12_readNumber 4 (some .int) 3 65 SM G [.ref (G.2.2.1 0), .int (pI p1), .int (pI p2)] s0 (QI SM G r rg σ1) :=
  Ct.of (by decide +kernel) (Nat.le_of_ble_eq_true rfl) fun E X Y => by
    have o : Ok (fX12_readNumber p1 p2 s0) (fun x σ' => x = r ∧ σ' = σ1) := ⟨r, σ1, e, rfl, rfl⟩
    unfold fX12_readNumber at o
    exact (
z_aload_n X 0 dX12_readNumber_0 rfl <|
z_getI X dX12_readNumber_1 fl_X12_236 sm_0 rfl o fun v1 r2 o =>
z_iconst X dX12_readNumber_4 <|
z_icmp_eq (tgt := 14) X dX12_readNumber_5 (by decide) r2 kc_3 o (fun o =>
z_aload_n X 0 dX12_readNumber_14 rfl <|
z_aload_n X 0 dX12_readNumber_15 rfl <|
z_getI X dX12_readNumber_16 fl_X12_239 sm_0 rfl o fun v3 r4 o =>
z_iload_n X 1 dX12_readNumber_19 rfl <|
z_iload_n X 2 dX12_readNumber_20 rfl <|
z_callvI X dX12_readNumber_21 q_1822 wX12_isIn sm_0 rfl (by decide) [.int (pI v3), .int (pI p1), .int (pI p2)] [] rfl rfl (Nat.le_of_ble_eq_true rfl) (fun r σ1 e => ct_X12_isIn v3 p1 p2 r4 hp1 hp2 G _ r σ1 e) o fun r5 s6 h7 o =>
z_if_ne (tgt := 33) X dX12_readNumber_24 (by decide) (r01_rg h7) o (fun o =>
z_aload_n X 0 dX12_readNumber_33 rfl <|
z_getI X dX12_readNumber_34 fl_X12_239 sm_0 rfl o fun v8 r9 o =>
z_istore_n (L1 := [(3, .int (pI v8)), (0, .ref (G.2.2.1 0)), (1, .int (pI p1)), (2, .int (pI p2))]) X dX12_readNumber_37 rfl (by decide) rfl <|
z_aload_n X 1 dX12_readNumber_38 rfl <|
z_callvV X dX12_readNumber_39 q_1866 wX12_reads sm_0 rfl (by decide) [] [] rfl rfl (Nat.le_of_ble_eq_true rfl) (fun r σ1 e => ct_X12_reads G _ r σ1 e) o fun r10 s11 o =>
z_iload_n X 0 dX12_readNumber_42 rfl <|
z_iret X Y dX12_readNumber_43 o r9) fun o =>
z_aload_n X 0 dX12_readNumber_27 rfl <|
z_iconst X dX12_readNumber_28 <|
z_callvI X dX12_readNumber_29 q_1898 wX12_errs sm_0 rfl (by decide) [.int (pI 2)] [] rfl rfl (Nat.le_of_ble_eq_true rfl) (fun r σ1 e => ct_X12_errs 2 kc_2 G _ r σ1 e) o fun r13 s14 h15 o =>
z_iret X Y dX12_readNumber_32 o h15) fun o =>
z_aload_n X 0 dX12_readNumber_8 rfl <|
z_iconst X dX12_readNumber_9 <|
z_callvI X dX12_readNumber_10 q_1898 wX12_errs sm_0 rfl (by decide) [.int (pI 1)] [] rfl rfl (Nat.le_of_ble_eq_true rfl) (fun r σ1 e => ct_X12_errs 1 kc_1 G _ r σ1 e) o fun r16 s17 h18 o =>
z_iret X Y dX12_readNumber_13 o h18 : At E s0 0 [(0, .ref (G.2.2.1 0)), (1, .int (pI p1)), (2, .int (pI p2))] [])
set_option maxHeartbeats 4000000 in
set_option maxRecDepth 100000 in
theorem ct_X12_readTold (p1 : Int) (p2 : Int) (p3 : Int) (hp1 : rg p1) (hp2 : rg p2) (hp3 : rg p3) (G : Gw) (s0 : St) (r : Int) (σ1 : St) (e : fX12_readTold p1 p2 p3 s0 = some (r, σ1)) : Ct yX12_readTold cX12_readTold 4 (some .int) 4 88 SM G [.ref (G.2.2.1 0), .int (pI p1), .int (pI p2), .int (pI p3)] s0 (QI SM G r rg σ1) :=
  Ct.of (by decide +kernel) (Nat.le_of_ble_eq_true rfl) fun E X Y => by
    have o : Ok (fX12_readTold p1 p2 p3 s0) (fun x σ' => x = r ∧ σ' = σ1) := ⟨r, σ1, e, rfl, rfl⟩
    unfold fX12_readTold at o
    exact (
z_aload_n X 0 dX12_readTold_0 rfl <|
z_iload_n X 1 dX12_readTold_1 rfl <|
z_callvI X dX12_readTold_2 q_1894 wX12_isWord sm_0 rfl (by decide) [.int (pI p1)] [] rfl rfl (Nat.le_of_ble_eq_true rfl) (fun r σ1 e => ct_X12_isWord p1 hp1 G _ r σ1 e) o fun r1 s2 h3 o =>
z_if_ne (tgt := 14) X dX12_readTold_5 (by decide) (r01_rg h3) o (fun o =>
z_aload_n X 0 dX12_readTold_14 rfl <|
z_callvV X dX12_readTold_15 q_1866 wX12_reads sm_0 rfl (by decide) [] [] rfl rfl (Nat.le_of_ble_eq_true rfl) (fun r σ1 e => ct_X12_reads G _ r σ1 e) o fun r4 s5 o =>
z_aload_n X 0 dX12_readTold_18 rfl <|
z_iload_n X 2 dX12_readTold_19 rfl <|
z_iload_n X 3 dX12_readTold_20 rfl <|
z_callvI X dX12_readTold_21 q_1910 wX12_readNumber sm_0 rfl (by decide) [.int (pI p2), .int (pI p3)] [] rfl rfl (Nat.le_of_ble_eq_true rfl) (fun r σ1 e => ct_X12_readNumber p2 p3 hp2 hp3 G _ r σ1 e) o fun r7 s8 h9 o =>
z_iret X Y dX12_readTold_24 o h9) fun o =>
z_aload_n X 0 dX12_readTold_8 rfl <|
z_iconst X dX12_readTold_9 <|
z_callvI X dX12_readTold_10 q_1898 wX12_errs sm_0 rfl (by decide) [.int (pI 1)] [] rfl rfl (Nat.le_of_ble_eq_true rfl) (fun r σ1 e => ct_X12_errs 1 kc_1 G _ r σ1 e) o fun r10 s11 h12 o =>
z_iret X Y dX12_readTold_13 o h12 : At E s0 0 [(0, .ref (G.2.2.1 0)), (1, .int (pI p1)), (2, .int (pI p2)), (3, .int (pI p3))] [])
set_option maxHeartbeats 4000000 in
set_option maxRecDepth 100000 in
theorem ct_X12_readMark (p1 : Int) (hp1 : rg p1) (G : Gw) (s0 : St) (r : Int) (σ1 : St) (e : fX12_readMark p1 s0 = some (r, σ1)) : Ct yX12_readMark cX12_readMark 2 (some .int) 3 65 SM G [.ref (G.2.2.1 0), .int (pI p1)] s0 (QI SM G r rg σ1) :=
  Ct.of (by decide +kernel) (Nat.le_of_ble_eq_true rfl) fun E X Y => by
    have o : Ok (fX12_readMark p1 s0) (fun x σ' => x = r ∧ σ' = σ1) := ⟨r, σ1, e, rfl, rfl⟩
    unfold fX12_readMark at o
    exact (
z_aload_n X 0 dX12_readMark_0 rfl <|
z_iload_n X 1 dX12_readMark_1 rfl <|
z_callvI X dX12_readMark_2 q_1918 wX12_isSign sm_0 rfl (by decide) [.int (pI p1)] [] rfl rfl (Nat.le_of_ble_eq_true rfl) (fun r σ1 e => ct_X12_isSign p1 hp1 G _ r σ1 e) o fun r1 s2 h3 o =>
z_if_ne (tgt := 14) X dX12_readMark_5 (by decide) (r01_rg h3) o (fun o =>
z_aload_n X 0 dX12_readMark_14 rfl <|
z_callvV X dX12_readMark_15 q_1866 wX12_reads sm_0 rfl (by decide) [] [] rfl rfl (Nat.le_of_ble_eq_true rfl) (fun r σ1 e => ct_X12_reads G _ r σ1 e) o fun r4 s5 o =>
z_iconst X dX12_readMark_18 <|
z_iret X Y dX12_readMark_19 o kc_0) fun o =>
z_aload_n X 0 dX12_readMark_8 rfl <|
z_iconst X dX12_readMark_9 <|
z_callvI X dX12_readMark_10 q_1898 wX12_errs sm_0 rfl (by decide) [.int (pI 1)] [] rfl rfl (Nat.le_of_ble_eq_true rfl) (fun r σ1 e => ct_X12_errs 1 kc_1 G _ r σ1 e) o fun r7 s8 h9 o =>
z_iret X Y dX12_readMark_13 o h9 : At E s0 0 [(0, .ref (G.2.2.1 0)), (1, .int (pI p1))] [])
set_option maxHeartbeats 4000000 in
set_option maxRecDepth 100000 in
theorem ct_X12_readCall (p1 : Int) (hp1 : rg p1) (G : Gw) (s0 : St) (r : Int) (σ1 : St) (e : fX12_readCall p1 s0 = some (r, σ1)) : Ct yX12_readCall cX12_readCall 2 (some .int) 5 111 SM G [.ref (G.2.2.1 0), .int (pI p1)] s0 (QI SM G r rg σ1) :=
  Ct.of (by decide +kernel) (Nat.le_of_ble_eq_true rfl) fun E X Y => by
    have o : Ok (fX12_readCall p1 s0) (fun x σ' => x = r ∧ σ' = σ1) := ⟨r, σ1, e, rfl, rfl⟩
    unfold fX12_readCall at o
    exact (
z_aload_n X 0 dX12_readCall_0 rfl <|
z_getR (q := 18) X dX12_readCall_1 fl_X12_65 sm_0 rfl <|
z_iload_n X 1 dX12_readCall_4 rfl <|
z_aload_n X 0 dX12_readCall_5 rfl <|
z_bipush X dX12_readCall_6 bi_17 <|
z_iconst X dX12_readCall_8 <|
z_aload_n X 0 dX12_readCall_9 rfl <|
z_getI X dX12_readCall_10 fl_X12_199 sm_0 rfl o fun v1 r2 o =>
z_iconst X dX12_readCall_13 <|
z_isub X dX12_readCall_14 <|
z_callvI X dX12_readCall_15 q_1906 wX12_readTold sm_0 rfl (by decide) [.int (pI 17), .int (pI 0), .int (pI (w32 (v1 - 1)))] [.int (pI p1), .ref (G.2.2.1 18)] rfl rfl (Nat.le_of_ble_eq_true rfl) (fun r σ1 e => ct_X12_readTold 17 0 (w32 (v1 - 1)) kc_17 kc_0 (w32_rg _) G _ r σ1 e) o fun r3 s4 h5 o =>
z_iast X dX12_readCall_18 sm_18 hp1 h5 o fun s6 o =>
z_aload_n X 0 dX12_readCall_19 rfl <|
z_getR (q := 18) X dX12_readCall_20 fl_X12_65 sm_0 rfl <|
z_iload_n X 1 dX12_readCall_23 rfl <|
z_iald X dX12_readCall_24 sm_18 hp1 o fun v7 r8 o =>
z_iconst X dX12_readCall_25 <|
z_icmp_ne (tgt := 31) X dX12_readCall_26 (by decide) r8 kc_m1 o (fun o =>
z_aload_n X 0 dX12_readCall_31 rfl <|
z_getR (q := 18) X dX12_readCall_32 fl_X12_65 sm_0 rfl <|
z_iload_n X 1 dX12_readCall_35 rfl <|
z_iconst X dX12_readCall_36 <|
z_iadd X dX12_readCall_37 <|
z_aload_n X 0 dX12_readCall_38 rfl <|
z_bipush X dX12_readCall_39 bi_18 <|
z_iconst X dX12_readCall_41 <|
z_bipush X dX12_readCall_42 bi_59 <|
z_callvI X dX12_readCall_44 q_1906 wX12_readTold sm_0 rfl (by decide) [.int (pI 18), .int (pI 0), .int (pI 59)] [.int (pI (w32 (p1 + 1))), .ref (G.2.2.1 18)] rfl rfl (Nat.le_of_ble_eq_true rfl) (fun r σ1 e => ct_X12_readTold 18 0 59 kc_18 kc_0 kc_59 G _ r σ1 e) o fun r9 s10 h11 o =>
z_iast X dX12_readCall_47 sm_18 (w32_rg _) h11 o fun s12 o =>
z_aload_n X 0 dX12_readCall_48 rfl <|
z_getR (q := 18) X dX12_readCall_49 fl_X12_65 sm_0 rfl <|
z_iload_n X 1 dX12_readCall_52 rfl <|
z_iconst X dX12_readCall_53 <|
z_iadd X dX12_readCall_54 <|
z_iald X dX12_readCall_55 sm_18 (w32_rg _) o fun v13 r14 o =>
z_iconst X dX12_readCall_56 <|
z_icmp_ne (tgt := 62) X dX12_readCall_57 (by decide) r14 kc_m1 o (fun o =>
z_aload_n X 0 dX12_readCall_62 rfl <|
z_getR (q := 18) X dX12_readCall_63 fl_X12_65 sm_0 rfl <|
z_iload_n X 1 dX12_readCall_66 rfl <|
z_iconst X dX12_readCall_67 <|
z_iadd X dX12_readCall_68 <|
z_aload_n X 0 dX12_readCall_69 rfl <|
z_bipush X dX12_readCall_70 bi_19 <|
z_iconst X dX12_readCall_72 <|
z_aload_n X 0 dX12_readCall_73 rfl <|
z_getI X dX12_readCall_74 fl_X12_196 sm_0 rfl o fun v15 r16 o =>
z_iconst X dX12_readCall_77 <|
z_isub X dX12_readCall_78 <|
z_callvI X dX12_readCall_79 q_1906 wX12_readTold sm_0 rfl (by decide) [.int (pI 19), .int (pI 0), .int (pI (w32 (v15 - 1)))] [.int (pI (w32 (p1 + 2))), .ref (G.2.2.1 18)] rfl rfl (Nat.le_of_ble_eq_true rfl) (fun r σ1 e => ct_X12_readTold 19 0 (w32 (v15 - 1)) kc_19 kc_0 (w32_rg _) G _ r σ1 e) o fun r17 s18 h19 o =>
z_iast X dX12_readCall_82 sm_18 (w32_rg _) h19 o fun s20 o =>
z_aload_n X 0 dX12_readCall_83 rfl <|
z_getR (q := 18) X dX12_readCall_84 fl_X12_65 sm_0 rfl <|
z_iload_n X 1 dX12_readCall_87 rfl <|
z_iconst X dX12_readCall_88 <|
z_iadd X dX12_readCall_89 <|
z_iald X dX12_readCall_90 sm_18 (w32_rg _) o fun v21 r22 o =>
z_iconst X dX12_readCall_91 <|
z_icmp_ne (tgt := 97) X dX12_readCall_92 (by decide) r22 kc_m1 o (fun o =>
z_aload_n X 0 dX12_readCall_97 rfl <|
z_getR (q := 18) X dX12_readCall_98 fl_X12_65 sm_0 rfl <|
z_iload_n X 1 dX12_readCall_101 rfl <|
z_iconst X dX12_readCall_102 <|
z_iadd X dX12_readCall_103 <|
z_aload_n X 0 dX12_readCall_104 rfl <|
z_bipush X dX12_readCall_105 bi_20 <|
z_iconst X dX12_readCall_107 <|
z_bipush X dX12_readCall_108 bi_60 <|
z_callvI X dX12_readCall_110 q_1906 wX12_readTold sm_0 rfl (by decide) [.int (pI 20), .int (pI 1), .int (pI 60)] [.int (pI (w32 (p1 + 3))), .ref (G.2.2.1 18)] rfl rfl (Nat.le_of_ble_eq_true rfl) (fun r σ1 e => ct_X12_readTold 20 1 60 kc_20 kc_1 kc_60 G _ r σ1 e) o fun r23 s24 h25 o =>
z_iast X dX12_readCall_113 sm_18 (w32_rg _) h25 o fun s26 o =>
z_aload_n X 0 dX12_readCall_114 rfl <|
z_getR (q := 18) X dX12_readCall_115 fl_X12_65 sm_0 rfl <|
z_iload_n X 1 dX12_readCall_118 rfl <|
z_iconst X dX12_readCall_119 <|
z_iadd X dX12_readCall_120 <|
z_iald X dX12_readCall_121 sm_18 (w32_rg _) o fun v27 r28 o =>
z_iconst X dX12_readCall_122 <|
z_icmp_ne (tgt := 130) X dX12_readCall_123 (by decide) r28 kc_m1 o (fun o =>
z_aload_n X 0 dX12_readCall_130 rfl <|
z_bipush X dX12_readCall_131 bi_59 <|
z_callvI X dX12_readCall_133 q_1914 wX12_readMark sm_0 rfl (by decide) [.int (pI 59)] [] rfl rfl (Nat.le_of_ble_eq_true rfl) (fun r σ1 e => ct_X12_readMark 59 kc_59 G _ r σ1 e) o fun r29 s30 h31 o =>
z_iret X Y dX12_readCall_136 o h31) fun o =>
z_iconst X dX12_readCall_126 <|
z_goto (tgt := 136) X dX12_readCall_127 (by decide) <|
z_iret X Y dX12_readCall_136 o kc_m1) fun o =>
z_iconst X dX12_readCall_95 <|
z_iret X Y dX12_readCall_96 o kc_m1) fun o =>
z_iconst X dX12_readCall_60 <|
z_iret X Y dX12_readCall_61 o kc_m1) fun o =>
z_iconst X dX12_readCall_29 <|
z_iret X Y dX12_readCall_30 o kc_m1 : At E s0 0 [(0, .ref (G.2.2.1 0)), (1, .int (pI p1))] [])
