set_option maxHeartbeats 4000000 in
set_option maxRecDepth 100000 in
theorem ct_X12_storm (p1 : Int) (p2 : Int) (hp1 : rg p1) (hp2 : rg p2) (G : Gw) (s0 : St) (r : Int) (σ1 : St) (e : fX12_storm p1 p2 s0 = some (r, σ1)) : Ct yX12_storm cX12_storm 6 (some .int) 2 48 SM G [.ref (G.2.2.1 0), .int (pI p1), .int (pI p2)] s0 (QI SM G r rg σ1) :=
  Ct.of (by decide +kernel) (Nat.le_of_ble_eq_true rfl) fun E X Y => by
    have o : Ok (fX12_storm p1 p2 s0) (fun x σ' => x = r ∧ σ' = σ1) := ⟨r, σ1, e, rfl, rfl⟩
    unfold fX12_storm at o
    exact (
z_aload_n X 0 dX12_storm_0 rfl <|
z_iconst X dX12_storm_1 <|
z_putI X dX12_storm_2 fl_X12_183 sm_0 ft_X12_0 rfl kc_0 o fun s1 o =>
z_aload_n X 0 dX12_storm_5 rfl <|
z_iload_n X 1 dX12_storm_6 rfl <|
z_iconst X dX12_storm_7 <|
z_bipush X dX12_storm_8 bi_30 <|
z_callvI X dX12_storm_10 q_1822 wX12_isIn sm_0 rfl (by decide) [.int (pI p1), .int (pI 1), .int (pI 30)] [] rfl rfl (Nat.le_of_ble_eq_true rfl) (fun r σ1 e => ct_X12_isIn p1 1 30 hp1 kc_1 kc_30 G _ r σ1 e) o fun r2 s3 h4 o =>
z_if_eq (tgt := 31) X dX12_storm_13 (by decide) (r01_rg h4) o (fun o =>
z_iconst X dX12_storm_31 <|
z_iret X Y dX12_storm_32 o kc_m1) fun o =>
z_iload_n X 2 dX12_storm_16 rfl <|
z_iconst X dX12_storm_17 <|
z_joix o (fun (y8 : Unit) s9 => True → At E s9 33 [(0, .ref (G.2.2.1 0)), (1, .int (pI p1)), (2, .int (pI p2))] []) (fun y8 s9 o r10 =>
z_iload_n X 2 dX12_storm_33 rfl <|
z_iconst X dX12_storm_34 <|
z_icmp_ne (tgt := 44) X dX12_storm_35 (by decide) hp2 kc_m1 o (fun o =>
z_iconst X dX12_storm_44 <|
z_istore_n (L1 := [(3, .int (pI 1)), (0, .ref (G.2.2.1 0)), (1, .int (pI p1)), (2, .int (pI p2))]) X dX12_storm_45 rfl (by decide) rfl <|
z_iconst X dX12_storm_46 <|
z_istore (L1 := [(4, .int (pI 0)), (3, .int (pI 1)), (0, .ref (G.2.2.1 0)), (1, .int (pI p1)), (2, .int (pI p2))]) X dX12_storm_47 (by decide) rfl <|
z_join o (fun (y18 : Int) s19 => rg y18 → At E s19 68 [(0, .ref (G.2.2.1 0)), (1, .int (pI p1)), (2, .int (pI p2)), (3, .int (pI y18))] []) (fun y18 s19 o r20 =>
z_iconst X dX12_storm_68 <|
z_istore (L1 := [(4, .int (pI 0)), (0, .ref (G.2.2.1 0)), (1, .int (pI p1)), (2, .int (pI p2)), (3, .int (pI y18))]) X dX12_storm_69 (by decide) rfl <|
z_iconst X dX12_storm_71 <|
z_istore (L1 := [(5, .int (pI 0)), (4, .int (pI 0)), (0, .ref (G.2.2.1 0)), (1, .int (pI p1)), (2, .int (pI p2)), (3, .int (pI y18))]) X dX12_storm_72 (by decide) rfl <|
z_join o (fun (y29 : Int) s30 => rg y29 → At E s30 103 [(4, .int (pI y29))] []) (fun y29 s30 o r31 =>
z_iload X 0 dX12_storm_103 rfl <|
z_iret X Y dX12_storm_105 o r31) fun o =>
z_sub (L1 := [(0, .ref (G.2.2.1 0)), (1, .int (pI p1)), (2, .int (pI p2)), (3, .int (pI y18)), (4, .int (pI 0)), (5, .int (pI 0))]) X [2, 3, 4, 5, 1, 0] rfl <|
z_iter (fun (x21 : Int × Int) s22 => rg x21.1 ∧ rg x21.2 → At E s22 74 [(0, .ref (G.2.2.1 0)), (1, .int (pI p1)), (2, .int (pI p2)), (3, .int (pI y18)), (4, .int (pI x21.1)), (5, .int (pI x21.2))] []) o (fun x21 s22 o r23 =>
z_iload X 5 dX12_storm_74 rfl <|
z_iload_n X 3 dX12_storm_76 rfl <|
z_icmp_ge (tgt := 103) X dX12_storm_77 (by decide) r23.2 r20 o (fun o =>
z_sub (L1 := [(4, .int (pI x21.1))]) X [4] rfl <|
ok_some o r23.1) fun o =>
z_aload_n X 0 dX12_storm_80 rfl <|
z_iload X 5 dX12_storm_81 rfl <|
z_iload_n X 1 dX12_storm_83 rfl <|
z_iload_n X 2 dX12_storm_84 rfl <|
z_callvI X dX12_storm_85 q_2234 wX12_isDry sm_0 rfl (by decide) [.int (pI x21.2), .int (pI p1), .int (pI p2)] [] rfl rfl (Nat.le_of_ble_eq_true rfl) (fun r σ1 e => ct_X12_isDry x21.2 p1 p2 r23.2 hp1 hp2 G _ r σ1 e) o fun r24 s25 h26 o =>
z_if_eq (tgt := 97) X dX12_storm_88 (by decide) (r01_rg h26) o (fun o =>
z_iinc (L1 := [(5, .int (pI (w32 (x21.2 + 1)))), (0, .ref (G.2.2.1 0)), (1, .int (pI p1)), (2, .int (pI p2)), (3, .int (pI y18)), (4, .int (pI x21.1))]) X 5 dX12_storm_97 rfl (by decide) rfl <|
z_goto (tgt := 74) X dX12_storm_100 (by decide) <|
z_sub (L1 := [(0, .ref (G.2.2.1 0)), (1, .int (pI p1)), (2, .int (pI p2)), (3, .int (pI y18)), (4, .int (pI x21.1)), (5, .int (pI (w32 (x21.2 + 1))))]) X [1, 2, 3, 4, 5, 0] rfl <|
ok_some o ⟨r23.1, (w32_rg _)⟩) fun o =>
z_iload X 4 dX12_storm_91 rfl <|
z_iconst X dX12_storm_93 <|
z_iadd X dX12_storm_94 <|
z_istoreL (L1 := fun v27 => [(4, .int (pI v27)), (0, .ref (G.2.2.1 0)), (1, .int (pI p1)), (2, .int (pI p2)), (3, .int (pI y18)), (5, .int (pI x21.2))]) (R := rg) X dX12_storm_95 (by decide) (fun _ => rfl) o (w32_rg _) fun v27 r28 o =>
z_iinc (L1 := [(5, .int (pI (w32 (x21.2 + 1)))), (4, .int (pI v27)), (0, .ref (G.2.2.1 0)), (1, .int (pI p1)), (2, .int (pI p2)), (3, .int (pI y18))]) X 5 dX12_storm_97 rfl (by decide) rfl <|
z_goto (tgt := 74) X dX12_storm_100 (by decide) <|
z_sub (L1 := [(0, .ref (G.2.2.1 0)), (1, .int (pI p1)), (2, .int (pI p2)), (3, .int (pI y18)), (4, .int (pI v27)), (5, .int (pI (w32 (x21.2 + 1))))]) X [2, 3, 4, 5, 1, 0] rfl <|
ok_some o ⟨r28, (w32_rg _)⟩) ⟨kc_0, kc_0⟩) fun o =>
z_sub (L1 := [(0, .ref (G.2.2.1 0)), (1, .int (pI p1)), (2, .int (pI p2)), (3, .int (pI 1)), (4, .int (pI 0))]) X [2, 3, 4, 1, 0] rfl <|
z_iter (fun (x11 : Int × Int) s12 => rg x11.1 ∧ rg x11.2 → At E s12 49 [(0, .ref (G.2.2.1 0)), (1, .int (pI p1)), (2, .int (pI p2)), (3, .int (pI x11.1)), (4, .int (pI x11.2))] []) o (fun x11 s12 o r13 =>
z_iload X 4 dX12_storm_49 rfl <|
z_aload_n X 0 dX12_storm_51 rfl <|
z_getI X dX12_storm_52 fl_X12_500 sm_0 rfl o fun v14 r15 o =>
z_icmp_ge (tgt := 68) X dX12_storm_55 (by decide) r13.2 r15 o (fun o =>
z_sub (L1 := [(0, .ref (G.2.2.1 0)), (1, .int (pI p1)), (2, .int (pI p2)), (3, .int (pI x11.1))]) X [0, 1, 2, 3] rfl <|
ok_some o r13.1) fun o =>
z_iload_n X 3 dX12_storm_58 rfl <|
z_iload_n X 2 dX12_storm_59 rfl <|
z_imul X dX12_storm_60 <|
z_istoreL_n (L1 := fun v16 => [(3, .int (pI v16)), (0, .ref (G.2.2.1 0)), (1, .int (pI p1)), (2, .int (pI p2)), (4, .int (pI x11.2))]) (R := rg) X dX12_storm_61 rfl (by decide) (fun _ => rfl) o (w32_rg _) fun v16 r17 o =>
z_iinc (L1 := [(4, .int (pI (w32 (x11.2 + 1)))), (3, .int (pI v16)), (0, .ref (G.2.2.1 0)), (1, .int (pI p1)), (2, .int (pI p2))]) X 4 dX12_storm_62 rfl (by decide) rfl <|
z_goto (tgt := 49) X dX12_storm_65 (by decide) <|
z_sub (L1 := [(0, .ref (G.2.2.1 0)), (1, .int (pI p1)), (2, .int (pI p2)), (3, .int (pI v16)), (4, .int (pI (w32 (x11.2 + 1))))]) X [2, 3, 4, 1, 0] rfl <|
ok_some o ⟨r17, (w32_rg _)⟩) ⟨kc_1, kc_0⟩) fun o =>
z_aload_n X 0 dX12_storm_38 rfl <|
z_iload_n X 1 dX12_storm_39 rfl <|
z_callvI X dX12_storm_40 q_2226 wX12_fewestPorches sm_0 rfl (by decide) [.int (pI p1)] [] rfl rfl (Nat.le_of_ble_eq_true rfl) (fun r σ1 e => ct_X12_fewestPorches p1 hp1 G _ r σ1 e) o fun r32 s33 h34 o =>
z_iret X Y dX12_storm_43 o h34) fun o =>
z_icmp_eq (tgt := 33) X dX12_storm_18 (by decide) hp2 kc_m1 o (fun o =>
ok_some o trivial) fun o =>
z_aload_n X 0 dX12_storm_21 rfl <|
z_iload_n X 2 dX12_storm_22 rfl <|
z_iconst X dX12_storm_23 <|
z_iconst X dX12_storm_24 <|
z_callvI X dX12_storm_25 q_1822 wX12_isIn sm_0 rfl (by decide) [.int (pI p2), .int (pI 1), .int (pI 4)] [] rfl rfl (Nat.le_of_ble_eq_true rfl) (fun r σ1 e => ct_X12_isIn p2 1 4 hp2 kc_1 kc_4 G _ r σ1 e) o fun r5 s6 h7 o =>
z_if_ne (tgt := 33) X dX12_storm_28 (by decide) (r01_rg h7) o (fun o =>
ok_some o trivial) fun o =>
z_iconst X dX12_storm_31 <|
z_iret X Y dX12_storm_32 (ok_ret (ok_some o)) kc_m1 : At E s0 0 [(0, .ref (G.2.2.1 0)), (1, .int (pI p1)), (2, .int (pI p2))] [])
set_option maxHeartbeats 4000000 in
set_option maxRecDepth 100000 in
theorem ct_X12_swing (p1 : Int) (hp1 : rg p1) (G : Gw) (s0 : St) (r : Int) (σ1 : St) (e : fX12_swing p1 s0 = some (r, σ1)) : Ct yX12_swing cX12_swing 2 (some .int) 1 23 SM G [.ref (G.2.2.1 0), .int (pI p1)] s0 (QI SM G r rg σ1) :=
  Ct.of (by decide +kernel) (Nat.le_of_ble_eq_true rfl) fun E X Y => by
    have o : Ok (fX12_swing p1 s0) (fun x σ' => x = r ∧ σ' = σ1) := ⟨r, σ1, e, rfl, rfl⟩
    unfold fX12_swing at o
    exact (
z_aload_n X 0 dX12_swing_0 rfl <|
z_iconst X dX12_swing_1 <|
z_putI X dX12_swing_2 fl_X12_183 sm_0 ft_X12_0 rfl kc_0 o fun s1 o =>
z_iload_n X 1 dX12_swing_5 rfl <|
z_iconst X dX12_swing_6 <|
z_icmp_ne (tgt := 17) X dX12_swing_7 (by decide) hp1 kc_m1 o (fun o =>
z_aload_n X 0 dX12_swing_17 rfl <|
z_iload_n X 1 dX12_swing_18 rfl <|
z_iconst X dX12_swing_19 <|
z_bipush X dX12_swing_20 bi_60 <|
z_callvI X dX12_swing_22 q_1822 wX12_isIn sm_0 rfl (by decide) [.int (pI p1), .int (pI 1), .int (pI 60)] [] rfl rfl (Nat.le_of_ble_eq_true rfl) (fun r σ1 e => ct_X12_isIn p1 1 60 hp1 kc_1 kc_60 G _ r σ1 e) o fun r2 s3 h4 o =>
z_if_eq (tgt := 37) X dX12_swing_25 (by decide) (r01_rg h4) o (fun o =>
z_iconst X dX12_swing_37 <|
z_iret X Y dX12_swing_38 o kc_m1) fun o =>
z_aload_n X 0 dX12_swing_28 rfl <|
z_getI X dX12_swing_29 fl_X12_537 sm_0 rfl o fun v5 r6 o =>
z_bipush X dX12_swing_32 bi_8 <|
z_icmp_ne (tgt := 39) X dX12_swing_34 (by decide) r6 kc_8 o (fun o =>
z_aload_n X 0 dX12_swing_39 rfl <|
z_getR (q := 45) X dX12_swing_40 fl_X12_146 sm_0 rfl <|
z_aload_n X 0 dX12_swing_43 rfl <|
z_getI X dX12_swing_44 fl_X12_537 sm_0 rfl o fun v7 r8 o =>
z_iload_n X 1 dX12_swing_47 rfl <|
z_iast X dX12_swing_48 sm_45 r8 hp1 o fun s9 o =>
z_aload_n X 0 dX12_swing_49 rfl <|
z_aload_n X 0 dX12_swing_50 rfl <|
z_getI X dX12_swing_51 fl_X12_537 sm_0 rfl o fun v10 r11 o =>
z_iconst X dX12_swing_54 <|
z_iadd X dX12_swing_55 <|
z_putI X dX12_swing_56 fl_X12_537 sm_0 ft_X12_70 rfl (w32_rg _) o fun s12 o =>
z_aload_n X 0 dX12_swing_59 rfl <|
z_getI X dX12_swing_60 fl_X12_537 sm_0 rfl o fun v13 r14 o =>
z_iret X Y dX12_swing_63 o r14) fun o =>
z_iconst X dX12_swing_37 <|
z_iret X Y dX12_swing_38 o kc_m1) fun o =>
z_aload_n X 0 dX12_swing_10 rfl <|
z_iconst X dX12_swing_11 <|
z_putI X dX12_swing_12 fl_X12_537 sm_0 ft_X12_70 rfl kc_0 o fun s15 o =>
z_iconst X dX12_swing_15 <|
z_iret X Y dX12_swing_16 o kc_0 : At E s0 0 [(0, .ref (G.2.2.1 0)), (1, .int (pI p1))] [])
set_option maxHeartbeats 4000000 in
set_option maxRecDepth 100000 in
theorem ct_X12_swings (p1 : Int) (hp1 : rg p1) (G : Gw) (s0 : St) (r : Int) (σ1 : St) (e : fX12_swings p1 s0 = some (r, σ1)) : Ct yX12_swings cX12_swings 4 (some .int) 2 45 SM G [.ref (G.2.2.1 0), .int (pI p1)] s0 (QI SM G r rg σ1) :=
  Ct.of (by decide +kernel) (Nat.le_of_ble_eq_true rfl) fun E X Y => by
    have o : Ok (fX12_swings p1 s0) (fun x σ' => x = r ∧ σ' = σ1) := ⟨r, σ1, e, rfl, rfl⟩
    unfold fX12_swings at o
    exact (
z_aload_n X 0 dX12_swings_0 rfl <|
z_iconst X dX12_swings_1 <|
z_putI X dX12_swings_2 fl_X12_183 sm_0 ft_X12_0 rfl kc_0 o fun s1 o =>
z_aload_n X 0 dX12_swings_5 rfl <|
z_iload_n X 1 dX12_swings_6 rfl <|
z_iconst X dX12_swings_7 <|
z_iconst X dX12_swings_8 <|
z_callvI X dX12_swings_9 q_1822 wX12_isIn sm_0 rfl (by decide) [.int (pI p1), .int (pI 0), .int (pI 1)] [] rfl rfl (Nat.le_of_ble_eq_true rfl) (fun r σ1 e => ct_X12_isIn p1 0 1 hp1 kc_0 kc_1 G _ r σ1 e) o fun r2 s3 h4 o =>
z_if_eq (tgt := 25) X dX12_swings_12 (by decide) (r01_rg h4) o (fun o =>
z_iconst X dX12_swings_25 <|
z_iret X Y dX12_swings_26 o kc_m1) fun o =>
z_aload_n X 0 dX12_swings_15 rfl <|
z_getI X dX12_swings_16 fl_X12_537 sm_0 rfl o fun v5 r6 o =>
z_iconst X dX12_swings_19 <|
z_irem X dX12_swings_20 r6 kc_2 o fun z7 o =>
z_iconst X dX12_swings_21 <|
z_icmp_ne (tgt := 27) X dX12_swings_22 (by decide) (irm_rg kc_2 z7) kc_1 o (fun o =>
z_aload_n X 0 dX12_swings_27 rfl <|
z_getI X dX12_swings_28 fl_X12_537 sm_0 rfl o fun v8 r9 o =>
z_if_ne (tgt := 36) X dX12_swings_31 (by decide) r9 o (fun o =>
z_iconst X dX12_swings_36 <|
z_istore_n (L1 := [(2, .int (pI (-1))), (0, .ref (G.2.2.1 0)), (1, .int (pI p1))]) X dX12_swings_37 rfl (by decide) rfl <|
z_iconst X dX12_swings_38 <|
z_istore_n (L1 := [(3, .int (pI 1)), (2, .int (pI (-1))), (0, .ref (G.2.2.1 0)), (1, .int (pI p1))]) X dX12_swings_39 rfl (by decide) rfl <|
z_join o (fun (y34 : Int) s35 => rg y34 → At E s35 91 [(0, .ref (G.2.2.1 0)), (1, .int (pI p1)), (2, .int (pI y34))] []) (fun y34 s35 o r36 =>
z_iload_n X 1 dX12_swings_91 rfl <|
z_if_ne (tgt := 103) X dX12_swings_92 (by decide) hp1 o (fun o =>
z_iload_n X 2 dX12_swings_103 rfl <|
z_iret X Y dX12_swings_104 o r36) fun o =>
z_aload_n X 0 dX12_swings_95 rfl <|
z_iload_n X 2 dX12_swings_96 rfl <|
z_callvI X dX12_swings_97 q_2295 wX12_heavierBy sm_0 rfl (by decide) [.int (pI y34)] [] rfl rfl (Nat.le_of_ble_eq_true rfl) (fun r σ1 e => ct_X12_heavierBy y34 r36 G _ r σ1 e) o fun r37 s38 h39 o =>
z_goto (tgt := 104) X dX12_swings_100 (by decide) <|
z_iret X Y dX12_swings_104 o h39) fun o =>
z_sub (L1 := [(0, .ref (G.2.2.1 0)), (1, .int (pI p1)), (2, .int (pI (-1))), (3, .int (pI 1))]) X [2, 3, 1, 0] rfl <|
z_iter (fun (x10 : Int × Int) s11 => rg x10.1 ∧ rg x10.2 → At E s11 40 [(0, .ref (G.2.2.1 0)), (1, .int (pI p1)), (2, .int (pI x10.1)), (3, .int (pI x10.2))] []) o (fun x10 s11 o r12 =>
z_iload_n X 3 dX12_swings_40 rfl <|
z_iconst X dX12_swings_41 <|
z_aload_n X 0 dX12_swings_42 rfl <|
z_getI X dX12_swings_43 fl_X12_537 sm_0 rfl o fun v13 r14 o =>
z_ishl X dX12_swings_46 <|
z_icmp_ge (tgt := 91) X dX12_swings_47 (by decide) r12.2 (int_rg _) o (fun o =>
z_sub (L1 := [(0, .ref (G.2.2.1 0)), (1, .int (pI p1)), (2, .int (pI x10.1))]) X [0, 1, 2] rfl <|
ok_some o r12.1) fun o =>
z_iconst X dX12_swings_50 <|
z_aload_n X 0 dX12_swings_51 rfl <|
z_iload_n X 3 dX12_swings_52 rfl <|
z_callvI X dX12_swings_53 q_2022 wX12_onesOf sm_0 rfl (by decide) [.int (pI x10.2)] [.int (pI 2)] rfl rfl (Nat.le_of_ble_eq_true rfl) (fun r σ1 e => ct_X12_onesOf x10.2 r12.2 G _ r σ1 e) o fun r15 s16 h17 o =>
z_imul X dX12_swings_56 <|
z_aload_n X 0 dX12_swings_57 rfl <|
z_getI X dX12_swings_58 fl_X12_537 sm_0 rfl o fun v18 r19 o =>
z_icmp_ne (tgt := 84) X dX12_swings_61 (by decide) (w32_rg _) r19 o (fun o =>
z_iload_n X 3 dX12_swings_84 rfl <|
z_iconst X dX12_swings_85 <|
z_iadd X dX12_swings_86 <|
z_istoreL_n (L1 := fun v20 => [(3, .int (pI v20)), (0, .ref (G.2.2.1 0)), (1, .int (pI p1)), (2, .int (pI x10.1))]) (R := rg) X dX12_swings_87 rfl (by decide) (fun _ => rfl) o (w32_rg _) fun v20 r21 o =>
z_goto (tgt := 40) X dX12_swings_88 (by decide) <|
z_sub (L1 := [(0, .ref (G.2.2.1 0)), (1, .int (pI p1)), (2, .int (pI x10.1)), (3, .int (pI v20))]) X [1, 2, 3, 0] rfl <|
ok_some o ⟨r12.1, r21⟩) fun o =>
z_iload_n X 2 dX12_swings_64 rfl <|
z_iconst X dX12_swings_65 <|
z_icmp_eq (tgt := 82) X dX12_swings_66 (by decide) r12.1 kc_m1 o (fun o =>
z_iload_n X 3 dX12_swings_82 rfl <|
z_istore_n (L1 := [(2, .int (pI x10.2)), (0, .ref (G.2.2.1 0)), (1, .int (pI p1)), (3, .int (pI x10.2))]) X dX12_swings_83 rfl (by decide) rfl <|
z_iload_n X 3 dX12_swings_84 rfl <|
z_iconst X dX12_swings_85 <|
z_iadd X dX12_swings_86 <|
z_istoreL_n (L1 := fun v22 => [(3, .int (pI v22)), (2, .int (pI x10.2)), (0, .ref (G.2.2.1 0)), (1, .int (pI p1))]) (R := rg) X dX12_swings_87 rfl (by decide) (fun _ => rfl) o (w32_rg _) fun v22 r23 o =>
z_goto (tgt := 40) X dX12_swings_88 (by decide) <|
z_sub (L1 := [(0, .ref (G.2.2.1 0)), (1, .int (pI p1)), (2, .int (pI x10.2)), (3, .int (pI v22))]) X [2, 3, 1, 0] rfl <|
ok_some o ⟨r12.2, r23⟩) fun o =>
z_aload_n X 0 dX12_swings_69 rfl <|
z_iload_n X 3 dX12_swings_70 rfl <|
z_callvI X dX12_swings_71 q_2295 wX12_heavierBy sm_0 rfl (by decide) [.int (pI x10.2)] [] rfl rfl (Nat.le_of_ble_eq_true rfl) (fun r σ1 e => ct_X12_heavierBy x10.2 r12.2 G _ r σ1 e) o fun r24 s25 h26 o =>
z_aload_n X 0 dX12_swings_74 rfl <|
z_iload_n X 2 dX12_swings_75 rfl <|
z_callvI X dX12_swings_76 q_2295 wX12_heavierBy sm_0 rfl (by decide) [.int (pI x10.1)] [.int (pI r24)] rfl rfl (Nat.le_of_ble_eq_true rfl) (fun r σ1 e => ct_X12_heavierBy x10.1 r12.1 G _ r σ1 e) o fun r27 s28 h29 o =>
z_icmp_ge (tgt := 84) X dX12_swings_79 (by decide) h26 h29 o (fun o =>
z_iload_n X 3 dX12_swings_84 rfl <|
z_iconst X dX12_swings_85 <|
z_iadd X dX12_swings_86 <|
z_istoreL_n (L1 := fun v30 => [(3, .int (pI v30)), (0, .ref (G.2.2.1 0)), (1, .int (pI p1)), (2, .int (pI x10.1))]) (R := rg) X dX12_swings_87 rfl (by decide) (fun _ => rfl) o (w32_rg _) fun v30 r31 o =>
z_goto (tgt := 40) X dX12_swings_88 (by decide) <|
z_sub (L1 := [(0, .ref (G.2.2.1 0)), (1, .int (pI p1)), (2, .int (pI x10.1)), (3, .int (pI v30))]) X [1, 2, 3, 0] rfl <|
ok_some o ⟨r12.1, r31⟩) fun o =>
z_iload_n X 3 dX12_swings_82 rfl <|
z_istore_n (L1 := [(2, .int (pI x10.2)), (0, .ref (G.2.2.1 0)), (1, .int (pI p1)), (3, .int (pI x10.2))]) X dX12_swings_83 rfl (by decide) rfl <|
z_iload_n X 3 dX12_swings_84 rfl <|
z_iconst X dX12_swings_85 <|
z_iadd X dX12_swings_86 <|
z_istoreL_n (L1 := fun v32 => [(3, .int (pI v32)), (2, .int (pI x10.2)), (0, .ref (G.2.2.1 0)), (1, .int (pI p1))]) (R := rg) X dX12_swings_87 rfl (by decide) (fun _ => rfl) o (w32_rg _) fun v32 r33 o =>
z_goto (tgt := 40) X dX12_swings_88 (by decide) <|
z_sub (L1 := [(0, .ref (G.2.2.1 0)), (1, .int (pI p1)), (2, .int (pI x10.2)), (3, .int (pI v32))]) X [2, 3, 1, 0] rfl <|
ok_some o ⟨r12.2, r33⟩) ⟨kc_m1, kc_1⟩) fun o =>
z_iconst X dX12_swings_34 <|
z_iret X Y dX12_swings_35 o kc_0) fun o =>
z_iconst X dX12_swings_25 <|
z_iret X Y dX12_swings_26 o kc_m1 : At E s0 0 [(0, .ref (G.2.2.1 0)), (1, .int (pI p1))] [])
set_option maxHeartbeats 4000000 in
set_option maxRecDepth 100000 in
theorem ct_X12_takesLaw (p1 : Int) (hp1 : rg p1) (G : Gw) (s0 : St) (r : Int) (σ1 : St) (e : fX12_takesLaw p1 s0 = some (r, σ1)) : Ct yX12_takesLaw cX12_takesLaw 3 none 0 0 SM G [.ref (G.2.2.1 0), .int (pI p1)] s0 (QV SM G σ1) :=
  Ct.of (by decide +kernel) (Nat.le_of_ble_eq_true rfl) fun E X Y => by
    have o : Ok (fX12_takesLaw p1 s0) (fun x σ' => x = r ∧ σ' = σ1) := ⟨r, σ1, e, rfl, rfl⟩
    unfold fX12_takesLaw at o
    exact (
z_iconst X dX12_takesLaw_0 <|
z_istore_n (L1 := [(2, .int (pI 0)), (0, .ref (G.2.2.1 0)), (1, .int (pI p1))]) X dX12_takesLaw_1 rfl (by decide) rfl <|
z_join o (fun (y24 : Unit) s25 => True → At E s25 105 [(0, .ref (G.2.2.1 0)), (1, .int (pI p1))] []) (fun y24 s25 o r26 =>
z_iconst X dX12_takesLaw_105 <|
z_istore_n (L1 := [(2, .int (pI 0)), (0, .ref (G.2.2.1 0)), (1, .int (pI p1))]) X dX12_takesLaw_106 rfl (by decide) rfl <|
z_join o (fun (y42 : Unit) s43 => True → At E s43 171 [(0, .ref (G.2.2.1 0)), (1, .int (pI p1))] []) (fun y42 s43 o r44 =>
z_aload_n X 0 dX12_takesLaw_171 rfl <|
z_getR (q := 10) X dX12_takesLaw_172 fl_X12_37 sm_0 rfl <|
z_aload_n X 0 dX12_takesLaw_175 rfl <|
z_getI X dX12_takesLaw_176 fl_X12_315 sm_0 rfl o fun v45 r46 o =>
z_iload_n X 1 dX12_takesLaw_179 rfl <|
z_iast X dX12_takesLaw_180 sm_10 r46 hp1 o fun s47 o =>
z_vret (v := 0) X Y dX12_takesLaw_181 o) fun o =>
z_sub (L1 := [(0, .ref (G.2.2.1 0)), (1, .int (pI p1)), (2, .int (pI 0))]) X [1, 2, 0] rfl <|
z_iter (fun (x27 : Int) s28 => rg x27 → At E s28 107 [(0, .ref (G.2.2.1 0)), (1, .int (pI p1)), (2, .int (pI x27))] []) o (fun x27 s28 o r29 =>
z_iload_n X 2 dX12_takesLaw_107 rfl <|
z_aload_n X 0 dX12_takesLaw_108 rfl <|
z_getI X dX12_takesLaw_109 fl_X12_261 sm_0 rfl o fun v30 r31 o =>
z_icmp_ge (tgt := 171) X dX12_takesLaw_112 (by decide) r29 r31 o (fun o =>
z_sub (L1 := [(0, .ref (G.2.2.1 0)), (1, .int (pI p1))]) X [0, 1] rfl <|
ok_some o trivial) fun o =>
z_aload_n X 0 dX12_takesLaw_115 rfl <|
z_getR (q := 15) X dX12_takesLaw_116 fl_X12_52 sm_0 rfl <|
z_sipush X dX12_takesLaw_119 si_400 <|
z_aload_n X 0 dX12_takesLaw_122 rfl <|
z_getI X dX12_takesLaw_123 fl_X12_315 sm_0 rfl o fun v32 r33 o =>
z_imul X dX12_takesLaw_126 <|
z_iload_n X 2 dX12_takesLaw_127 rfl <|
z_iadd X dX12_takesLaw_128 <|
z_aload_n X 0 dX12_takesLaw_129 rfl <|
z_getR (q := 15) X dX12_takesLaw_130 fl_X12_52 sm_0 rfl <|
z_sipush X dX12_takesLaw_133 si_800 <|
z_iload_n X 2 dX12_takesLaw_136 rfl <|
z_iadd X dX12_takesLaw_137 <|
z_iald X dX12_takesLaw_138 sm_15 (w32_rg _) o fun v34 r35 o =>
z_iast X dX12_takesLaw_139 sm_15 (w32_rg _) r35 o fun s36 o =>
z_aload_n X 0 dX12_takesLaw_140 rfl <|
z_getR (q := 16) X dX12_takesLaw_141 fl_X12_55 sm_0 rfl <|
z_sipush X dX12_takesLaw_144 si_400 <|
z_aload_n X 0 dX12_takesLaw_147 rfl <|
z_getI X dX12_takesLaw_148 fl_X12_315 sm_0 rfl o fun v37 r38 o =>
z_imul X dX12_takesLaw_151 <|
z_iload_n X 2 dX12_takesLaw_152 rfl <|
z_iadd X dX12_takesLaw_153 <|
z_aload_n X 0 dX12_takesLaw_154 rfl <|
z_getR (q := 16) X dX12_takesLaw_155 fl_X12_55 sm_0 rfl <|
z_sipush X dX12_takesLaw_158 si_800 <|
z_iload_n X 2 dX12_takesLaw_161 rfl <|
z_iadd X dX12_takesLaw_162 <|
z_iald X dX12_takesLaw_163 sm_16 (w32_rg _) o fun v39 r40 o =>
z_iast X dX12_takesLaw_164 sm_16 (w32_rg _) r40 o fun s41 o =>
z_iinc (L1 := [(2, .int (pI (w32 (x27 + 1)))), (0, .ref (G.2.2.1 0)), (1, .int (pI p1))]) X 2 dX12_takesLaw_165 rfl (by decide) rfl <|
z_goto (tgt := 107) X dX12_takesLaw_168 (by decide) <|
z_sub (L1 := [(0, .ref (G.2.2.1 0)), (1, .int (pI p1)), (2, .int (pI (w32 (x27 + 1))))]) X [1, 2, 0] rfl <|
ok_some o (w32_rg _)) kc_0) fun o =>
z_sub (L1 := [(0, .ref (G.2.2.1 0)), (1, .int (pI p1)), (2, .int (pI 0))]) X [1, 2, 0] rfl <|
z_iter (fun (x1 : Int) s2 => rg x1 → At E s2 2 [(0, .ref (G.2.2.1 0)), (1, .int (pI p1)), (2, .int (pI x1))] []) o (fun x1 s2 o r3 =>
z_iload_n X 2 dX12_takesLaw_2 rfl <|
z_iload_n X 1 dX12_takesLaw_3 rfl <|
z_icmp_ge (tgt := 105) X dX12_takesLaw_4 (by decide) r3 hp1 o (fun o =>
z_sub (L1 := [(0, .ref (G.2.2.1 0)), (1, .int (pI p1))]) X [0, 1] rfl <|
ok_some o trivial) fun o =>
z_aload_n X 0 dX12_takesLaw_7 rfl <|
z_getR (q := 11) X dX12_takesLaw_8 fl_X12_40 sm_0 rfl <|
z_bipush X dX12_takesLaw_11 bi_16 <|
z_aload_n X 0 dX12_takesLaw_13 rfl <|
z_getI X dX12_takesLaw_14 fl_X12_315 sm_0 rfl o fun v4 r5 o =>
z_imul X dX12_takesLaw_17 <|
z_iload_n X 2 dX12_takesLaw_18 rfl <|
z_iadd X dX12_takesLaw_19 <|
z_aload_n X 0 dX12_takesLaw_20 rfl <|
z_getR (q := 11) X dX12_takesLaw_21 fl_X12_40 sm_0 rfl <|
z_bipush X dX12_takesLaw_24 bi_32 <|
z_iload_n X 2 dX12_takesLaw_26 rfl <|
z_iadd X dX12_takesLaw_27 <|
z_iald X dX12_takesLaw_28 sm_11 (w32_rg _) o fun v6 r7 o =>
z_iast X dX12_takesLaw_29 sm_11 (w32_rg _) r7 o fun s8 o =>
z_aload_n X 0 dX12_takesLaw_30 rfl <|
z_getR (q := 12) X dX12_takesLaw_31 fl_X12_43 sm_0 rfl <|
z_bipush X dX12_takesLaw_34 bi_16 <|
z_aload_n X 0 dX12_takesLaw_36 rfl <|
z_getI X dX12_takesLaw_37 fl_X12_315 sm_0 rfl o fun v9 r10 o =>
z_imul X dX12_takesLaw_40 <|
z_iload_n X 2 dX12_takesLaw_41 rfl <|
z_iadd X dX12_takesLaw_42 <|
z_aload_n X 0 dX12_takesLaw_43 rfl <|
z_getR (q := 12) X dX12_takesLaw_44 fl_X12_43 sm_0 rfl <|
z_bipush X dX12_takesLaw_47 bi_32 <|
z_iload_n X 2 dX12_takesLaw_49 rfl <|
z_iadd X dX12_takesLaw_50 <|
z_iald X dX12_takesLaw_51 sm_12 (w32_rg _) o fun v11 r12 o =>
z_iast X dX12_takesLaw_52 sm_12 (w32_rg _) r12 o fun s13 o =>
z_aload_n X 0 dX12_takesLaw_53 rfl <|
z_getR (q := 13) X dX12_takesLaw_54 fl_X12_46 sm_0 rfl <|
z_bipush X dX12_takesLaw_57 bi_16 <|
z_aload_n X 0 dX12_takesLaw_59 rfl <|
z_getI X dX12_takesLaw_60 fl_X12_315 sm_0 rfl o fun v14 r15 o =>
z_imul X dX12_takesLaw_63 <|
z_iload_n X 2 dX12_takesLaw_64 rfl <|
z_iadd X dX12_takesLaw_65 <|
z_aload_n X 0 dX12_takesLaw_66 rfl <|
z_getR (q := 13) X dX12_takesLaw_67 fl_X12_46 sm_0 rfl <|
z_bipush X dX12_takesLaw_70 bi_32 <|
z_iload_n X 2 dX12_takesLaw_72 rfl <|
z_iadd X dX12_takesLaw_73 <|
z_iald X dX12_takesLaw_74 sm_13 (w32_rg _) o fun v16 r17 o =>
z_iast X dX12_takesLaw_75 sm_13 (w32_rg _) r17 o fun s18 o =>
z_aload_n X 0 dX12_takesLaw_76 rfl <|
z_getR (q := 14) X dX12_takesLaw_77 fl_X12_49 sm_0 rfl <|
z_bipush X dX12_takesLaw_80 bi_16 <|
z_aload_n X 0 dX12_takesLaw_82 rfl <|
z_getI X dX12_takesLaw_83 fl_X12_315 sm_0 rfl o fun v19 r20 o =>
z_imul X dX12_takesLaw_86 <|
z_iload_n X 2 dX12_takesLaw_87 rfl <|
z_iadd X dX12_takesLaw_88 <|
z_aload_n X 0 dX12_takesLaw_89 rfl <|
z_getR (q := 14) X dX12_takesLaw_90 fl_X12_49 sm_0 rfl <|
z_bipush X dX12_takesLaw_93 bi_32 <|
z_iload_n X 2 dX12_takesLaw_95 rfl <|
z_iadd X dX12_takesLaw_96 <|
z_iald X dX12_takesLaw_97 sm_14 (w32_rg _) o fun v21 r22 o =>
z_iast X dX12_takesLaw_98 sm_14 (w32_rg _) r22 o fun s23 o =>
z_iinc (L1 := [(2, .int (pI (w32 (x1 + 1)))), (0, .ref (G.2.2.1 0)), (1, .int (pI p1))]) X 2 dX12_takesLaw_99 rfl (by decide) rfl <|
z_goto (tgt := 2) X dX12_takesLaw_102 (by decide) <|
z_sub (L1 := [(0, .ref (G.2.2.1 0)), (1, .int (pI p1)), (2, .int (pI (w32 (x1 + 1))))]) X [1, 2, 0] rfl <|
ok_some o (w32_rg _)) kc_0 : At E s0 0 [(0, .ref (G.2.2.1 0)), (1, .int (pI p1))] [])
set_option maxHeartbeats 4000000 in
set_option maxRecDepth 100000 in
theorem ct_X12_takesOther (p1 : Int) (p2 : Int) (hp1 : rg p1) (hp2 : rg p2) (G : Gw) (s0 : St) (r : Int) (σ1 : St) (e : fX12_takesOther p1 p2 s0 = some (r, σ1)) : Ct yX12_takesOther cX12_takesOther 4 none 0 0 SM G [.ref (G.2.2.1 0), .int (pI p1), .int (pI p2)] s0 (QV SM G σ1) :=
  Ct.of (by decide +kernel) (Nat.le_of_ble_eq_true rfl) fun E X Y => by
    have o : Ok (fX12_takesOther p1 p2 s0) (fun x σ' => x = r ∧ σ' = σ1) := ⟨r, σ1, e, rfl, rfl⟩
    unfold fX12_takesOther at o
    exact (
z_iload_n X 1 dX12_takesOther_0 rfl <|
z_iconst X dX12_takesOther_1 <|
z_icmp_ne (tgt := 42) X dX12_takesOther_2 (by decide) hp1 kc_3 o (fun o =>
z_iload_n X 1 dX12_takesOther_42 rfl <|
z_iconst X dX12_takesOther_43 <|
z_icmp_ne (tgt := 85) X dX12_takesOther_44 (by decide) hp1 kc_1 o (fun o =>
z_iconst X dX12_takesOther_85 <|
z_istore_n (L1 := [(3, .int (pI 0)), (0, .ref (G.2.2.1 0)), (1, .int (pI p1)), (2, .int (pI p2))]) X dX12_takesOther_86 rfl (by decide) rfl <|
z_join o (fun (y7 : Unit) s8 => True → At E s8 115 [(0, .ref (G.2.2.1 0)), (2, .int (pI p2))] []) (fun y7 s8 o r9 =>
z_aload_n X 0 dX12_takesOther_115 rfl <|
z_iload_n X 1 dX12_takesOther_116 rfl <|
z_putI X dX12_takesOther_117 fl_X12_358 sm_0 ft_X12_37 rfl hp2 o fun s10 o =>
z_aload_n X 0 dX12_takesOther_120 rfl <|
z_iconst X dX12_takesOther_121 <|
z_putI X dX12_takesOther_122 fl_X12_187 sm_0 ft_X12_3 rfl kc_0 o fun s11 o =>
z_vret (v := 0) X Y dX12_takesOther_125 o) fun o =>
z_sub (L1 := [(0, .ref (G.2.2.1 0)), (2, .int (pI p2)), (3, .int (pI 0))]) X [1, 3, 0] rfl <|
z_iter (fun (x1 : Int) s2 => rg x1 → At E s2 87 [(0, .ref (G.2.2.1 0)), (2, .int (pI p2)), (3, .int (pI x1))] []) o (fun x1 s2 o r3 =>
z_iload_n X 2 dX12_takesOther_87 rfl <|
z_iconst X dX12_takesOther_88 <|
z_iload_n X 1 dX12_takesOther_89 rfl <|
z_imul X dX12_takesOther_90 <|
z_icmp_ge (tgt := 115) X dX12_takesOther_91 (by decide) r3 (w32_rg _) o (fun o =>
z_sub (L1 := [(0, .ref (G.2.2.1 0)), (2, .int (pI p2))]) X [0, 1] rfl <|
ok_some o trivial) fun o =>
z_aload_n X 0 dX12_takesOther_94 rfl <|
z_getR (q := 19) X dX12_takesOther_95 fl_X12_68 sm_0 rfl <|
z_iload_n X 2 dX12_takesOther_98 rfl <|
z_aload_n X 0 dX12_takesOther_99 rfl <|
z_getR (q := 19) X dX12_takesOther_100 fl_X12_68 sm_0 rfl <|
z_bipush X dX12_takesOther_103 bi_64 <|
z_iload_n X 2 dX12_takesOther_105 rfl <|
z_iadd X dX12_takesOther_106 <|
z_iald X dX12_takesOther_107 sm_19 (w32_rg _) o fun v4 r5 o =>
z_iast X dX12_takesOther_108 sm_19 r3 r5 o fun s6 o =>
z_iinc (L1 := [(3, .int (pI (w32 (x1 + 1)))), (0, .ref (G.2.2.1 0)), (2, .int (pI p2))]) X 2 dX12_takesOther_109 rfl (by decide) rfl <|
z_goto (tgt := 87) X dX12_takesOther_112 (by decide) <|
z_sub (L1 := [(0, .ref (G.2.2.1 0)), (2, .int (pI p2)), (3, .int (pI (w32 (x1 + 1))))]) X [1, 2, 0] rfl <|
ok_some o (w32_rg _)) kc_0) fun o =>
z_iconst X dX12_takesOther_47 <|
z_istore_n (L1 := [(3, .int (pI 0)), (0, .ref (G.2.2.1 0)), (1, .int (pI p1)), (2, .int (pI p2))]) X dX12_takesOther_48 rfl (by decide) rfl <|
z_join o (fun (y18 : Unit) s19 => True → At E s19 77 [(0, .ref (G.2.2.1 0)), (2, .int (pI p2))] []) (fun y18 s19 o r20 =>
z_aload_n X 0 dX12_takesOther_77 rfl <|
z_iload_n X 1 dX12_takesOther_78 rfl <|
z_putI X dX12_takesOther_79 fl_X12_355 sm_0 ft_X12_35 rfl hp2 o fun s21 o =>
z_goto (tgt := 120) X dX12_takesOther_82 (by decide) <|
z_aload_n X 0 dX12_takesOther_120 rfl <|
z_iconst X dX12_takesOther_121 <|
z_putI X dX12_takesOther_122 fl_X12_187 sm_0 ft_X12_3 rfl kc_0 o fun s22 o =>
z_vret (v := 0) X Y dX12_takesOther_125 o) fun o =>
z_sub (L1 := [(0, .ref (G.2.2.1 0)), (2, .int (pI p2)), (3, .int (pI 0))]) X [1, 3, 0] rfl <|
z_iter (fun (x12 : Int) s13 => rg x12 → At E s13 49 [(0, .ref (G.2.2.1 0)), (2, .int (pI p2)), (3, .int (pI x12))] []) o (fun x12 s13 o r14 =>
z_iload_n X 2 dX12_takesOther_49 rfl <|
z_iconst X dX12_takesOther_50 <|
z_iload_n X 1 dX12_takesOther_51 rfl <|
z_imul X dX12_takesOther_52 <|
z_icmp_ge (tgt := 77) X dX12_takesOther_53 (by decide) r14 (w32_rg _) o (fun o =>
z_sub (L1 := [(0, .ref (G.2.2.1 0)), (2, .int (pI p2))]) X [0, 1] rfl <|
ok_some o trivial) fun o =>
z_aload_n X 0 dX12_takesOther_56 rfl <|
z_getR (q := 18) X dX12_takesOther_57 fl_X12_65 sm_0 rfl <|
z_iload_n X 2 dX12_takesOther_60 rfl <|
z_aload_n X 0 dX12_takesOther_61 rfl <|
z_getR (q := 18) X dX12_takesOther_62 fl_X12_65 sm_0 rfl <|
z_bipush X dX12_takesOther_65 bi_64 <|
z_iload_n X 2 dX12_takesOther_67 rfl <|
z_iadd X dX12_takesOther_68 <|
z_iald X dX12_takesOther_69 sm_18 (w32_rg _) o fun v15 r16 o =>
z_iast X dX12_takesOther_70 sm_18 r14 r16 o fun s17 o =>
z_iinc (L1 := [(3, .int (pI (w32 (x12 + 1)))), (0, .ref (G.2.2.1 0)), (2, .int (pI p2))]) X 2 dX12_takesOther_71 rfl (by decide) rfl <|
z_goto (tgt := 49) X dX12_takesOther_74 (by decide) <|
z_sub (L1 := [(0, .ref (G.2.2.1 0)), (2, .int (pI p2)), (3, .int (pI (w32 (x12 + 1))))]) X [1, 2, 0] rfl <|
ok_some o (w32_rg _)) kc_0) fun o =>
z_iconst X dX12_takesOther_5 <|
z_istore_n (L1 := [(3, .int (pI 0)), (0, .ref (G.2.2.1 0)), (1, .int (pI p1)), (2, .int (pI p2))]) X dX12_takesOther_6 rfl (by decide) rfl <|
z_join o (fun (y29 : Unit) s30 => True → At E s30 36 [(0, .ref (G.2.2.1 0)), (2, .int (pI p2))] []) (fun y29 s30 o r31 =>
z_aload_n X 0 dX12_takesOther_36 rfl <|
z_iload_n X 1 dX12_takesOther_37 rfl <|
z_putI X dX12_takesOther_38 fl_X12_352 sm_0 ft_X12_39 rfl hp2 o fun s32 o =>
z_vret (v := 0) X Y dX12_takesOther_41 o) fun o =>
z_sub (L1 := [(0, .ref (G.2.2.1 0)), (2, .int (pI p2)), (3, .int (pI 0))]) X [1, 3, 0] rfl <|
z_iter (fun (x23 : Int) s24 => rg x23 → At E s24 7 [(0, .ref (G.2.2.1 0)), (2, .int (pI p2)), (3, .int (pI x23))] []) o (fun x23 s24 o r25 =>
z_iload_n X 2 dX12_takesOther_7 rfl <|
z_sipush X dX12_takesOther_8 si_144 <|
z_icmp_ge (tgt := 36) X dX12_takesOther_11 (by decide) r25 kc_144 o (fun o =>
z_sub (L1 := [(0, .ref (G.2.2.1 0)), (2, .int (pI p2))]) X [0, 1] rfl <|
ok_some o trivial) fun o =>
z_aload_n X 0 dX12_takesOther_14 rfl <|
z_getR (q := 20) X dX12_takesOther_15 fl_X12_71 sm_0 rfl <|
z_iload_n X 2 dX12_takesOther_18 rfl <|
z_aload_n X 0 dX12_takesOther_19 rfl <|
z_getR (q := 20) X dX12_takesOther_20 fl_X12_71 sm_0 rfl <|
z_sipush X dX12_takesOther_23 si_144 <|
z_iload_n X 2 dX12_takesOther_26 rfl <|
z_iadd X dX12_takesOther_27 <|
z_iald X dX12_takesOther_28 sm_20 (w32_rg _) o fun v26 r27 o =>
z_iast X dX12_takesOther_29 sm_20 r25 r27 o fun s28 o =>
z_iinc (L1 := [(3, .int (pI (w32 (x23 + 1)))), (0, .ref (G.2.2.1 0)), (2, .int (pI p2))]) X 2 dX12_takesOther_30 rfl (by decide) rfl <|
z_goto (tgt := 7) X dX12_takesOther_33 (by decide) <|
z_sub (L1 := [(0, .ref (G.2.2.1 0)), (2, .int (pI p2)), (3, .int (pI (w32 (x23 + 1))))]) X [1, 2, 0] rfl <|
ok_some o (w32_rg _)) kc_0 : At E s0 0 [(0, .ref (G.2.2.1 0)), (1, .int (pI p1)), (2, .int (pI p2))] [])
set_option maxHeartbeats 4000000 in
set_option maxRecDepth 100000 in
theorem ct_X12_talk (p1 : Int) (hp1 : rg p1) (G : Gw) (s0 : St) (r : Int) (σ1 : St) (e : fX12_talk p1 s0 = some (r, σ1)) : Ct yX12_talk cX12_talk 2 (some .int) 1 23 SM G [.ref (G.2.2.1 0), .int (pI p1)] s0 (QI SM G r rg σ1) :=
  Ct.of (by decide +kernel) (Nat.le_of_ble_eq_true rfl) fun E X Y => by
    have o : Ok (fX12_talk p1 s0) (fun x σ' => x = r ∧ σ' = σ1) := ⟨r, σ1, e, rfl, rfl⟩
    unfold fX12_talk at o
    exact (
z_aload_n X 0 dX12_talk_0 rfl <|
z_iconst X dX12_talk_1 <|
z_putI X dX12_talk_2 fl_X12_183 sm_0 ft_X12_0 rfl kc_0 o fun s1 o =>
z_iload_n X 1 dX12_talk_5 rfl <|
z_iconst X dX12_talk_6 <|
z_icmp_ne (tgt := 17) X dX12_talk_7 (by decide) hp1 kc_m1 o (fun o =>
z_aload_n X 0 dX12_talk_17 rfl <|
z_iload_n X 1 dX12_talk_18 rfl <|
z_iconst X dX12_talk_19 <|
z_iconst X dX12_talk_20 <|
z_callvI X dX12_talk_21 q_1822 wX12_isIn sm_0 rfl (by decide) [.int (pI p1), .int (pI 0), .int (pI 2)] [] rfl rfl (Nat.le_of_ble_eq_true rfl) (fun r σ1 e => ct_X12_isIn p1 0 2 hp1 kc_0 kc_2 G _ r σ1 e) o fun r2 s3 h4 o =>
z_if_eq (tgt := 36) X dX12_talk_24 (by decide) (r01_rg h4) o (fun o =>
z_iconst X dX12_talk_36 <|
z_iret X Y dX12_talk_37 o kc_m1) fun o =>
z_aload_n X 0 dX12_talk_27 rfl <|
z_getI X dX12_talk_28 fl_X12_524 sm_0 rfl o fun v5 r6 o =>
z_bipush X dX12_talk_31 bi_24 <|
z_icmp_ne (tgt := 38) X dX12_talk_33 (by decide) r6 kc_24 o (fun o =>
z_aload_n X 0 dX12_talk_38 rfl <|
z_getR (q := 40) X dX12_talk_39 fl_X12_131 sm_0 rfl <|
z_aload_n X 0 dX12_talk_42 rfl <|
z_getI X dX12_talk_43 fl_X12_524 sm_0 rfl o fun v7 r8 o =>
z_iload_n X 1 dX12_talk_46 rfl <|
z_iast X dX12_talk_47 sm_40 r8 hp1 o fun s9 o =>
z_aload_n X 0 dX12_talk_48 rfl <|
z_aload_n X 0 dX12_talk_49 rfl <|
z_getI X dX12_talk_50 fl_X12_524 sm_0 rfl o fun v10 r11 o =>
z_iconst X dX12_talk_53 <|
z_iadd X dX12_talk_54 <|
z_putI X dX12_talk_55 fl_X12_524 sm_0 ft_X12_64 rfl (w32_rg _) o fun s12 o =>
z_aload_n X 0 dX12_talk_58 rfl <|
z_getI X dX12_talk_59 fl_X12_524 sm_0 rfl o fun v13 r14 o =>
z_iret X Y dX12_talk_62 o r14) fun o =>
z_iconst X dX12_talk_36 <|
z_iret X Y dX12_talk_37 o kc_m1) fun o =>
z_aload_n X 0 dX12_talk_10 rfl <|
z_iconst X dX12_talk_11 <|
z_putI X dX12_talk_12 fl_X12_524 sm_0 ft_X12_64 rfl kc_0 o fun s15 o =>
z_iconst X dX12_talk_15 <|
z_iret X Y dX12_talk_16 o kc_0 : At E s0 0 [(0, .ref (G.2.2.1 0)), (1, .int (pI p1))] [])
set_option maxHeartbeats 4000000 in
set_option maxRecDepth 100000 in
theorem ct_X12_talkGoes (p1 : Int) (hp1 : r01 p1) (G : Gw) (s0 : St) (r : Int) (σ1 : St) (e : fX12_talkGoes p1 s0 = some (r, σ1)) : Ct yX12_talkGoes cX12_talkGoes 5 (some .int) 1 22 SM G [.ref (G.2.2.1 0), .int (pI p1)] s0 (QI SM G r rg σ1) :=
  Ct.of (by decide +kernel) (Nat.le_of_ble_eq_true rfl) fun E X Y => by
    have o : Ok (fX12_talkGoes p1 s0) (fun x σ' => x = r ∧ σ' = σ1) := ⟨r, σ1, e, rfl, rfl⟩
    unfold fX12_talkGoes at o
    exact (
z_iconst X dX12_talkGoes_0 <|
z_istore_n (L1 := [(2, .int (pI 0)), (0, .ref (G.2.2.1 0)), (1, .int (pI p1))]) X dX12_talkGoes_1 rfl (by decide) rfl <|
z_iconst X dX12_talkGoes_2 <|
z_istore_n (L1 := [(3, .int (pI 0)), (2, .int (pI 0)), (0, .ref (G.2.2.1 0)), (1, .int (pI p1))]) X dX12_talkGoes_3 rfl (by decide) rfl <|
z_iconst X dX12_talkGoes_4 <|
z_istore (L1 := [(4, .int (pI 0)), (3, .int (pI 0)), (2, .int (pI 0)), (0, .ref (G.2.2.1 0)), (1, .int (pI p1))]) X dX12_talkGoes_5 (by decide) rfl <|
z_joix o (fun (y28 : Int) s29 => rg y28 → At E s29 50 [(4, .int (pI y28))] []) (fun y28 s29 o r30 =>
z_iload X 0 dX12_talkGoes_50 rfl <|
z_iret X Y dX12_talkGoes_52 o r30) fun o =>
z_sub (L1 := [(0, .ref (G.2.2.1 0)), (1, .int (pI p1)), (2, .int (pI 0)), (3, .int (pI 0)), (4, .int (pI 0))]) X [3, 4, 2, 1, 0] rfl <|
z_iter (fun (x1 : Int × Int × Int) s2 => rg x1.1 ∧ rg x1.2.1 ∧ rg x1.2.2 → At E s2 7 [(0, .ref (G.2.2.1 0)), (1, .int (pI p1)), (2, .int (pI x1.1)), (3, .int (pI x1.2.1)), (4, .int (pI x1.2.2))] []) o (fun x1 s2 o r3 =>
z_iload X 4 dX12_talkGoes_7 rfl <|
z_aload_n X 0 dX12_talkGoes_9 rfl <|
z_getI X dX12_talkGoes_10 fl_X12_524 sm_0 rfl o fun v4 r5 o =>
z_icmp_ge (tgt := 85) X dX12_talkGoes_13 (by decide) r3.2.2 r5 o (fun o =>
z_iload_n X 1 dX12_talkGoes_85 rfl <|
z_if_eq (tgt := 93) X dX12_talkGoes_86 (by decide) (r01_rg hp1) o (fun o =>
z_iload_n X 3 dX12_talkGoes_93 rfl <|
z_iret X Y dX12_talkGoes_94 (ok_ret (ok_some o)) r3.2.1) fun o =>
z_iconst X dX12_talkGoes_89 <|
z_goto (tgt := 94) X dX12_talkGoes_90 (by decide) <|
z_iret X Y dX12_talkGoes_94 (ok_ret (ok_some o)) kc_m1) fun o =>
z_aload_n X 0 dX12_talkGoes_16 rfl <|
z_getR (q := 40) X dX12_talkGoes_17 fl_X12_131 sm_0 rfl <|
z_iload X 4 dX12_talkGoes_20 rfl <|
z_iald X dX12_talkGoes_22 sm_40 r3.2.2 o fun v6 r7 o =>
z_iconst X dX12_talkGoes_23 <|
z_join o (fun (y10 : Int) s11 => rg y10 → At E s11 31 [(0, .ref (G.2.2.1 0)), (1, .int (pI p1)), (2, .int (pI y10)), (3, .int (pI x1.2.1)), (4, .int (pI x1.2.2))] []) (fun y10 s11 o r12 =>
z_aload_n X 0 dX12_talkGoes_31 rfl <|
z_getR (q := 40) X dX12_talkGoes_32 fl_X12_131 sm_0 rfl <|
z_iload X 4 dX12_talkGoes_35 rfl <|
z_iald X dX12_talkGoes_37 sm_40 r3.2.2 o fun v13 r14 o =>
z_iconst X dX12_talkGoes_38 <|
z_joix o (fun (y15 : Unit) s16 => True → At E s16 53 [(0, .ref (G.2.2.1 0)), (1, .int (pI p1)), (2, .int (pI y10)), (3, .int (pI x1.2.1)), (4, .int (pI x1.2.2))] []) (fun y15 s16 o r17 =>
z_aload_n X 0 dX12_talkGoes_53 rfl <|
z_getR (q := 40) X dX12_talkGoes_54 fl_X12_131 sm_0 rfl <|
z_iload X 4 dX12_talkGoes_57 rfl <|
z_iald X dX12_talkGoes_59 sm_40 r3.2.2 o fun v18 r19 o =>
z_iconst X dX12_talkGoes_60 <|
z_join o (fun (y22 : Int) s23 => rg y22 → At E s23 72 [(0, .ref (G.2.2.1 0)), (1, .int (pI p1)), (2, .int (pI y22)), (3, .int (pI x1.2.1)), (4, .int (pI x1.2.2))] []) (fun y22 s23 o r24 =>
z_aload_n X 0 dX12_talkGoes_72 rfl <|
z_iload_n X 3 dX12_talkGoes_73 rfl <|
z_iload_n X 2 dX12_talkGoes_74 rfl <|
z_callvI X dX12_talkGoes_75 q_2205 wX12_greater sm_0 rfl (by decide) [.int (pI x1.2.1), .int (pI y22)] [] rfl rfl (Nat.le_of_ble_eq_true rfl) (fun r σ1 e => ct_X12_greater x1.2.1 y22 r3.2.1 r24 G _ r σ1 e) o fun r25 s26 h27 o =>
z_istore_n (L1 := [(3, .int (pI r25)), (0, .ref (G.2.2.1 0)), (1, .int (pI p1)), (2, .int (pI y22)), (4, .int (pI x1.2.2))]) X dX12_talkGoes_78 rfl (by decide) rfl <|
z_iinc (L1 := [(4, .int (pI (w32 (x1.2.2 + 1)))), (3, .int (pI r25)), (0, .ref (G.2.2.1 0)), (1, .int (pI p1)), (2, .int (pI y22))]) X 4 dX12_talkGoes_79 rfl (by decide) rfl <|
z_goto (tgt := 7) X dX12_talkGoes_82 (by decide) <|
z_sub (L1 := [(0, .ref (G.2.2.1 0)), (1, .int (pI p1)), (2, .int (pI y22)), (3, .int (pI r25)), (4, .int (pI (w32 (x1.2.2 + 1))))]) X [2, 3, 4, 1, 0] rfl <|
ok_some o ⟨r24, h27, (w32_rg _)⟩) fun o =>
z_icmp_ne (tgt := 72) X dX12_talkGoes_61 (by decide) r19 kc_2 o (fun o =>
ok_some o r12) fun o =>
z_iload_n X 2 dX12_talkGoes_64 rfl <|
z_if_le (tgt := 72) X dX12_talkGoes_65 (by decide) r12 o (fun o =>
ok_some o r12) fun o =>
z_iload_n X 2 dX12_talkGoes_68 rfl <|
z_iconst X dX12_talkGoes_69 <|
z_isub X dX12_talkGoes_70 <|
z_istoreL_n (L1 := fun v20 => [(2, .int (pI v20)), (0, .ref (G.2.2.1 0)), (1, .int (pI p1)), (3, .int (pI x1.2.1)), (4, .int (pI x1.2.2))]) (R := rg) X dX12_talkGoes_71 rfl (by decide) (fun _ => rfl) o (w32_rg _) fun v20 r21 o =>
z_sub (L1 := [(0, .ref (G.2.2.1 0)), (1, .int (pI p1)), (2, .int (pI v20)), (3, .int (pI x1.2.1)), (4, .int (pI x1.2.2))]) X [1, 2, 0, 3, 4] rfl <|
ok_some o r21) fun o =>
z_icmp_ne (tgt := 53) X dX12_talkGoes_39 (by decide) r14 kc_2 o (fun o =>
ok_some o trivial) fun o =>
z_iload_n X 2 dX12_talkGoes_42 rfl <|
z_if_ne (tgt := 53) X dX12_talkGoes_43 (by decide) r12 o (fun o =>
ok_some o trivial) fun o =>
z_iload_n X 1 dX12_talkGoes_46 rfl <|
z_if_eq (tgt := 53) X dX12_talkGoes_47 (by decide) (r01_rg hp1) o (fun o =>
ok_some o trivial) fun o =>
z_sub (L1 := [(4, .int (pI x1.2.2))]) X [4] rfl <|
ok_some o r3.2.2) fun o =>
z_icmp_ne (tgt := 31) X dX12_talkGoes_24 (by decide) r7 kc_1 o (fun o =>
ok_some o r3.1) fun o =>
z_iload_n X 2 dX12_talkGoes_27 rfl <|
z_iconst X dX12_talkGoes_28 <|
z_iadd X dX12_talkGoes_29 <|
z_istoreL_n (L1 := fun v8 => [(2, .int (pI v8)), (0, .ref (G.2.2.1 0)), (1, .int (pI p1)), (3, .int (pI x1.2.1)), (4, .int (pI x1.2.2))]) (R := rg) X dX12_talkGoes_30 rfl (by decide) (fun _ => rfl) o (w32_rg _) fun v8 r9 o =>
z_sub (L1 := [(0, .ref (G.2.2.1 0)), (1, .int (pI p1)), (2, .int (pI v8)), (3, .int (pI x1.2.1)), (4, .int (pI x1.2.2))]) X [1, 2, 0, 3, 4] rfl <|
ok_some o r9) ⟨kc_0, kc_0, kc_0⟩ : At E s0 0 [(0, .ref (G.2.2.1 0)), (1, .int (pI p1))] [])
set_option maxHeartbeats 4000000 in
set_option maxRecDepth 100000 in
theorem ct_X12_talks (p1 : Int) (hp1 : rg p1) (G : Gw) (s0 : St) (r : Int) (σ1 : St) (e : fX12_talks p1 s0 = some (r, σ1)) : Ct yX12_talks cX12_talks 4 (some .int) 2 46 SM G [.ref (G.2.2.1 0), .int (pI p1)] s0 (QI SM G r rg σ1) :=
  Ct.of (by decide +kernel) (Nat.le_of_ble_eq_true rfl) fun E X Y => by
    have o : Ok (fX12_talks p1 s0) (fun x σ' => x = r ∧ σ' = σ1) := ⟨r, σ1, e, rfl, rfl⟩
    unfold fX12_talks at o
    exact (
z_aload_n X 0 dX12_talks_0 rfl <|
z_iconst X dX12_talks_1 <|
z_putI X dX12_talks_2 fl_X12_183 sm_0 ft_X12_0 rfl kc_0 o fun s1 o =>
z_aload_n X 0 dX12_talks_5 rfl <|
z_iload_n X 1 dX12_talks_6 rfl <|
z_iconst X dX12_talks_7 <|
z_iconst X dX12_talks_8 <|
z_callvI X dX12_talks_9 q_1822 wX12_isIn sm_0 rfl (by decide) [.int (pI p1), .int (pI 0), .int (pI 1)] [] rfl rfl (Nat.le_of_ble_eq_true rfl) (fun r σ1 e => ct_X12_isIn p1 0 1 hp1 kc_0 kc_1 G _ r σ1 e) o fun r2 s3 h4 o =>
z_if_eq (tgt := 30) X dX12_talks_12 (by decide) (r01_rg h4) o (fun o =>
z_aload_n X 0 dX12_talks_30 rfl <|
z_iload_n X 1 dX12_talks_31 rfl <|
z_bipush X dX12_talks_32 bi_10 <|
z_bipush X dX12_talks_34 bi_25 <|
z_callvI X dX12_talks_36 q_1822 wX12_isIn sm_0 rfl (by decide) [.int (pI p1), .int (pI 10), .int (pI 25)] [] rfl rfl (Nat.le_of_ble_eq_true rfl) (fun r σ1 e => ct_X12_isIn p1 10 25 hp1 kc_10 kc_25 G _ r σ1 e) o fun r5 s6 h7 o =>
z_if_ne (tgt := 44) X dX12_talks_39 (by decide) (r01_rg h7) o (fun o =>
z_iconst X dX12_talks_44 <|
z_istore_n (L1 := [(2, .int (pI 0)), (0, .ref (G.2.2.1 0)), (1, .int (pI p1))]) X dX12_talks_45 rfl (by decide) rfl <|
z_join o (fun (y28 : Unit) s29 => True → At E s29 118 [(0, .ref (G.2.2.1 0)), (1, .int (pI p1))] []) (fun y28 s29 o r30 =>
z_aload_n X 0 dX12_talks_118 rfl <|
z_getR (q := 41) X dX12_talks_119 fl_X12_134 sm_0 rfl <|
z_iload_n X 1 dX12_talks_122 rfl <|
z_bipush X dX12_talks_123 bi_10 <|
z_isub X dX12_talks_125 <|
z_iald X dX12_talks_126 sm_41 (w32_rg _) o fun v31 r32 o =>
z_iret X Y dX12_talks_127 o r32) fun o =>
z_sub (L1 := [(0, .ref (G.2.2.1 0)), (1, .int (pI p1)), (2, .int (pI 0))]) X [1, 2, 0] rfl <|
z_iter (fun (x8 : Int) s9 => rg x8 → At E s9 46 [(0, .ref (G.2.2.1 0)), (1, .int (pI p1)), (2, .int (pI x8))] []) o (fun x8 s9 o r10 =>
z_iload_n X 2 dX12_talks_46 rfl <|
z_iload_n X 1 dX12_talks_47 rfl <|
z_bipush X dX12_talks_48 bi_10 <|
z_isub X dX12_talks_50 <|
z_icmp_gt (tgt := 118) X dX12_talks_51 (by decide) r10 (w32_rg _) o (fun o =>
z_sub (L1 := [(0, .ref (G.2.2.1 0)), (1, .int (pI p1))]) X [0, 1] rfl <|
ok_some o trivial) fun o =>
z_aload_n X 0 dX12_talks_54 rfl <|
z_getR (q := 41) X dX12_talks_55 fl_X12_134 sm_0 rfl <|
z_iload_n X 2 dX12_talks_58 rfl <|
z_iload_n X 2 dX12_talks_59 rfl <|
z_join o (fun (y11 : Int) s12 => r01 y11 → At E s12 68 [(0, .ref (G.2.2.1 0)), (1, .int (pI p1)), (2, .int (pI x8))] [.int (pI y11), .int (pI x8), .ref (G.2.2.1 41)]) (fun y11 s12 o r13 =>
z_iast X dX12_talks_68 sm_41 r10 (r01_rg r13) o fun s14 o =>
z_iconst X dX12_talks_69 <|
z_istore_n (L1 := [(3, .int (pI 0)), (0, .ref (G.2.2.1 0)), (1, .int (pI p1)), (2, .int (pI x8))]) X dX12_talks_70 rfl (by decide) rfl <|
z_join o (fun (y25 : Unit) s26 => True → At E s26 112 [(0, .ref (G.2.2.1 0)), (1, .int (pI p1)), (2, .int (pI x8))] []) (fun y25 s26 o r27 =>
z_iinc (L1 := [(2, .int (pI (w32 (x8 + 1)))), (0, .ref (G.2.2.1 0)), (1, .int (pI p1))]) X 2 dX12_talks_112 rfl (by decide) rfl <|
z_goto (tgt := 46) X dX12_talks_115 (by decide) <|
z_sub (L1 := [(0, .ref (G.2.2.1 0)), (1, .int (pI p1)), (2, .int (pI (w32 (x8 + 1))))]) X [1, 2, 0] rfl <|
ok_some o (w32_rg _)) fun o =>
z_sub (L1 := [(0, .ref (G.2.2.1 0)), (1, .int (pI p1)), (2, .int (pI x8)), (3, .int (pI 0))]) X [1, 2, 3, 0] rfl <|
z_iter (fun (x15 : Int) s16 => rg x15 → At E s16 71 [(0, .ref (G.2.2.1 0)), (1, .int (pI p1)), (2, .int (pI x8)), (3, .int (pI x15))] []) o (fun x15 s16 o r17 =>
z_iload_n X 3 dX12_talks_71 rfl <|
z_iload_n X 2 dX12_talks_72 rfl <|
z_icmp_ge (tgt := 112) X dX12_talks_73 (by decide) r17 r10 o (fun o =>
z_sub (L1 := [(0, .ref (G.2.2.1 0)), (1, .int (pI p1)), (2, .int (pI x8))]) X [0, 1, 2] rfl <|
ok_some o trivial) fun o =>
z_aload_n X 0 dX12_talks_76 rfl <|
z_getR (q := 41) X dX12_talks_77 fl_X12_134 sm_0 rfl <|
z_iload_n X 2 dX12_talks_80 rfl <|
z_aload_n X 0 dX12_talks_81 rfl <|
z_getR (q := 41) X dX12_talks_82 fl_X12_134 sm_0 rfl <|
z_iload_n X 2 dX12_talks_85 rfl <|
z_iald X dX12_talks_86 sm_41 r10 o fun v18 r19 o =>
z_aload_n X 0 dX12_talks_87 rfl <|
z_getR (q := 41) X dX12_talks_88 fl_X12_134 sm_0 rfl <|
z_iload_n X 3 dX12_talks_91 rfl <|
z_iald X dX12_talks_92 sm_41 r17 o fun v20 r21 o =>
z_aload_n X 0 dX12_talks_93 rfl <|
z_getR (q := 41) X dX12_talks_94 fl_X12_134 sm_0 rfl <|
z_iload_n X 2 dX12_talks_97 rfl <|
z_iconst X dX12_talks_98 <|
z_isub X dX12_talks_99 <|
z_iload_n X 3 dX12_talks_100 rfl <|
z_isub X dX12_talks_101 <|
z_iald X dX12_talks_102 sm_41 (w32_rg _) o fun v22 r23 o =>
z_imul X dX12_talks_103 <|
z_iadd X dX12_talks_104 <|
z_iast X dX12_talks_105 sm_41 r10 (w32_rg _) o fun s24 o =>
z_iinc (L1 := [(3, .int (pI (w32 (x15 + 1)))), (0, .ref (G.2.2.1 0)), (1, .int (pI p1)), (2, .int (pI x8))]) X 3 dX12_talks_106 rfl (by decide) rfl <|
z_goto (tgt := 71) X dX12_talks_109 (by decide) <|
z_sub (L1 := [(0, .ref (G.2.2.1 0)), (1, .int (pI p1)), (2, .int (pI x8)), (3, .int (pI (w32 (x15 + 1))))]) X [1, 2, 3, 0] rfl <|
ok_some o (w32_rg _)) kc_0) fun o =>
z_if_ne (tgt := 67) X dX12_talks_60 (by decide) r10 o (fun o =>
z_iconst X dX12_talks_67 <|
ok_some o kb_0) fun o =>
z_iconst X dX12_talks_63 <|
z_goto (tgt := 68) X dX12_talks_64 (by decide) <|
ok_some o kb_1) kc_0) fun o =>
z_iconst X dX12_talks_42 <|
z_iret X Y dX12_talks_43 o kc_m1) fun o =>
z_aload_n X 0 dX12_talks_15 rfl <|
z_iload_n X 1 dX12_talks_16 rfl <|
z_iconst X dX12_talks_17 <|
z_join o (fun (y33 : Int) s34 => r01 y33 → At E s34 26 [] [.int (pI y33), .ref (G.2.2.1 0)]) (fun y33 s34 o r35 =>
z_callvI X dX12_talks_26 q_2266 wX12_talkGoes sm_0 rfl (by decide) [.int (pI y33)] [] rfl rfl (Nat.le_of_ble_eq_true rfl) (fun r σ1 e => ct_X12_talkGoes y33 r35 G _ r σ1 e) o fun r36 s37 h38 o =>
z_iret X Y dX12_talks_29 o h38) fun o =>
z_icmp_ne (tgt := 25) X dX12_talks_18 (by decide) hp1 kc_1 o (fun o =>
z_iconst X dX12_talks_25 <|
z_sub (L1 := []) X [] rfl <|
ok_some o kb_0) fun o =>
z_iconst X dX12_talks_21 <|
z_goto (tgt := 26) X dX12_talks_22 (by decide) <|
z_sub (L1 := []) X [] rfl <|
ok_some o kb_1 : At E s0 0 [(0, .ref (G.2.2.1 0)), (1, .int (pI p1))] [])
set_option maxHeartbeats 4000000 in
set_option maxRecDepth 100000 in
theorem ct_X12_text (p1 : Int) (hp1 : rg p1) (G : Gw) (s0 : St) (r : Int) (σ1 : St) (e : fX12_text p1 s0 = some (r, σ1)) : Ct yX12_text cX12_text 3 (some .int) 10 215 SM G [.ref (G.2.2.1 0), .int (pI p1)] s0 (QI SM G r rg σ1) :=
  Ct.of (by decide +kernel) (Nat.le_of_ble_eq_true rfl) fun E X Y => by
    have o : Ok (fX12_text p1 s0) (fun x σ' => x = r ∧ σ' = σ1) := ⟨r, σ1, e, rfl, rfl⟩
    unfold fX12_text at o
    exact (
z_aload_n X 0 dX12_text_0 rfl <|
z_iconst X dX12_text_1 <|
z_putI X dX12_text_2 fl_X12_183 sm_0 ft_X12_0 rfl kc_0 o fun s1 o =>
z_aload_n X 0 dX12_text_5 rfl <|
z_iconst X dX12_text_6 <|
z_putI X dX12_text_7 fl_X12_361 sm_0 ft_X12_33 rfl kc_0 o fun s2 o =>
z_aload_n X 0 dX12_text_10 rfl <|
z_iconst X dX12_text_11 <|
z_putI X dX12_text_12 fl_X12_61 sm_0 ft_X12_34 rfl kc_m1 o fun s3 o =>
z_aload_n X 0 dX12_text_15 rfl <|
z_iconst X dX12_text_16 <|
z_putI X dX12_text_17 fl_X12_227 sm_0 ft_X12_14 rfl kc_0 o fun s4 o =>
z_aload_n X 0 dX12_text_20 rfl <|
z_iconst X dX12_text_21 <|
z_putI X dX12_text_22 fl_X12_261 sm_0 ft_X12_27 rfl kc_0 o fun s5 o =>
z_aload_n X 0 dX12_text_25 rfl <|
z_iconst X dX12_text_26 <|
z_putI X dX12_text_27 fl_X12_293 sm_0 ft_X12_28 rfl kc_0 o fun s6 o =>
z_iconst X dX12_text_30 <|
z_istore_n (L1 := [(2, .int (pI (-1))), (0, .ref (G.2.2.1 0)), (1, .int (pI p1))]) X dX12_text_31 rfl (by decide) rfl <|
z_aload_n X 1 dX12_text_32 rfl <|
z_iload_n X 2 dX12_text_33 rfl <|
z_iconst X dX12_text_34 <|
z_iconst X dX12_text_35 <|
z_callvI X dX12_text_36 q_1822 wX12_isIn sm_0 rfl (by decide) [.int (pI p1), .int (pI 0), .int (pI 3)] [] rfl rfl (Nat.le_of_ble_eq_true rfl) (fun r σ1 e => ct_X12_isIn p1 0 3 hp1 kc_0 kc_3 G _ r σ1 e) o fun r7 s8 h9 o =>
z_join o (fun (y19 : Int) s20 => rg y19 → At E s20 69 [(0, .ref (G.2.2.1 0)), (1, .int (pI p1)), (2, .int (pI y19))] []) (fun y19 s20 o r21 =>
z_aload_n X 0 dX12_text_69 rfl <|
z_iconst X dX12_text_70 <|
z_putI X dX12_text_71 fl_X12_220 sm_0 ft_X12_13 rfl kc_0 o fun s22 o =>
z_iload_n X 2 dX12_text_74 rfl <|
z_iconst X dX12_text_75 <|
z_icmp_ne (tgt := 81) X dX12_text_76 (by decide) r21 kc_m1 o (fun o =>
z_iload_n X 1 dX12_text_81 rfl <|
z_if_ne (tgt := 93) X dX12_text_82 (by decide) hp1 o (fun o =>
z_aload_n X 0 dX12_text_93 rfl <|
z_iload_n X 1 dX12_text_94 rfl <|
z_iload_n X 2 dX12_text_95 rfl <|
z_callvV X dX12_text_96 q_1990 wX12_takesOther sm_0 rfl (by decide) [.int (pI p1), .int (pI y19)] [] rfl rfl (Nat.le_of_ble_eq_true rfl) (fun r σ1 e => ct_X12_takesOther p1 y19 hp1 r21 G _ r σ1 e) o fun r23 s24 o =>
z_iload_n X 2 dX12_text_99 rfl <|
z_iret X Y dX12_text_100 o r21) fun o =>
z_aload_n X 0 dX12_text_85 rfl <|
z_iload_n X 2 dX12_text_86 rfl <|
z_callvV X dX12_text_87 q_1986 wX12_takesLaw sm_0 rfl (by decide) [.int (pI y19)] [] rfl rfl (Nat.le_of_ble_eq_true rfl) (fun r σ1 e => ct_X12_takesLaw y19 r21 G _ r σ1 e) o fun r26 s27 o =>
z_goto (tgt := 99) X dX12_text_90 (by decide) <|
z_iload_n X 2 dX12_text_99 rfl <|
z_iret X Y dX12_text_100 o r21) fun o =>
z_iconst X dX12_text_79 <|
z_iret X Y dX12_text_80 o kc_m1) fun o =>
z_if_eq (tgt := 69) X dX12_text_39 (by decide) (r01_rg h9) o (fun o =>
z_sub (L1 := [(0, .ref (G.2.2.1 0)), (1, .int (pI p1)), (2, .int (pI (-1)))]) X [1, 2, 0] rfl <|
ok_some o kc_m1) fun o =>
z_aload_n X 1 dX12_text_42 rfl <|
z_iload_n X 2 dX12_text_43 rfl <|
z_callvI X dX12_text_44 q_1862 wX12_readsText sm_0 rfl (by decide) [.int (pI p1)] [] rfl rfl (Nat.le_of_ble_eq_true rfl) (fun r σ1 e => ct_X12_readsText p1 hp1 G _ r σ1 e) o fun r10 s11 h12 o =>
z_istore_n (L1 := [(2, .int (pI r10)), (0, .ref (G.2.2.1 0)), (1, .int (pI p1))]) X dX12_text_47 rfl (by decide) rfl <|
z_iload_n X 0 dX12_text_48 rfl <|
z_iconst X dX12_text_49 <|
z_icmp_ne (tgt := 69) X dX12_text_50 (by decide) h12 kc_m1 o (fun o =>
z_sub (L1 := [(0, .ref (G.2.2.1 0)), (1, .int (pI p1)), (2, .int (pI r10))]) X [1, 2, 0] rfl <|
ok_some o h12) fun o =>
z_aload_n X 1 dX12_text_53 rfl <|
z_aload_n X 1 dX12_text_54 rfl <|
z_getI X dX12_text_55 fl_X12_255 sm_0 rfl o fun v13 r14 o =>
z_putI X dX12_text_58 fl_X12_361 sm_0 ft_X12_33 rfl r14 o fun s15 o =>
z_aload_n X 1 dX12_text_61 rfl <|
z_aload_n X 1 dX12_text_62 rfl <|
z_getI X dX12_text_63 fl_X12_258 sm_0 rfl o fun v16 r17 o =>
z_putI X dX12_text_66 fl_X12_61 sm_0 ft_X12_34 rfl r17 o fun s18 o =>
z_sub (L1 := [(0, .ref (G.2.2.1 0)), (1, .int (pI p1)), (2, .int (pI r10))]) X [1, 2, 0] rfl <|
ok_some o h12 : At E s0 0 [(0, .ref (G.2.2.1 0)), (1, .int (pI p1))] [])
set_option maxHeartbeats 4000000 in
set_option maxRecDepth 100000 in
theorem ct_X12_undo   (G : Gw) (s0 : St) (r : Int) (σ1 : St) (e : fX12_undo s0 = some (r, σ1)) : Ct yX12_undo cX12_undo 2 (some .boolean) 0 0 SM G [.ref (G.2.2.1 0)] s0 (QI SM G r r01 σ1) :=
  Ct.of (by decide +kernel) (Nat.le_of_ble_eq_true rfl) fun E X Y => by
    have o : Ok (fX12_undo s0) (fun x σ' => x = r ∧ σ' = σ1) := ⟨r, σ1, e, rfl, rfl⟩
    unfold fX12_undo at o
    exact (
z_aload_n X 0 dX12_undo_0 rfl <|
z_iconst X dX12_undo_1 <|
z_putI X dX12_undo_2 fl_X12_183 sm_0 ft_X12_0 rfl kc_0 o fun s1 o =>
z_aload_n X 0 dX12_undo_5 rfl <|
z_getI X dX12_undo_6 fl_X12_187 sm_0 rfl o fun v2 r3 o =>
z_if_ne (tgt := 14) X dX12_undo_9 (by decide) r3 o (fun o =>
z_aload_n X 0 dX12_undo_14 rfl <|
z_aload_n X 0 dX12_undo_15 rfl <|
z_getI X dX12_undo_16 fl_X12_187 sm_0 rfl o fun v4 r5 o =>
z_iconst X dX12_undo_19 <|
z_isub X dX12_undo_20 <|
z_putI X dX12_undo_21 fl_X12_187 sm_0 ft_X12_3 rfl (w32_rg _) o fun s6 o =>
z_iconst X dX12_undo_24 <|
z_istore_n (L1 := [(1, .int (pI 0)), (0, .ref (G.2.2.1 0))]) X dX12_undo_25 rfl (by decide) rfl <|
z_join o (fun (y15 : Unit) s16 => True → At E s16 60 [] []) (fun y15 s16 o r17 =>
z_iconst X dX12_undo_60 <|
z_zret X Y dX12_undo_61 o kb_1 kb_1) fun o =>
z_sub (L1 := [(0, .ref (G.2.2.1 0)), (1, .int (pI 0))]) X [1, 0] rfl <|
z_iter (fun (x7 : Int) s8 => rg x7 → At E s8 26 [(0, .ref (G.2.2.1 0)), (1, .int (pI x7))] []) o (fun x7 s8 o r9 =>
z_iload_n X 1 dX12_undo_26 rfl <|
z_sipush X dX12_undo_27 si_161 <|
z_icmp_ge (tgt := 60) X dX12_undo_30 (by decide) r9 kc_161 o (fun o =>
z_sub (L1 := []) X [] rfl <|
ok_some o trivial) fun o =>
z_aload_n X 0 dX12_undo_33 rfl <|
z_getR (q := 1) X dX12_undo_34 fl_X12_7 sm_0 rfl <|
z_iload_n X 1 dX12_undo_37 rfl <|
z_aload_n X 0 dX12_undo_38 rfl <|
z_getR (q := 2) X dX12_undo_39 fl_X12_13 sm_0 rfl <|
z_sipush X dX12_undo_42 si_161 <|
z_aload_n X 0 dX12_undo_45 rfl <|
z_getI X dX12_undo_46 fl_X12_187 sm_0 rfl o fun v10 r11 o =>
z_imul X dX12_undo_49 <|
z_iload_n X 1 dX12_undo_50 rfl <|
z_iadd X dX12_undo_51 <|
z_iald X dX12_undo_52 sm_2 (w32_rg _) o fun v12 r13 o =>
z_iast X dX12_undo_53 sm_1 r9 r13 o fun s14 o =>
z_iinc (L1 := [(1, .int (pI (w32 (x7 + 1)))), (0, .ref (G.2.2.1 0))]) X 1 dX12_undo_54 rfl (by decide) rfl <|
z_goto (tgt := 26) X dX12_undo_57 (by decide) <|
z_sub (L1 := [(0, .ref (G.2.2.1 0)), (1, .int (pI (w32 (x7 + 1))))]) X [1, 0] rfl <|
ok_some o (w32_rg _)) kc_0) fun o =>
z_iconst X dX12_undo_12 <|
z_zret X Y dX12_undo_13 o kb_0 kb_0 : At E s0 0 [(0, .ref (G.2.2.1 0))] [])
set_option maxHeartbeats 4000000 in
set_option maxRecDepth 100000 in
theorem ct_X12_wishes (p1 : Int) (p2 : Int) (p3 : Int) (hp1 : rg p1) (hp2 : rg p2) (hp3 : rg p3) (G : Gw) (s0 : St) (r : Int) (σ1 : St) (e : fX12_wishes p1 p2 p3 s0 = some (r, σ1)) : Ct yX12_wishes cX12_wishes 7 (some .boolean) 1 23 SM G [.ref (G.2.2.1 0), .int (pI p1), .int (pI p2), .int (pI p3)] s0 (QI SM G r r01 σ1) :=
  Ct.of (by decide +kernel) (Nat.le_of_ble_eq_true rfl) fun E X Y => by
    have o : Ok (fX12_wishes p1 p2 p3 s0) (fun x σ' => x = r ∧ σ' = σ1) := ⟨r, σ1, e, rfl, rfl⟩
    unfold fX12_wishes at o
    exact (
z_aload_n X 0 dX12_wishes_0 rfl <|
z_iconst X dX12_wishes_1 <|
z_putI X dX12_wishes_2 fl_X12_183 sm_0 ft_X12_0 rfl kc_0 o fun s1 o =>
z_aload_n X 0 dX12_wishes_5 rfl <|
z_iload_n X 1 dX12_wishes_6 rfl <|
z_iconst X dX12_wishes_7 <|
z_iconst X dX12_wishes_8 <|
z_callvI X dX12_wishes_9 q_1822 wX12_isIn sm_0 rfl (by decide) [.int (pI p1), .int (pI 0), .int (pI 1)] [] rfl rfl (Nat.le_of_ble_eq_true rfl) (fun r σ1 e => ct_X12_isIn p1 0 1 hp1 kc_0 kc_1 G _ r σ1 e) o fun r2 s3 h4 o =>
z_if_eq (tgt := 37) X dX12_wishes_12 (by decide) (r01_rg h4) o (fun o =>
z_iconst X dX12_wishes_37 <|
z_zret X Y dX12_wishes_38 o kb_0 kb_0) fun o =>
z_aload_n X 0 dX12_wishes_15 rfl <|
z_iload_n X 2 dX12_wishes_16 rfl <|
z_iconst X dX12_wishes_17 <|
z_iconst X dX12_wishes_18 <|
z_callvI X dX12_wishes_19 q_1822 wX12_isIn sm_0 rfl (by decide) [.int (pI p2), .int (pI 0), .int (pI 4)] [] rfl rfl (Nat.le_of_ble_eq_true rfl) (fun r σ1 e => ct_X12_isIn p2 0 4 hp2 kc_0 kc_4 G _ r σ1 e) o fun r5 s6 h7 o =>
z_if_eq (tgt := 37) X dX12_wishes_22 (by decide) (r01_rg h7) o (fun o =>
z_iconst X dX12_wishes_37 <|
z_zret X Y dX12_wishes_38 o kb_0 kb_0) fun o =>
z_aload_n X 0 dX12_wishes_25 rfl <|
z_iload_n X 3 dX12_wishes_26 rfl <|
z_iconst X dX12_wishes_27 <|
z_ldcw X dX12_wishes_28 q_2164 ki_43210 <|
z_callvI X dX12_wishes_31 q_1822 wX12_isIn sm_0 rfl (by decide) [.int (pI p3), .int (pI 0), .int (pI 43210)] [] rfl rfl (Nat.le_of_ble_eq_true rfl) (fun r σ1 e => ct_X12_isIn p3 0 43210 hp3 kc_0 kc_43210 G _ r σ1 e) o fun r8 s9 h10 o =>
z_if_ne (tgt := 39) X dX12_wishes_34 (by decide) (r01_rg h10) o (fun o =>
z_iconst X dX12_wishes_39 <|
z_istore (L1 := [(4, .int (pI 0)), (0, .ref (G.2.2.1 0)), (1, .int (pI p1)), (2, .int (pI p2)), (3, .int (pI p3))]) X dX12_wishes_40 (by decide) rfl <|
z_iload_n X 4 dX12_wishes_42 rfl <|
z_istore (L1 := [(5, .int (pI p3)), (4, .int (pI 0)), (0, .ref (G.2.2.1 0)), (1, .int (pI p1)), (2, .int (pI p2)), (3, .int (pI p3))]) X dX12_wishes_43 (by decide) rfl <|
z_iconst X dX12_wishes_45 <|
z_istore (L1 := [(6, .int (pI 0)), (5, .int (pI p3)), (4, .int (pI 0)), (0, .ref (G.2.2.1 0)), (1, .int (pI p1)), (2, .int (pI p2)), (3, .int (pI p3))]) X dX12_wishes_46 (by decide) rfl <|
z_joix o (fun (y21 : Int) s22 => rg y21 → At E s22 90 [(0, .ref (G.2.2.1 0)), (1, .int (pI p1)), (2, .int (pI p2)), (3, .int (pI p3)), (4, .int (pI y21))] []) (fun y21 s22 o r23 =>
z_iload X 4 dX12_wishes_90 rfl <|
z_bipush X dX12_wishes_92 bi_31 <|
z_icmp_eq (tgt := 99) X dX12_wishes_94 (by decide) r23 kc_31 o (fun o =>
z_aload_n X 0 dX12_wishes_99 rfl <|
z_getR (q := 23) X dX12_wishes_100 fl_X12_80 sm_0 rfl <|
z_iconst X dX12_wishes_103 <|
z_iload_n X 1 dX12_wishes_104 rfl <|
z_imul X dX12_wishes_105 <|
z_iload_n X 2 dX12_wishes_106 rfl <|
z_iadd X dX12_wishes_107 <|
z_iload_n X 3 dX12_wishes_108 rfl <|
z_sipush X dX12_wishes_109 si_1234 <|
z_isub X dX12_wishes_112 <|
z_iast X dX12_wishes_113 sm_23 (w32_rg _) (w32_rg _) o fun s24 o =>
z_iconst X dX12_wishes_114 <|
z_zret X Y dX12_wishes_115 o kb_1 kb_1) fun o =>
z_iconst X dX12_wishes_97 <|
z_zret X Y dX12_wishes_98 o kb_0 kb_0) fun o =>
z_sub (L1 := [(0, .ref (G.2.2.1 0)), (1, .int (pI p1)), (2, .int (pI p2)), (3, .int (pI p3)), (4, .int (pI 0)), (5, .int (pI p3)), (6, .int (pI 0))]) X [3, 4, 5, 6, 2, 1, 0] rfl <|
z_iter (fun (x11 : Int × Int × Int) s12 => rg x11.1 ∧ rg x11.2.1 ∧ rg x11.2.2 → At E s12 48 [(0, .ref (G.2.2.1 0)), (1, .int (pI p1)), (2, .int (pI p2)), (3, .int (pI p3)), (4, .int (pI x11.1)), (5, .int (pI x11.2.1)), (6, .int (pI x11.2.2))] []) o (fun x11 s12 o r13 =>
z_iload X 6 dX12_wishes_48 rfl <|
z_iconst X dX12_wishes_50 <|
z_icmp_ge (tgt := 90) X dX12_wishes_51 (by decide) r13.2.2 kc_5 o (fun o =>
z_sub (L1 := [(0, .ref (G.2.2.1 0)), (1, .int (pI p1)), (2, .int (pI p2)), (3, .int (pI p3)), (4, .int (pI x11.1))]) X [0, 1, 2, 3, 4] rfl <|
ok_some o r13.1) fun o =>
z_iload X 5 dX12_wishes_54 rfl <|
z_bipush X dX12_wishes_56 bi_10 <|
z_irem X dX12_wishes_58 r13.2.1 kc_10 o fun z14 o =>
z_iconst X dX12_wishes_59 <|
z_icmp_le (tgt := 65) X dX12_wishes_60 (by decide) (irm_rg kc_10 z14) kc_4 o (fun o =>
z_iload X 4 dX12_wishes_65 rfl <|
z_iconst X dX12_wishes_67 <|
z_iload X 5 dX12_wishes_68 rfl <|
z_bipush X dX12_wishes_70 bi_10 <|
z_irem X dX12_wishes_72 r13.2.1 kc_10 o fun z15 o =>
z_ishl X dX12_wishes_73 <|
z_ior X dX12_wishes_74 <|
z_istoreL (L1 := fun v16 => [(4, .int (pI v16)), (0, .ref (G.2.2.1 0)), (1, .int (pI p1)), (2, .int (pI p2)), (3, .int (pI p3)), (5, .int (pI x11.2.1)), (6, .int (pI x11.2.2))]) (R := rg) X dX12_wishes_75 (by decide) (fun _ => rfl) o (int_rg _) fun v16 r17 o =>
z_iload X 5 dX12_wishes_77 rfl <|
z_bipush X dX12_wishes_79 bi_10 <|
z_idiv X dX12_wishes_81 r13.2.1 kc_10 o fun z18 o =>
z_istoreL (L1 := fun v19 => [(5, .int (pI v19)), (4, .int (pI v16)), (0, .ref (G.2.2.1 0)), (1, .int (pI p1)), (2, .int (pI p2)), (3, .int (pI p3)), (6, .int (pI x11.2.2))]) (R := rg) X dX12_wishes_82 (by decide) (fun _ => rfl) o (w32_rg _) fun v19 r20 o =>
z_iinc (L1 := [(6, .int (pI (w32 (x11.2.2 + 1)))), (5, .int (pI v19)), (4, .int (pI v16)), (0, .ref (G.2.2.1 0)), (1, .int (pI p1)), (2, .int (pI p2)), (3, .int (pI p3))]) X 6 dX12_wishes_84 rfl (by decide) rfl <|
z_goto (tgt := 48) X dX12_wishes_87 (by decide) <|
z_sub (L1 := [(0, .ref (G.2.2.1 0)), (1, .int (pI p1)), (2, .int (pI p2)), (3, .int (pI p3)), (4, .int (pI v16)), (5, .int (pI v19)), (6, .int (pI (w32 (x11.2.2 + 1))))]) X [3, 4, 5, 6, 2, 1, 0] rfl <|
ok_some o ⟨r17, r20, (w32_rg _)⟩) fun o =>
z_iconst X dX12_wishes_63 <|
z_zret X Y dX12_wishes_64 (ok_ret (ok_some o)) kb_0 kb_0) ⟨kc_0, hp3, kc_0⟩) fun o =>
z_iconst X dX12_wishes_37 <|
z_zret X Y dX12_wishes_38 o kb_0 kb_0 : At E s0 0 [(0, .ref (G.2.2.1 0)), (1, .int (pI p1)), (2, .int (pI p2)), (3, .int (pI p3))] [])
