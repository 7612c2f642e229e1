set_option maxHeartbeats 4000000 in
set_option maxRecDepth 100000 in
theorem ct_X12_fault (p1 : Int) (hp1 : rg p1) (G : Gw) (s0 : St) (r : Int) (σ1 : St) (e : fX12_fault p1 s0 = some (r, σ1)) : Ct yX12_fault cX12_fault 2 (some .int) 0 0 SM G [.ref (G.2.2.1 0), .int (pI p1)] s0 (QI SM G r rg σ1) :=
  Ct.of (by decide +kernel) (Nat.le_of_ble_eq_true rfl) fun E X Y => by
    have o : Ok (fX12_fault p1 s0) (fun x σ' => x = r ∧ σ' = σ1) := ⟨r, σ1, e, rfl, rfl⟩
    unfold fX12_fault at o
    exact (
z_aload_n X 0 dX12_fault_0 rfl <|
z_iconst X dX12_fault_1 <|
z_putI X dX12_fault_2 fl_X12_183 sm_0 ft_X12_0 rfl kc_0 o fun s1 o =>
z_iload_n X 1 dX12_fault_5 rfl <|
z_if_ne (tgt := 16) X dX12_fault_6 (by decide) hp1 o (fun o =>
z_iload_n X 1 dX12_fault_16 rfl <|
z_iconst X dX12_fault_17 <|
z_icmp_ne (tgt := 28) X dX12_fault_18 (by decide) hp1 kc_1 o (fun o =>
z_iconst X dX12_fault_28 <|
z_iret X Y dX12_fault_29 o kc_m1) fun o =>
z_aload_n X 0 dX12_fault_21 rfl <|
z_getI X dX12_fault_22 fl_X12_61 sm_0 rfl o fun v2 r3 o =>
z_goto (tgt := 29) X dX12_fault_25 (by decide) <|
z_iret X Y dX12_fault_29 o r3) fun o =>
z_aload_n X 0 dX12_fault_9 rfl <|
z_getI X dX12_fault_10 fl_X12_361 sm_0 rfl o fun v4 r5 o =>
z_goto (tgt := 29) X dX12_fault_13 (by decide) <|
z_iret X Y dX12_fault_29 o r5 : At E s0 0 [(0, .ref (G.2.2.1 0)), (1, .int (pI p1))] [])
set_option maxHeartbeats 4000000 in
set_option maxRecDepth 100000 in
theorem ct_X12_types (p1 : Int) (hp1 : rg p1) (G : Gw) (s0 : St) (r : Int) (σ1 : St) (e : fX12_types p1 s0 = some (r, σ1)) : Ct yX12_types cX12_types 3 none 0 0 SM G [.ref (G.2.2.1 0), .int (pI p1)] s0 (QV SM G σ1) :=
  Ct.of (by decide +kernel) (Nat.le_of_ble_eq_true rfl) fun E X Y => by
    have o : Ok (fX12_types p1 s0) (fun x σ' => x = r ∧ σ' = σ1) := ⟨r, σ1, e, rfl, rfl⟩
    unfold fX12_types at o
    exact (
z_bipush X dX12_types_0 bi_24 <|
z_istore_n (L1 := [(2, .int (pI 24)), (0, .ref (G.2.2.1 0)), (1, .int (pI p1))]) X dX12_types_2 rfl (by decide) rfl <|
z_join o (fun (y10 : Unit) s11 => True → At E s11 39 [] []) (fun y10 s11 o r12 =>
z_vret (v := 0) X Y dX12_types_39 o) fun o =>
z_sub (L1 := [(0, .ref (G.2.2.1 0)), (1, .int (pI p1)), (2, .int (pI 24))]) X [1, 2, 0] rfl <|
z_iter (fun (x1 : Int) s2 => rg x1 → At E s2 3 [(0, .ref (G.2.2.1 0)), (1, .int (pI p1)), (2, .int (pI x1))] []) o (fun x1 s2 o r3 =>
z_iload_n X 2 dX12_types_3 rfl <|
z_if_lt (tgt := 39) X dX12_types_4 (by decide) r3 o (fun o =>
z_sub (L1 := []) X [] rfl <|
ok_some o trivial) fun o =>
z_aload_n X 0 dX12_types_7 rfl <|
z_getR (q := 8) X dX12_types_8 fl_X12_31 sm_0 rfl <|
z_aload_n X 0 dX12_types_11 rfl <|
z_getI X dX12_types_12 fl_X12_220 sm_0 rfl o fun v4 r5 o =>
z_iload_n X 1 dX12_types_15 rfl <|
z_iload_n X 2 dX12_types_16 rfl <|
z_ishr X dX12_types_17 <|
z_sipush X dX12_types_18 si_255 <|
z_iand X dX12_types_21 <|
z_iast X dX12_types_22 sm_8 r5 (int_rg _) o fun s6 o =>
z_aload_n X 0 dX12_types_23 rfl <|
z_aload_n X 0 dX12_types_24 rfl <|
z_getI X dX12_types_25 fl_X12_220 sm_0 rfl o fun v7 r8 o =>
z_iconst X dX12_types_28 <|
z_iadd X dX12_types_29 <|
z_putI X dX12_types_30 fl_X12_220 sm_0 ft_X12_13 rfl (w32_rg _) o fun s9 o =>
z_iinc (L1 := [(2, .int (pI (w32 (x1 + (-8))))), (0, .ref (G.2.2.1 0)), (1, .int (pI p1))]) X 2 dX12_types_33 rfl (by decide) rfl <|
z_goto (tgt := 3) X dX12_types_36 (by decide) <|
z_sub (L1 := [(0, .ref (G.2.2.1 0)), (1, .int (pI p1)), (2, .int (pI (w32 (x1 + (-8)))))]) X [1, 2, 0] rfl <|
ok_some o (w32_rg _)) kc_24 : At E s0 0 [(0, .ref (G.2.2.1 0)), (1, .int (pI p1))] [])
set_option maxHeartbeats 4000000 in
set_option maxRecDepth 100000 in
theorem ct_X12_feed (p1 : Int) (p2 : Int) (p3 : Int) (p4 : Int) (p5 : Int) (hp1 : rg p1) (hp2 : rg p2) (hp3 : rg p3) (hp4 : rg p4) (hp5 : rg p5) (G : Gw) (s0 : St) (r : Int) (σ1 : St) (e : fX12_feed p1 p2 p3 p4 p5 s0 = some (r, σ1)) : Ct yX12_feed cX12_feed 6 (some .int) 1 22 SM G [.ref (G.2.2.1 0), .int (pI p1), .int (pI p2), .int (pI p3), .int (pI p4), .int (pI p5)] s0 (QI SM G r rg σ1) :=
  Ct.of (by decide +kernel) (Nat.le_of_ble_eq_true rfl) fun E X Y => by
    have o : Ok (fX12_feed p1 p2 p3 p4 p5 s0) (fun x σ' => x = r ∧ σ' = σ1) := ⟨r, σ1, e, rfl, rfl⟩
    unfold fX12_feed at o
    exact (
z_aload_n X 0 dX12_feed_0 rfl <|
z_iconst X dX12_feed_1 <|
z_putI X dX12_feed_2 fl_X12_183 sm_0 ft_X12_0 rfl kc_0 o fun s1 o =>
z_aload_n X 0 dX12_feed_5 rfl <|
z_getI X dX12_feed_6 fl_X12_220 sm_0 rfl o fun v2 r3 o =>
z_sipush X dX12_feed_9 si_380 <|
z_icmp_le (tgt := 17) X dX12_feed_12 (by decide) r3 kc_380 o (fun o =>
z_aload_n X 0 dX12_feed_17 rfl <|
z_iload_n X 1 dX12_feed_18 rfl <|
z_callvV X dX12_feed_19 q_1850 wX12_types sm_0 rfl (by decide) [.int (pI p1)] [] rfl rfl (Nat.le_of_ble_eq_true rfl) (fun r σ1 e => ct_X12_types p1 hp1 G _ r σ1 e) o fun r4 s5 o =>
z_aload_n X 0 dX12_feed_22 rfl <|
z_iload_n X 2 dX12_feed_23 rfl <|
z_callvV X dX12_feed_24 q_1850 wX12_types sm_0 rfl (by decide) [.int (pI p2)] [] rfl rfl (Nat.le_of_ble_eq_true rfl) (fun r σ1 e => ct_X12_types p2 hp2 G _ r σ1 e) o fun r7 s8 o =>
z_aload_n X 0 dX12_feed_27 rfl <|
z_iload_n X 3 dX12_feed_28 rfl <|
z_callvV X dX12_feed_29 q_1850 wX12_types sm_0 rfl (by decide) [.int (pI p3)] [] rfl rfl (Nat.le_of_ble_eq_true rfl) (fun r σ1 e => ct_X12_types p3 hp3 G _ r σ1 e) o fun r10 s11 o =>
z_aload_n X 0 dX12_feed_32 rfl <|
z_iload X 4 dX12_feed_33 rfl <|
z_callvV X dX12_feed_35 q_1850 wX12_types sm_0 rfl (by decide) [.int (pI p4)] [] rfl rfl (Nat.le_of_ble_eq_true rfl) (fun r σ1 e => ct_X12_types p4 hp4 G _ r σ1 e) o fun r13 s14 o =>
z_aload_n X 0 dX12_feed_38 rfl <|
z_iload X 5 dX12_feed_39 rfl <|
z_callvV X dX12_feed_41 q_1850 wX12_types sm_0 rfl (by decide) [.int (pI p5)] [] rfl rfl (Nat.le_of_ble_eq_true rfl) (fun r σ1 e => ct_X12_types p5 hp5 G _ r σ1 e) o fun r16 s17 o =>
z_aload_n X 0 dX12_feed_44 rfl <|
z_getI X dX12_feed_45 fl_X12_220 sm_0 rfl o fun v19 r20 o =>
z_iret X Y dX12_feed_48 o r20) fun o =>
z_iconst X dX12_feed_15 <|
z_iret X Y dX12_feed_16 o kc_m1 : At E s0 0 [(0, .ref (G.2.2.1 0)), (1, .int (pI p1)), (2, .int (pI p2)), (3, .int (pI p3)), (4, .int (pI p4)), (5, .int (pI p5))] [])
set_option maxHeartbeats 4000000 in
set_option maxRecDepth 100000 in
theorem ct_X12_withFamily (p1 : Int) (p2 : Int) (p3 : Int) (hp1 : rg p1) (hp2 : rg p2) (hp3 : rg p3) (G : Gw) (s0 : St) (r : Int) (σ1 : St) (e : fX12_withFamily p1 p2 p3 s0 = some (r, σ1)) : Ct yX12_withFamily cX12_withFamily 6 (some .int) 0 0 SM G [.ref (G.2.2.1 0), .int (pI p1), .int (pI p2), .int (pI p3)] s0 (QI SM G r rg σ1) :=
  Ct.of (by decide +kernel) (Nat.le_of_ble_eq_true rfl) fun E X Y => by
    have o : Ok (fX12_withFamily p1 p2 p3 s0) (fun x σ' => x = r ∧ σ' = σ1) := ⟨r, σ1, e, rfl, rfl⟩
    unfold fX12_withFamily at o
    exact (
z_iload_n X 1 dX12_withFamily_0 rfl <|
z_bipush X dX12_withFamily_1 bi_100 <|
z_idiv X dX12_withFamily_3 hp1 kc_100 o fun z1 o =>
z_istoreL (L1 := fun v2 => [(4, .int (pI v2)), (0, .ref (G.2.2.1 0)), (1, .int (pI p1)), (2, .int (pI p2)), (3, .int (pI p3))]) (R := rg) X dX12_withFamily_4 (by decide) (fun _ => rfl) o (w32_rg _) fun v2 r3 o =>
z_iload_n X 2 dX12_withFamily_6 rfl <|
z_bipush X dX12_withFamily_7 bi_100 <|
z_irem X dX12_withFamily_9 hp1 kc_100 o fun z4 o =>
z_istoreL (L1 := fun v5 => [(5, .int (pI v5)), (4, .int (pI v2)), (0, .ref (G.2.2.1 0)), (1, .int (pI p1)), (2, .int (pI p2)), (3, .int (pI p3))]) (R := rg) X dX12_withFamily_10 (by decide) (fun _ => rfl) o (irm_rg kc_100 z4) fun v5 r6 o =>
z_iload X 1 dX12_withFamily_12 rfl <|
z_if_le (tgt := 38) X dX12_withFamily_14 (by decide) r3 o (fun o =>
z_bipush X dX12_withFamily_38 bi_100 <|
z_iload X 1 dX12_withFamily_40 rfl <|
z_iconst X dX12_withFamily_42 <|
z_iadd X dX12_withFamily_43 <|
z_imul X dX12_withFamily_44 <|
z_iload_n X 4 dX12_withFamily_45 rfl <|
z_iadd X dX12_withFamily_46 <|
z_iret X Y dX12_withFamily_47 o (w32_rg _)) fun o =>
z_iload X 0 dX12_withFamily_17 rfl <|
z_iload_n X 4 dX12_withFamily_19 rfl <|
z_iadd X dX12_withFamily_20 <|
z_iload_n X 5 dX12_withFamily_21 rfl <|
z_icmp_gt (tgt := 38) X dX12_withFamily_22 (by decide) (w32_rg _) hp3 o (fun o =>
z_bipush X dX12_withFamily_38 bi_100 <|
z_iload X 1 dX12_withFamily_40 rfl <|
z_iconst X dX12_withFamily_42 <|
z_iadd X dX12_withFamily_43 <|
z_imul X dX12_withFamily_44 <|
z_iload_n X 4 dX12_withFamily_45 rfl <|
z_iadd X dX12_withFamily_46 <|
z_iret X Y dX12_withFamily_47 o (w32_rg _)) fun o =>
z_bipush X dX12_withFamily_25 bi_100 <|
z_iload X 1 dX12_withFamily_27 rfl <|
z_imul X dX12_withFamily_29 <|
z_iload X 0 dX12_withFamily_30 rfl <|
z_iadd X dX12_withFamily_32 <|
z_iload_n X 4 dX12_withFamily_33 rfl <|
z_iadd X dX12_withFamily_34 <|
z_goto (tgt := 47) X dX12_withFamily_35 (by decide) <|
z_iret X Y dX12_withFamily_47 o (w32_rg _) : At E s0 0 [(0, .ref (G.2.2.1 0)), (1, .int (pI p1)), (2, .int (pI p2)), (3, .int (pI p3))] [])
set_option maxHeartbeats 4000000 in
set_option maxRecDepth 100000 in
theorem ct_X12_fewestPorches (p1 : Int) (hp1 : rg p1) (G : Gw) (s0 : St) (r : Int) (σ1 : St) (e : fX12_fewestPorches p1 s0 = some (r, σ1)) : Ct yX12_fewestPorches cX12_fewestPorches 4 (some .int) 1 25 SM G [.ref (G.2.2.1 0), .int (pI p1)] s0 (QI SM G r rg σ1) :=
  Ct.of (by decide +kernel) (Nat.le_of_ble_eq_true rfl) fun E X Y => by
    have o : Ok (fX12_fewestPorches p1 s0) (fun x σ' => x = r ∧ σ' = σ1) := ⟨r, σ1, e, rfl, rfl⟩
    unfold fX12_fewestPorches at o
    exact (
z_iconst X dX12_fewestPorches_0 <|
z_istore_n (L1 := [(2, .int (pI 0)), (0, .ref (G.2.2.1 0)), (1, .int (pI p1))]) X dX12_fewestPorches_1 rfl (by decide) rfl <|
z_joix o (fun (y8 : Unit) s9 => True → At E s9 28 [(0, .ref (G.2.2.1 0)), (1, .int (pI p1))] []) (fun y8 s9 o r10 =>
z_aload_n X 0 dX12_fewestPorches_28 rfl <|
z_getR (q := 37) X dX12_fewestPorches_29 fl_X12_122 sm_0 rfl <|
z_iconst X dX12_fewestPorches_32 <|
z_iconst X dX12_fewestPorches_33 <|
z_iast X dX12_fewestPorches_34 sm_37 kc_0 kc_0 o fun s11 o =>
z_iconst X dX12_fewestPorches_35 <|
z_istore_n (L1 := [(2, .int (pI 1)), (0, .ref (G.2.2.1 0)), (1, .int (pI p1))]) X dX12_fewestPorches_36 rfl (by decide) rfl <|
z_join o (fun (y42 : Unit) s43 => True → At E s43 126 [(0, .ref (G.2.2.1 0))] []) (fun y42 s43 o r44 =>
z_aload_n X 0 dX12_fewestPorches_126 rfl <|
z_getR (q := 37) X dX12_fewestPorches_127 fl_X12_122 sm_0 rfl <|
z_iconst X dX12_fewestPorches_130 <|
z_aload_n X 0 dX12_fewestPorches_131 rfl <|
z_getI X dX12_fewestPorches_132 fl_X12_500 sm_0 rfl o fun v45 r46 o =>
z_ishl X dX12_fewestPorches_135 <|
z_iconst X dX12_fewestPorches_136 <|
z_isub X dX12_fewestPorches_137 <|
z_iald X dX12_fewestPorches_138 sm_37 (w32_rg _) o fun v47 r48 o =>
z_bipush X dX12_fewestPorches_139 bi_100 <|
z_idiv X dX12_fewestPorches_141 r48 kc_100 o fun z49 o =>
z_iret X Y dX12_fewestPorches_142 o (w32_rg _)) fun o =>
z_sub (L1 := [(0, .ref (G.2.2.1 0)), (1, .int (pI p1)), (2, .int (pI 1))]) X [1, 2, 0] rfl <|
z_iter (fun (x12 : Int) s13 => rg x12 → At E s13 37 [(0, .ref (G.2.2.1 0)), (1, .int (pI p1)), (2, .int (pI x12))] []) o (fun x12 s13 o r14 =>
z_iload_n X 2 dX12_fewestPorches_37 rfl <|
z_iconst X dX12_fewestPorches_38 <|
z_aload_n X 0 dX12_fewestPorches_39 rfl <|
z_getI X dX12_fewestPorches_40 fl_X12_500 sm_0 rfl o fun v15 r16 o =>
z_ishl X dX12_fewestPorches_43 <|
z_icmp_ge (tgt := 126) X dX12_fewestPorches_44 (by decide) r14 (int_rg _) o (fun o =>
z_sub (L1 := [(0, .ref (G.2.2.1 0))]) X [0] rfl <|
ok_some o trivial) fun o =>
z_aload_n X 0 dX12_fewestPorches_47 rfl <|
z_getR (q := 37) X dX12_fewestPorches_48 fl_X12_122 sm_0 rfl <|
z_iload_n X 2 dX12_fewestPorches_51 rfl <|
z_ldcw X dX12_fewestPorches_52 q_2217 ki_100000000 <|
z_iast X dX12_fewestPorches_55 sm_37 r14 kc_100000000 o fun s17 o =>
z_iconst X dX12_fewestPorches_56 <|
z_istore_n (L1 := [(3, .int (pI 0)), (0, .ref (G.2.2.1 0)), (1, .int (pI p1)), (2, .int (pI x12))]) X dX12_fewestPorches_57 rfl (by decide) rfl <|
z_join o (fun (y39 : Unit) s40 => True → At E s40 120 [(0, .ref (G.2.2.1 0)), (1, .int (pI p1)), (2, .int (pI x12))] []) (fun y39 s40 o r41 =>
z_iinc (L1 := [(2, .int (pI (w32 (x12 + 1)))), (0, .ref (G.2.2.1 0)), (1, .int (pI p1))]) X 2 dX12_fewestPorches_120 rfl (by decide) rfl <|
z_goto (tgt := 37) X dX12_fewestPorches_123 (by decide) <|
z_sub (L1 := [(0, .ref (G.2.2.1 0)), (1, .int (pI p1)), (2, .int (pI (w32 (x12 + 1))))]) X [1, 2, 0] rfl <|
ok_some o (w32_rg _)) fun o =>
z_sub (L1 := [(0, .ref (G.2.2.1 0)), (1, .int (pI p1)), (2, .int (pI x12)), (3, .int (pI 0))]) X [1, 2, 3, 0] rfl <|
z_iter (fun (x18 : Int) s19 => rg x18 → At E s19 58 [(0, .ref (G.2.2.1 0)), (1, .int (pI p1)), (2, .int (pI x12)), (3, .int (pI x18))] []) o (fun x18 s19 o r20 =>
z_iload_n X 3 dX12_fewestPorches_58 rfl <|
z_aload_n X 0 dX12_fewestPorches_59 rfl <|
z_getI X dX12_fewestPorches_60 fl_X12_500 sm_0 rfl o fun v21 r22 o =>
z_icmp_ge (tgt := 120) X dX12_fewestPorches_63 (by decide) r20 r22 o (fun o =>
z_sub (L1 := [(0, .ref (G.2.2.1 0)), (1, .int (pI p1)), (2, .int (pI x12))]) X [0, 1, 2] rfl <|
ok_some o trivial) fun o =>
z_aload_n X 0 dX12_fewestPorches_66 rfl <|
z_iload_n X 2 dX12_fewestPorches_67 rfl <|
z_iload_n X 3 dX12_fewestPorches_68 rfl <|
z_callvI X dX12_fewestPorches_69 q_2189 wX12_has sm_0 rfl (by decide) [.int (pI x12), .int (pI x18)] [] rfl rfl (Nat.le_of_ble_eq_true rfl) (fun r σ1 e => ct_X12_has x12 x18 r14 r20 G _ r σ1 e) o fun r23 s24 h25 o =>
z_if_eq (tgt := 114) X dX12_fewestPorches_72 (by decide) (r01_rg h25) o (fun o =>
z_iinc (L1 := [(3, .int (pI (w32 (x18 + 1)))), (0, .ref (G.2.2.1 0)), (1, .int (pI p1)), (2, .int (pI x12))]) X 3 dX12_fewestPorches_114 rfl (by decide) rfl <|
z_goto (tgt := 58) X dX12_fewestPorches_117 (by decide) <|
z_sub (L1 := [(0, .ref (G.2.2.1 0)), (1, .int (pI p1)), (2, .int (pI x12)), (3, .int (pI (w32 (x18 + 1))))]) X [1, 2, 3, 0] rfl <|
ok_some o (w32_rg _)) fun o =>
z_aload_n X 0 dX12_fewestPorches_75 rfl <|
z_getR (q := 37) X dX12_fewestPorches_76 fl_X12_122 sm_0 rfl <|
z_iload_n X 2 dX12_fewestPorches_79 rfl <|
z_aload_n X 0 dX12_fewestPorches_80 rfl <|
z_aload_n X 0 dX12_fewestPorches_81 rfl <|
z_getR (q := 37) X dX12_fewestPorches_82 fl_X12_122 sm_0 rfl <|
z_iload_n X 2 dX12_fewestPorches_85 rfl <|
z_iald X dX12_fewestPorches_86 sm_37 r14 o fun v26 r27 o =>
z_aload_n X 0 dX12_fewestPorches_87 rfl <|
z_aload_n X 0 dX12_fewestPorches_88 rfl <|
z_getR (q := 37) X dX12_fewestPorches_89 fl_X12_122 sm_0 rfl <|
z_iload_n X 2 dX12_fewestPorches_92 rfl <|
z_iconst X dX12_fewestPorches_93 <|
z_iload_n X 3 dX12_fewestPorches_94 rfl <|
z_ishl X dX12_fewestPorches_95 <|
z_iconst X dX12_fewestPorches_96 <|
z_ixor X dX12_fewestPorches_97 <|
z_iand X dX12_fewestPorches_98 <|
z_iald X dX12_fewestPorches_99 sm_37 (int_rg _) o fun v28 r29 o =>
z_aload_n X 0 dX12_fewestPorches_100 rfl <|
z_getR (q := 36) X dX12_fewestPorches_101 fl_X12_119 sm_0 rfl <|
z_iload_n X 3 dX12_fewestPorches_104 rfl <|
z_iald X dX12_fewestPorches_105 sm_36 r20 o fun v30 r31 o =>
z_iload_n X 1 dX12_fewestPorches_106 rfl <|
z_callvI X dX12_fewestPorches_107 q_2230 wX12_withFamily sm_0 rfl (by decide) [.int (pI v28), .int (pI v30), .int (pI p1)] [.int (pI v26), .ref (G.2.2.1 0), .int (pI x12), .ref (G.2.2.1 37)] rfl rfl (Nat.le_of_ble_eq_true rfl) (fun r σ1 e => ct_X12_withFamily v28 v30 p1 r29 r31 hp1 G _ r σ1 e) o fun r32 s33 h34 o =>
z_callvI X dX12_fewestPorches_110 q_2120 wX12_lesser sm_0 rfl (by decide) [.int (pI v26), .int (pI r32)] [.int (pI x12), .ref (G.2.2.1 37)] rfl rfl (Nat.le_of_ble_eq_true rfl) (fun r σ1 e => ct_X12_lesser v26 r32 r27 h34 G _ r σ1 e) o fun r35 s36 h37 o =>
z_iast X dX12_fewestPorches_113 sm_37 r14 h37 o fun s38 o =>
z_iinc (L1 := [(3, .int (pI (w32 (x18 + 1)))), (0, .ref (G.2.2.1 0)), (1, .int (pI p1)), (2, .int (pI x12))]) X 3 dX12_fewestPorches_114 rfl (by decide) rfl <|
z_goto (tgt := 58) X dX12_fewestPorches_117 (by decide) <|
z_sub (L1 := [(0, .ref (G.2.2.1 0)), (1, .int (pI p1)), (2, .int (pI x12)), (3, .int (pI (w32 (x18 + 1))))]) X [1, 2, 3, 0] rfl <|
ok_some o (w32_rg _)) kc_0) kc_1) fun o =>
z_sub (L1 := [(0, .ref (G.2.2.1 0)), (1, .int (pI p1)), (2, .int (pI 0))]) X [1, 2, 0] rfl <|
z_iter (fun (x1 : Int) s2 => rg x1 → At E s2 2 [(0, .ref (G.2.2.1 0)), (1, .int (pI p1)), (2, .int (pI x1))] []) o (fun x1 s2 o r3 =>
z_iload_n X 2 dX12_fewestPorches_2 rfl <|
z_aload_n X 0 dX12_fewestPorches_3 rfl <|
z_getI X dX12_fewestPorches_4 fl_X12_500 sm_0 rfl o fun v4 r5 o =>
z_icmp_ge (tgt := 28) X dX12_fewestPorches_7 (by decide) r3 r5 o (fun o =>
z_sub (L1 := [(0, .ref (G.2.2.1 0)), (1, .int (pI p1))]) X [0, 1] rfl <|
ok_some o trivial) fun o =>
z_aload_n X 0 dX12_fewestPorches_10 rfl <|
z_getR (q := 36) X dX12_fewestPorches_11 fl_X12_119 sm_0 rfl <|
z_iload_n X 2 dX12_fewestPorches_14 rfl <|
z_iald X dX12_fewestPorches_15 sm_36 r3 o fun v6 r7 o =>
z_iload_n X 1 dX12_fewestPorches_16 rfl <|
z_icmp_le (tgt := 22) X dX12_fewestPorches_17 (by decide) r7 hp1 o (fun o =>
z_iinc (L1 := [(2, .int (pI (w32 (x1 + 1)))), (0, .ref (G.2.2.1 0)), (1, .int (pI p1))]) X 2 dX12_fewestPorches_22 rfl (by decide) rfl <|
z_goto (tgt := 2) X dX12_fewestPorches_25 (by decide) <|
z_sub (L1 := [(0, .ref (G.2.2.1 0)), (1, .int (pI p1)), (2, .int (pI (w32 (x1 + 1))))]) X [1, 2, 0] rfl <|
ok_some o (w32_rg _)) fun o =>
z_iconst X dX12_fewestPorches_20 <|
z_iret X Y dX12_fewestPorches_21 (ok_ret (ok_some o)) kc_m1) kc_0 : At E s0 0 [(0, .ref (G.2.2.1 0)), (1, .int (pI p1))] [])
set_option maxHeartbeats 4000000 in
set_option maxRecDepth 100000 in
theorem ct_X12_findsWishes   (G : Gw) (s0 : St) (r : Int) (σ1 : St) (e : fX12_findsWishes s0 = some (r, σ1)) : Ct yX12_findsWishes cX12_findsWishes 4 none 0 0 SM G [.ref (G.2.2.1 0)] s0 (QV SM G σ1) :=
  Ct.of (by decide +kernel) (Nat.le_of_ble_eq_true rfl) fun E X Y => by
    have o : Ok (fX12_findsWishes s0) (fun x σ' => x = r ∧ σ' = σ1) := ⟨r, σ1, e, rfl, rfl⟩
    unfold fX12_findsWishes at o
    exact (
z_iconst X dX12_findsWishes_0 <|
z_istore_n (L1 := [(1, .int (pI 0)), (0, .ref (G.2.2.1 0))]) X dX12_findsWishes_1 rfl (by decide) rfl <|
z_join o (fun (y21 : Unit) s22 => True → At E s22 70 [] []) (fun y21 s22 o r23 =>
z_vret (v := 0) X Y dX12_findsWishes_70 o) fun o =>
z_sub (L1 := [(0, .ref (G.2.2.1 0)), (1, .int (pI 0))]) X [1, 0] rfl <|
z_iter (fun (x1 : Int) s2 => rg x1 → At E s2 2 [(0, .ref (G.2.2.1 0)), (1, .int (pI x1))] []) o (fun x1 s2 o r3 =>
z_iload_n X 1 dX12_findsWishes_2 rfl <|
z_bipush X dX12_findsWishes_3 bi_10 <|
z_icmp_ge (tgt := 70) X dX12_findsWishes_5 (by decide) r3 kc_10 o (fun o =>
z_sub (L1 := []) X [] rfl <|
ok_some o trivial) fun o =>
z_aload_n X 0 dX12_findsWishes_8 rfl <|
z_getR (q := 23) X dX12_findsWishes_9 fl_X12_80 sm_0 rfl <|
z_iload_n X 1 dX12_findsWishes_12 rfl <|
z_iald X dX12_findsWishes_13 sm_23 r3 o fun v4 r5 o =>
z_sipush X dX12_findsWishes_14 si_1234 <|
z_iadd X dX12_findsWishes_17 <|
z_istoreL_n (L1 := fun v6 => [(2, .int (pI v6)), (0, .ref (G.2.2.1 0)), (1, .int (pI x1))]) (R := rg) X dX12_findsWishes_18 rfl (by decide) (fun _ => rfl) o (w32_rg _) fun v6 r7 o =>
z_iconst X dX12_findsWishes_19 <|
z_istore_n (L1 := [(3, .int (pI 4)), (2, .int (pI v6)), (0, .ref (G.2.2.1 0)), (1, .int (pI x1))]) X dX12_findsWishes_20 rfl (by decide) rfl <|
z_join o (fun (y18 : Unit) s19 => True → At E s19 64 [(0, .ref (G.2.2.1 0)), (1, .int (pI x1))] []) (fun y18 s19 o r20 =>
z_iinc (L1 := [(1, .int (pI (w32 (x1 + 1)))), (0, .ref (G.2.2.1 0))]) X 1 dX12_findsWishes_64 rfl (by decide) rfl <|
z_goto (tgt := 2) X dX12_findsWishes_67 (by decide) <|
z_sub (L1 := [(0, .ref (G.2.2.1 0)), (1, .int (pI (w32 (x1 + 1))))]) X [1, 0] rfl <|
ok_some o (w32_rg _)) fun o =>
z_sub (L1 := [(0, .ref (G.2.2.1 0)), (1, .int (pI x1)), (2, .int (pI v6)), (3, .int (pI 4))]) X [2, 3, 1, 0] rfl <|
z_iter (fun (x8 : Int × Int) s9 => rg x8.1 ∧ rg x8.2 → At E s9 21 [(0, .ref (G.2.2.1 0)), (1, .int (pI x1)), (2, .int (pI x8.1)), (3, .int (pI x8.2))] []) o (fun x8 s9 o r10 =>
z_iload_n X 3 dX12_findsWishes_21 rfl <|
z_if_lt (tgt := 64) X dX12_findsWishes_22 (by decide) r10.2 o (fun o =>
z_sub (L1 := [(0, .ref (G.2.2.1 0)), (1, .int (pI x1))]) X [0, 1] rfl <|
ok_some o trivial) fun o =>
z_aload_n X 0 dX12_findsWishes_25 rfl <|
z_getR (q := 25) X dX12_findsWishes_26 fl_X12_86 sm_0 rfl <|
z_iconst X dX12_findsWishes_29 <|
z_iload_n X 1 dX12_findsWishes_30 rfl <|
z_imul X dX12_findsWishes_31 <|
z_iload_n X 3 dX12_findsWishes_32 rfl <|
z_iadd X dX12_findsWishes_33 <|
z_iload_n X 2 dX12_findsWishes_34 rfl <|
z_bipush X dX12_findsWishes_35 bi_10 <|
z_irem X dX12_findsWishes_37 r10.1 kc_10 o fun z11 o =>
z_iast X dX12_findsWishes_38 sm_25 (w32_rg _) (irm_rg kc_10 z11) o fun s12 o =>
z_aload_n X 0 dX12_findsWishes_39 rfl <|
z_getR (q := 24) X dX12_findsWishes_40 fl_X12_83 sm_0 rfl <|
z_iconst X dX12_findsWishes_43 <|
z_iload_n X 1 dX12_findsWishes_44 rfl <|
z_imul X dX12_findsWishes_45 <|
z_iload_n X 2 dX12_findsWishes_46 rfl <|
z_bipush X dX12_findsWishes_47 bi_10 <|
z_irem X dX12_findsWishes_49 r10.1 kc_10 o fun z13 o =>
z_iadd X dX12_findsWishes_50 <|
z_iload_n X 3 dX12_findsWishes_51 rfl <|
z_iast X dX12_findsWishes_52 sm_24 (w32_rg _) r10.2 o fun s14 o =>
z_iload_n X 2 dX12_findsWishes_53 rfl <|
z_bipush X dX12_findsWishes_54 bi_10 <|
z_idiv X dX12_findsWishes_56 r10.1 kc_10 o fun z15 o =>
z_istoreL_n (L1 := fun v16 => [(2, .int (pI v16)), (0, .ref (G.2.2.1 0)), (1, .int (pI x1)), (3, .int (pI x8.2))]) (R := rg) X dX12_findsWishes_57 rfl (by decide) (fun _ => rfl) o (w32_rg _) fun v16 r17 o =>
z_iinc (L1 := [(3, .int (pI (w32 (x8.2 + (-1))))), (2, .int (pI v16)), (0, .ref (G.2.2.1 0)), (1, .int (pI x1))]) X 3 dX12_findsWishes_58 rfl (by decide) rfl <|
z_goto (tgt := 21) X dX12_findsWishes_61 (by decide) <|
z_sub (L1 := [(0, .ref (G.2.2.1 0)), (1, .int (pI x1)), (2, .int (pI v16)), (3, .int (pI (w32 (x8.2 + (-1)))))]) X [2, 3, 1, 0] rfl <|
ok_some o ⟨r17, (w32_rg _)⟩) ⟨r7, kc_4⟩) kc_0 : At E s0 0 [(0, .ref (G.2.2.1 0))] [])
set_option maxHeartbeats 4000000 in
set_option maxRecDepth 100000 in
theorem ct_X12_forwardAt (p1 : Int) (hp1 : rg p1) (G : Gw) (s0 : St) (r : Int) (σ1 : St) (e : fX12_forwardAt p1 s0 = some (r, σ1)) : Ct yX12_forwardAt cX12_forwardAt 4 (some .int) 0 0 SM G [.ref (G.2.2.1 0), .int (pI p1)] s0 (QI SM G r rg σ1) :=
  Ct.of (by decide +kernel) (Nat.le_of_ble_eq_true rfl) fun E X Y => by
    have o : Ok (fX12_forwardAt p1 s0) (fun x σ' => x = r ∧ σ' = σ1) := ⟨r, σ1, e, rfl, rfl⟩
    unfold fX12_forwardAt at o
    exact (
z_iconst X dX12_forwardAt_0 <|
z_istore_n (L1 := [(2, .int (pI 0)), (0, .ref (G.2.2.1 0)), (1, .int (pI p1))]) X dX12_forwardAt_1 rfl (by decide) rfl <|
z_iconst X dX12_forwardAt_2 <|
z_istore_n (L1 := [(3, .int (pI 0)), (2, .int (pI 0)), (0, .ref (G.2.2.1 0)), (1, .int (pI p1))]) X dX12_forwardAt_3 rfl (by decide) rfl <|
z_join o (fun (y13 : Int) s14 => rg y13 → At E s14 39 [(2, .int (pI y13))] []) (fun y13 s14 o r15 =>
z_iload_n X 0 dX12_forwardAt_39 rfl <|
z_iret X Y dX12_forwardAt_40 o r15) fun o =>
z_sub (L1 := [(0, .ref (G.2.2.1 0)), (1, .int (pI p1)), (2, .int (pI 0)), (3, .int (pI 0))]) X [2, 3, 1, 0] rfl <|
z_iter (fun (x1 : Int × Int) s2 => rg x1.1 ∧ rg x1.2 → At E s2 4 [(0, .ref (G.2.2.1 0)), (1, .int (pI p1)), (2, .int (pI x1.1)), (3, .int (pI x1.2))] []) o (fun x1 s2 o r3 =>
z_iload_n X 3 dX12_forwardAt_4 rfl <|
z_aload_n X 0 dX12_forwardAt_5 rfl <|
z_getI X dX12_forwardAt_6 fl_X12_487 sm_0 rfl o fun v4 r5 o =>
z_icmp_ge (tgt := 39) X dX12_forwardAt_9 (by decide) r3.2 r5 o (fun o =>
z_sub (L1 := [(2, .int (pI x1.1))]) X [2] rfl <|
ok_some o r3.1) fun o =>
z_iload_n X 1 dX12_forwardAt_12 rfl <|
z_aload_n X 0 dX12_forwardAt_13 rfl <|
z_getR (q := 29) X dX12_forwardAt_14 fl_X12_98 sm_0 rfl <|
z_iload_n X 3 dX12_forwardAt_17 rfl <|
z_iald X dX12_forwardAt_18 sm_29 r3.2 o fun v6 r7 o =>
z_irem X dX12_forwardAt_19 hp1 r7 o fun z8 o =>
z_aload_n X 0 dX12_forwardAt_20 rfl <|
z_getR (q := 30) X dX12_forwardAt_21 fl_X12_101 sm_0 rfl <|
z_iload_n X 3 dX12_forwardAt_24 rfl <|
z_iald X dX12_forwardAt_25 sm_30 r3.2 o fun v9 r10 o =>
z_icmp_ne (tgt := 33) X dX12_forwardAt_26 (by decide) (irm_rg r7 z8) r10 o (fun o =>
z_iinc (L1 := [(3, .int (pI (w32 (x1.2 + 1)))), (0, .ref (G.2.2.1 0)), (1, .int (pI p1)), (2, .int (pI x1.1))]) X 3 dX12_forwardAt_33 rfl (by decide) rfl <|
z_goto (tgt := 4) X dX12_forwardAt_36 (by decide) <|
z_sub (L1 := [(0, .ref (G.2.2.1 0)), (1, .int (pI p1)), (2, .int (pI x1.1)), (3, .int (pI (w32 (x1.2 + 1))))]) X [1, 2, 3, 0] rfl <|
ok_some o ⟨r3.1, (w32_rg _)⟩) fun o =>
z_iload_n X 2 dX12_forwardAt_29 rfl <|
z_iconst X dX12_forwardAt_30 <|
z_iadd X dX12_forwardAt_31 <|
z_istoreL_n (L1 := fun v11 => [(2, .int (pI v11)), (0, .ref (G.2.2.1 0)), (1, .int (pI p1)), (3, .int (pI x1.2))]) (R := rg) X dX12_forwardAt_32 rfl (by decide) (fun _ => rfl) o (w32_rg _) fun v11 r12 o =>
z_iinc (L1 := [(3, .int (pI (w32 (x1.2 + 1)))), (2, .int (pI v11)), (0, .ref (G.2.2.1 0)), (1, .int (pI p1))]) X 3 dX12_forwardAt_33 rfl (by decide) rfl <|
z_goto (tgt := 4) X dX12_forwardAt_36 (by decide) <|
z_sub (L1 := [(0, .ref (G.2.2.1 0)), (1, .int (pI p1)), (2, .int (pI v11)), (3, .int (pI (w32 (x1.2 + 1))))]) X [2, 3, 1, 0] rfl <|
ok_some o ⟨r12, (w32_rg _)⟩) ⟨kc_0, kc_0⟩ : At E s0 0 [(0, .ref (G.2.2.1 0)), (1, .int (pI p1))] [])
set_option maxHeartbeats 4000000 in
set_option maxRecDepth 100000 in
theorem ct_X12_goodTaking (p1 : Int) (p2 : Int) (hp1 : rg p1) (hp2 : rg p2) (G : Gw) (s0 : St) (r : Int) (σ1 : St) (e : fX12_goodTaking p1 p2 s0 = some (r, σ1)) : Ct yX12_goodTaking cX12_goodTaking 5 (some .int) 1 22 SM G [.ref (G.2.2.1 0), .int (pI p1), .int (pI p2)] s0 (QI SM G r rg σ1) :=
  Ct.of (by decide +kernel) (Nat.le_of_ble_eq_true rfl) fun E X Y => by
    have o : Ok (fX12_goodTaking p1 p2 s0) (fun x σ' => x = r ∧ σ' = σ1) := ⟨r, σ1, e, rfl, rfl⟩
    unfold fX12_goodTaking at o
    exact (
z_iload_n X 2 dX12_goodTaking_0 rfl <|
z_istore_n (L1 := [(3, .int (pI p2)), (0, .ref (G.2.2.1 0)), (1, .int (pI p1)), (2, .int (pI p2))]) X dX12_goodTaking_1 rfl (by decide) rfl <|
z_joix o (fun (y16 : Int) s17 => rg y16 → At E s17 44 [(3, .int (pI y16))] []) (fun y16 s17 o r18 =>
z_iload_n X 0 dX12_goodTaking_44 rfl <|
z_iret X Y dX12_goodTaking_45 o r18) fun o =>
z_sub (L1 := [(0, .ref (G.2.2.1 0)), (1, .int (pI p1)), (2, .int (pI p2)), (3, .int (pI p2))]) X [1, 2, 3, 0] rfl <|
z_iter (fun (x1 : Int) s2 => rg x1 → At E s2 2 [(0, .ref (G.2.2.1 0)), (1, .int (pI p1)), (2, .int (pI p2)), (3, .int (pI x1))] []) o (fun x1 s2 o r3 =>
z_iload_n X 3 dX12_goodTaking_2 rfl <|
z_iload_n X 1 dX12_goodTaking_3 rfl <|
z_icmp_gt (tgt := 53) X dX12_goodTaking_4 (by decide) r3 hp1 o (fun o =>
z_iconst X dX12_goodTaking_53 <|
z_iret X Y dX12_goodTaking_54 (ok_ret (ok_some o)) kc_m1) fun o =>
z_iload_n X 1 dX12_goodTaking_7 rfl <|
z_iload_n X 3 dX12_goodTaking_8 rfl <|
z_isub X dX12_goodTaking_9 <|
z_istoreL (L1 := fun v4 => [(4, .int (pI v4)), (0, .ref (G.2.2.1 0)), (1, .int (pI p1)), (2, .int (pI p2)), (3, .int (pI x1))]) (R := rg) X dX12_goodTaking_10 (by decide) (fun _ => rfl) o (w32_rg _) fun v4 r5 o =>
z_iload X 0 dX12_goodTaking_12 rfl <|
z_if_eq (tgt := 44) X dX12_goodTaking_14 (by decide) r5 o (fun o =>
z_sub (L1 := [(3, .int (pI x1))]) X [4] rfl <|
ok_some o r3) fun o =>
z_aload_n X 1 dX12_goodTaking_17 rfl <|
z_getR (q := 55) X dX12_goodTaking_18 fl_X12_177 sm_0 rfl <|
z_sipush X dX12_goodTaking_21 si_201 <|
z_aload_n X 1 dX12_goodTaking_24 rfl <|
z_iload X 0 dX12_goodTaking_25 rfl <|
z_iload_n X 3 dX12_goodTaking_27 rfl <|
z_callvI X dX12_goodTaking_28 q_2205 wX12_greater sm_0 rfl (by decide) [.int (pI v4), .int (pI p2)] [.int (pI 201), .ref (G.2.2.1 55)] rfl rfl (Nat.le_of_ble_eq_true rfl) (fun r σ1 e => ct_X12_greater v4 p2 r5 hp2 G _ r σ1 e) o fun r6 s7 h8 o =>
z_imul X dX12_goodTaking_31 <|
z_aload_n X 1 dX12_goodTaking_32 rfl <|
z_iload X 0 dX12_goodTaking_33 rfl <|
z_iload_n X 3 dX12_goodTaking_35 rfl <|
z_callvI X dX12_goodTaking_36 q_2120 wX12_lesser sm_0 rfl (by decide) [.int (pI v4), .int (pI p2)] [.int (pI (w32 (201 * r6))), .ref (G.2.2.1 55)] rfl rfl (Nat.le_of_ble_eq_true rfl) (fun r σ1 e => ct_X12_lesser v4 p2 r5 hp2 G _ r σ1 e) o fun r9 s10 h11 o =>
z_iadd X dX12_goodTaking_39 <|
z_iald X dX12_goodTaking_40 sm_55 (w32_rg _) o fun v12 r13 o =>
z_if_ne (tgt := 46) X dX12_goodTaking_41 (by decide) r13 o (fun o =>
z_iload_n X 4 dX12_goodTaking_46 rfl <|
z_iload_n X 3 dX12_goodTaking_47 rfl <|
z_iadd X dX12_goodTaking_48 <|
z_istoreL_n (L1 := fun v14 => [(3, .int (pI v14)), (4, .int (pI v4)), (0, .ref (G.2.2.1 0)), (1, .int (pI p1)), (2, .int (pI p2))]) (R := rg) X dX12_goodTaking_49 rfl (by decide) (fun _ => rfl) o (w32_rg _) fun v14 r15 o =>
z_goto (tgt := 2) X dX12_goodTaking_50 (by decide) <|
z_sub (L1 := [(0, .ref (G.2.2.1 0)), (1, .int (pI p1)), (2, .int (pI p2)), (3, .int (pI v14))]) X [2, 3, 4, 0] rfl <|
ok_some o r15) fun o =>
z_sub (L1 := [(3, .int (pI x1))]) X [4] rfl <|
ok_some o r3) hp2 : At E s0 0 [(0, .ref (G.2.2.1 0)), (1, .int (pI p1)), (2, .int (pI p2))] [])
set_option maxHeartbeats 4000000 in
set_option maxRecDepth 100000 in
theorem ct_X12_game (p1 : Int) (p2 : Int) (hp1 : rg p1) (hp2 : rg p2) (G : Gw) (s0 : St) (r : Int) (σ1 : St) (e : fX12_game p1 p2 s0 = some (r, σ1)) : Ct yX12_game cX12_game 6 (some .int) 2 46 SM G [.ref (G.2.2.1 0), .int (pI p1), .int (pI p2)] s0 (QI SM G r rg σ1) :=
  Ct.of (by decide +kernel) (Nat.le_of_ble_eq_true rfl) fun E X Y => by
    have o : Ok (fX12_game p1 p2 s0) (fun x σ' => x = r ∧ σ' = σ1) := ⟨r, σ1, e, rfl, rfl⟩
    unfold fX12_game at o
    exact (
z_aload_n X 0 dX12_game_0 rfl <|
z_iconst X dX12_game_1 <|
z_putI X dX12_game_2 fl_X12_183 sm_0 ft_X12_0 rfl kc_0 o fun s1 o =>
z_aload_n X 0 dX12_game_5 rfl <|
z_iload_n X 1 dX12_game_6 rfl <|
z_iconst X dX12_game_7 <|
z_sipush X dX12_game_8 si_200 <|
z_callvI X dX12_game_11 q_1822 wX12_isIn sm_0 rfl (by decide) [.int (pI p1), .int (pI 1), .int (pI 200)] [] rfl rfl (Nat.le_of_ble_eq_true rfl) (fun r σ1 e => ct_X12_isIn p1 1 200 hp1 kc_1 kc_200 G _ r σ1 e) o fun r2 s3 h4 o =>
z_if_eq (tgt := 29) X dX12_game_14 (by decide) (r01_rg h4) o (fun o =>
z_iconst X dX12_game_29 <|
z_iret X Y dX12_game_30 o kc_m1) fun o =>
z_aload_n X 0 dX12_game_17 rfl <|
z_iload_n X 2 dX12_game_18 rfl <|
z_iconst X dX12_game_19 <|
z_sipush X dX12_game_20 si_200 <|
z_callvI X dX12_game_23 q_1822 wX12_isIn sm_0 rfl (by decide) [.int (pI p2), .int (pI 1), .int (pI 200)] [] rfl rfl (Nat.le_of_ble_eq_true rfl) (fun r σ1 e => ct_X12_isIn p2 1 200 hp2 kc_1 kc_200 G _ r σ1 e) o fun r5 s6 h7 o =>
z_if_ne (tgt := 31) X dX12_game_26 (by decide) (r01_rg h7) o (fun o =>
z_aload_n X 0 dX12_game_31 rfl <|
z_iload_n X 1 dX12_game_32 rfl <|
z_iload_n X 2 dX12_game_33 rfl <|
z_callvI X dX12_game_34 q_2205 wX12_greater sm_0 rfl (by decide) [.int (pI p1), .int (pI p2)] [] rfl rfl (Nat.le_of_ble_eq_true rfl) (fun r σ1 e => ct_X12_greater p1 p2 hp1 hp2 G _ r σ1 e) o fun r8 s9 h10 o =>
z_istore_n (L1 := [(3, .int (pI r8)), (0, .ref (G.2.2.1 0)), (1, .int (pI p1)), (2, .int (pI p2))]) X dX12_game_37 rfl (by decide) rfl <|
z_iconst X dX12_game_38 <|
z_istore (L1 := [(4, .int (pI 1)), (3, .int (pI r8)), (0, .ref (G.2.2.1 0)), (1, .int (pI p1)), (2, .int (pI p2))]) X dX12_game_39 (by decide) rfl <|
z_join o (fun (y25 : Unit) s26 => True → At E s26 100 [(0, .ref (G.2.2.1 0)), (1, .int (pI p1)), (2, .int (pI p2)), (3, .int (pI r8))] []) (fun y25 s26 o r27 =>
z_aload_n X 0 dX12_game_100 rfl <|
z_iload_n X 3 dX12_game_101 rfl <|
z_aload_n X 0 dX12_game_102 rfl <|
z_iload_n X 1 dX12_game_103 rfl <|
z_iload_n X 2 dX12_game_104 rfl <|
z_callvI X dX12_game_105 q_2120 wX12_lesser sm_0 rfl (by decide) [.int (pI p1), .int (pI p2)] [.int (pI r8), .ref (G.2.2.1 0)] rfl rfl (Nat.le_of_ble_eq_true rfl) (fun r σ1 e => ct_X12_lesser p1 p2 hp1 hp2 G _ r σ1 e) o fun r28 s29 h30 o =>
z_callvI X dX12_game_108 q_2343 wX12_goodTaking sm_0 rfl (by decide) [.int (pI r8), .int (pI r28)] [] rfl rfl (Nat.le_of_ble_eq_true rfl) (fun r σ1 e => ct_X12_goodTaking r8 r28 h10 h30 G _ r σ1 e) o fun r31 s32 h33 o =>
z_iret X Y dX12_game_111 o h33) fun o =>
z_sub (L1 := [(0, .ref (G.2.2.1 0)), (1, .int (pI p1)), (2, .int (pI p2)), (3, .int (pI r8)), (4, .int (pI 1))]) X [2, 3, 4, 1, 0] rfl <|
z_iter (fun (x11 : Int) s12 => rg x11 → At E s12 41 [(0, .ref (G.2.2.1 0)), (1, .int (pI p1)), (2, .int (pI p2)), (3, .int (pI r8)), (4, .int (pI x11))] []) o (fun x11 s12 o r13 =>
z_iload X 4 dX12_game_41 rfl <|
z_iload_n X 3 dX12_game_43 rfl <|
z_icmp_gt (tgt := 100) X dX12_game_44 (by decide) r13 h10 o (fun o =>
z_sub (L1 := [(0, .ref (G.2.2.1 0)), (1, .int (pI p1)), (2, .int (pI p2)), (3, .int (pI r8))]) X [0, 1, 2, 3] rfl <|
ok_some o trivial) fun o =>
z_iconst X dX12_game_47 <|
z_istore (L1 := [(5, .int (pI 1)), (0, .ref (G.2.2.1 0)), (1, .int (pI p1)), (2, .int (pI p2)), (3, .int (pI r8)), (4, .int (pI x11))]) X dX12_game_48 (by decide) rfl <|
z_join o (fun (y22 : Unit) s23 => True → At E s23 94 [(0, .ref (G.2.2.1 0)), (1, .int (pI p1)), (2, .int (pI p2)), (3, .int (pI r8)), (4, .int (pI x11))] []) (fun y22 s23 o r24 =>
z_iinc (L1 := [(4, .int (pI (w32 (x11 + 1)))), (0, .ref (G.2.2.1 0)), (1, .int (pI p1)), (2, .int (pI p2)), (3, .int (pI r8))]) X 4 dX12_game_94 rfl (by decide) rfl <|
z_goto (tgt := 41) X dX12_game_97 (by decide) <|
z_sub (L1 := [(0, .ref (G.2.2.1 0)), (1, .int (pI p1)), (2, .int (pI p2)), (3, .int (pI r8)), (4, .int (pI (w32 (x11 + 1))))]) X [1, 2, 3, 4, 0] rfl <|
ok_some o (w32_rg _)) fun o =>
z_sub (L1 := [(0, .ref (G.2.2.1 0)), (1, .int (pI p1)), (2, .int (pI p2)), (3, .int (pI r8)), (4, .int (pI x11)), (5, .int (pI 1))]) X [1, 2, 3, 4, 5, 0] rfl <|
z_iter (fun (x14 : Int) s15 => rg x14 → At E s15 50 [(0, .ref (G.2.2.1 0)), (1, .int (pI p1)), (2, .int (pI p2)), (3, .int (pI r8)), (4, .int (pI x11)), (5, .int (pI x14))] []) o (fun x14 s15 o r16 =>
z_iload X 5 dX12_game_50 rfl <|
z_iload X 4 dX12_game_52 rfl <|
z_icmp_gt (tgt := 94) X dX12_game_54 (by decide) r16 r13 o (fun o =>
z_sub (L1 := [(0, .ref (G.2.2.1 0)), (1, .int (pI p1)), (2, .int (pI p2)), (3, .int (pI r8)), (4, .int (pI x11))]) X [0, 1, 2, 3, 4] rfl <|
ok_some o trivial) fun o =>
z_aload_n X 0 dX12_game_57 rfl <|
z_getR (q := 55) X dX12_game_58 fl_X12_177 sm_0 rfl <|
z_sipush X dX12_game_61 si_201 <|
z_iload X 4 dX12_game_64 rfl <|
z_imul X dX12_game_66 <|
z_iload X 5 dX12_game_67 rfl <|
z_iadd X dX12_game_69 <|
z_aload_n X 0 dX12_game_70 rfl <|
z_iload X 4 dX12_game_71 rfl <|
z_iload X 5 dX12_game_73 rfl <|
z_callvI X dX12_game_75 q_2343 wX12_goodTaking sm_0 rfl (by decide) [.int (pI x11), .int (pI x14)] [.int (pI (w32 (w32 (201 * x11) + x14))), .ref (G.2.2.1 55)] rfl rfl (Nat.le_of_ble_eq_true rfl) (fun r σ1 e => ct_X12_goodTaking x11 x14 r13 r16 G _ r σ1 e) o fun r17 s18 h19 o =>
z_iconst X dX12_game_78 <|
z_icmp_ne (tgt := 86) X dX12_game_79 (by decide) h19 kc_m1 o (fun o =>
z_iconst X dX12_game_86 <|
z_iast X dX12_game_87 sm_55 (w32_rg _) kc_1 o fun s20 o =>
z_iinc (L1 := [(5, .int (pI (w32 (x14 + 1)))), (0, .ref (G.2.2.1 0)), (1, .int (pI p1)), (2, .int (pI p2)), (3, .int (pI r8)), (4, .int (pI x11))]) X 5 dX12_game_88 rfl (by decide) rfl <|
z_goto (tgt := 50) X dX12_game_91 (by decide) <|
z_sub (L1 := [(0, .ref (G.2.2.1 0)), (1, .int (pI p1)), (2, .int (pI p2)), (3, .int (pI r8)), (4, .int (pI x11)), (5, .int (pI (w32 (x14 + 1))))]) X [1, 2, 3, 4, 5, 0] rfl <|
ok_some o (w32_rg _)) fun o =>
z_iconst X dX12_game_82 <|
z_goto (tgt := 87) X dX12_game_83 (by decide) <|
z_iast X dX12_game_87 sm_55 (w32_rg _) kc_0 o fun s21 o =>
z_iinc (L1 := [(5, .int (pI (w32 (x14 + 1)))), (0, .ref (G.2.2.1 0)), (1, .int (pI p1)), (2, .int (pI p2)), (3, .int (pI r8)), (4, .int (pI x11))]) X 5 dX12_game_88 rfl (by decide) rfl <|
z_goto (tgt := 50) X dX12_game_91 (by decide) <|
z_sub (L1 := [(0, .ref (G.2.2.1 0)), (1, .int (pI p1)), (2, .int (pI p2)), (3, .int (pI r8)), (4, .int (pI x11)), (5, .int (pI (w32 (x14 + 1))))]) X [1, 2, 3, 4, 5, 0] rfl <|
ok_some o (w32_rg _)) kc_1) kc_1) fun o =>
z_iconst X dX12_game_29 <|
z_iret X Y dX12_game_30 o kc_m1 : At E s0 0 [(0, .ref (G.2.2.1 0)), (1, .int (pI p1)), (2, .int (pI p2))] [])
set_option maxHeartbeats 4000000 in
set_option maxRecDepth 100000 in
theorem ct_X12_thinks   (G : Gw) (s0 : St) (r : Int) (σ1 : St) (e : fX12_thinks s0 = some (r, σ1)) : Ct yX12_thinks cX12_thinks 2 none 0 0 SM G [.ref (G.2.2.1 0)] s0 (QV SM G σ1) :=
  Ct.of (by decide +kernel) (Nat.le_of_ble_eq_true rfl) fun E X Y => by
    have o : Ok (fX12_thinks s0) (fun x σ' => x = r ∧ σ' = σ1) := ⟨r, σ1, e, rfl, rfl⟩
    unfold fX12_thinks at o
    exact (
z_iconst X dX12_thinks_0 <|
z_istore_n (L1 := [(1, .int (pI 0)), (0, .ref (G.2.2.1 0))]) X dX12_thinks_1 rfl (by decide) rfl <|
z_join o (fun (y7 : Unit) s8 => True → At E s8 27 [(0, .ref (G.2.2.1 0))] []) (fun y7 s8 o r9 =>
z_aload_n X 0 dX12_thinks_27 rfl <|
z_iconst X dX12_thinks_28 <|
z_putZ X dX12_thinks_29 fl_X12_190 sm_0 ft_X12_5 rfl kb_1 o fun s10 o =>
z_vret (v := 0) X Y dX12_thinks_32 o) fun o =>
z_sub (L1 := [(0, .ref (G.2.2.1 0)), (1, .int (pI 0))]) X [1, 0] rfl <|
z_iter (fun (x1 : Int) s2 => rg x1 → At E s2 2 [(0, .ref (G.2.2.1 0)), (1, .int (pI x1))] []) o (fun x1 s2 o r3 =>
z_iload_n X 1 dX12_thinks_2 rfl <|
z_sipush X dX12_thinks_3 si_161 <|
z_icmp_ge (tgt := 27) X dX12_thinks_6 (by decide) r3 kc_161 o (fun o =>
z_sub (L1 := [(0, .ref (G.2.2.1 0))]) X [0] rfl <|
ok_some o trivial) fun o =>
z_aload_n X 0 dX12_thinks_9 rfl <|
z_getR (q := 3) X dX12_thinks_10 fl_X12_16 sm_0 rfl <|
z_iload_n X 1 dX12_thinks_13 rfl <|
z_aload_n X 0 dX12_thinks_14 rfl <|
z_getR (q := 1) X dX12_thinks_15 fl_X12_7 sm_0 rfl <|
z_iload_n X 1 dX12_thinks_18 rfl <|
z_iald X dX12_thinks_19 sm_1 r3 o fun v4 r5 o =>
z_iast X dX12_thinks_20 sm_3 r3 r5 o fun s6 o =>
z_iinc (L1 := [(1, .int (pI (w32 (x1 + 1)))), (0, .ref (G.2.2.1 0))]) X 1 dX12_thinks_21 rfl (by decide) rfl <|
z_goto (tgt := 2) X dX12_thinks_24 (by decide) <|
z_sub (L1 := [(0, .ref (G.2.2.1 0)), (1, .int (pI (w32 (x1 + 1))))]) X [1, 0] rfl <|
ok_some o (w32_rg _)) kc_0 : At E s0 0 [(0, .ref (G.2.2.1 0))] [])
set_option maxHeartbeats 4000000 in
set_option maxRecDepth 100000 in
theorem ct_X12_twoOf (p1 : Int) (p2 : Int) (p3 : Int) (hp1 : rg p1) (hp2 : rg p2) (hp3 : rg p3) (G : Gw) (s0 : St) (r : Int) (σ1 : St) (e : fX12_twoOf p1 p2 p3 s0 = some (r, σ1)) : Ct yX12_twoOf cX12_twoOf 4 (some .int) 0 0 SM G [.ref (G.2.2.1 0), .int (pI p1), .int (pI p2), .int (pI p3)] s0 (QI SM G r rg σ1) :=
  Ct.of (by decide +kernel) (Nat.le_of_ble_eq_true rfl) fun E X Y => by
    have o : Ok (fX12_twoOf p1 p2 p3 s0) (fun x σ' => x = r ∧ σ' = σ1) := ⟨r, σ1, e, rfl, rfl⟩
    unfold fX12_twoOf at o
    exact (
z_iload_n X 1 dX12_twoOf_0 rfl <|
z_iconst X dX12_twoOf_1 <|
z_icmp_ne (tgt := 9) X dX12_twoOf_2 (by decide) hp1 kc_2 o (fun o =>
z_iload_n X 1 dX12_twoOf_9 rfl <|
z_iconst X dX12_twoOf_10 <|
z_icmp_ne (tgt := 18) X dX12_twoOf_11 (by decide) hp1 kc_3 o (fun o =>
z_iload_n X 1 dX12_twoOf_18 rfl <|
z_iconst X dX12_twoOf_19 <|
z_icmp_ne (tgt := 27) X dX12_twoOf_20 (by decide) hp1 kc_4 o (fun o =>
z_iload_n X 1 dX12_twoOf_27 rfl <|
z_iconst X dX12_twoOf_28 <|
z_icmp_ne (tgt := 36) X dX12_twoOf_29 (by decide) hp1 kc_5 o (fun o =>
z_iload_n X 1 dX12_twoOf_36 rfl <|
z_bipush X dX12_twoOf_37 bi_6 <|
z_icmp_ne (tgt := 53) X dX12_twoOf_39 (by decide) hp1 kc_6 o (fun o =>
z_iload_n X 1 dX12_twoOf_53 rfl <|
z_bipush X dX12_twoOf_54 bi_7 <|
z_icmp_ne (tgt := 70) X dX12_twoOf_56 (by decide) hp1 kc_7 o (fun o =>
z_iload_n X 1 dX12_twoOf_70 rfl <|
z_bipush X dX12_twoOf_71 bi_8 <|
z_icmp_ne (tgt := 87) X dX12_twoOf_73 (by decide) hp1 kc_8 o (fun o =>
z_iload_n X 1 dX12_twoOf_87 rfl <|
z_bipush X dX12_twoOf_88 bi_10 <|
z_icmp_ne (tgt := 99) X dX12_twoOf_90 (by decide) hp1 kc_10 o (fun o =>
z_iload_n X 2 dX12_twoOf_99 rfl <|
z_iload_n X 3 dX12_twoOf_100 rfl <|
z_iadd X dX12_twoOf_101 <|
z_if_le (tgt := 109) X dX12_twoOf_102 (by decide) (w32_rg _) o (fun o =>
z_iconst X dX12_twoOf_109 <|
z_iret X Y dX12_twoOf_110 o kc_0) fun o =>
z_iconst X dX12_twoOf_105 <|
z_goto (tgt := 110) X dX12_twoOf_106 (by decide) <|
z_iret X Y dX12_twoOf_110 o kc_1) fun o =>
z_iload_n X 2 dX12_twoOf_93 rfl <|
z_iload_n X 3 dX12_twoOf_94 rfl <|
z_imul X dX12_twoOf_95 <|
z_goto (tgt := 110) X dX12_twoOf_96 (by decide) <|
z_iret X Y dX12_twoOf_110 o (w32_rg _)) fun o =>
z_iload_n X 2 dX12_twoOf_76 rfl <|
z_iload_n X 3 dX12_twoOf_77 rfl <|
z_icmp_le (tgt := 85) X dX12_twoOf_78 (by decide) hp2 hp3 o (fun o =>
z_iconst X dX12_twoOf_85 <|
z_iret X Y dX12_twoOf_86 o kc_0) fun o =>
z_iconst X dX12_twoOf_81 <|
z_goto (tgt := 86) X dX12_twoOf_82 (by decide) <|
z_iret X Y dX12_twoOf_86 o kc_1) fun o =>
z_iload_n X 2 dX12_twoOf_59 rfl <|
z_iload_n X 3 dX12_twoOf_60 rfl <|
z_icmp_ne (tgt := 68) X dX12_twoOf_61 (by decide) hp2 hp3 o (fun o =>
z_iconst X dX12_twoOf_68 <|
z_iret X Y dX12_twoOf_69 o kc_0) fun o =>
z_iconst X dX12_twoOf_64 <|
z_goto (tgt := 69) X dX12_twoOf_65 (by decide) <|
z_iret X Y dX12_twoOf_69 o kc_1) fun o =>
z_iload_n X 2 dX12_twoOf_42 rfl <|
z_iload_n X 3 dX12_twoOf_43 rfl <|
z_icmp_ge (tgt := 51) X dX12_twoOf_44 (by decide) hp2 hp3 o (fun o =>
z_iconst X dX12_twoOf_51 <|
z_iret X Y dX12_twoOf_52 o kc_0) fun o =>
z_iconst X dX12_twoOf_47 <|
z_goto (tgt := 52) X dX12_twoOf_48 (by decide) <|
z_iret X Y dX12_twoOf_52 o kc_1) fun o =>
z_iload_n X 2 dX12_twoOf_32 rfl <|
z_iload_n X 3 dX12_twoOf_33 rfl <|
z_idiv X dX12_twoOf_34 hp2 hp3 o fun z1 o =>
z_iret X Y dX12_twoOf_35 o (w32_rg _)) fun o =>
z_iload_n X 2 dX12_twoOf_23 rfl <|
z_iload_n X 3 dX12_twoOf_24 rfl <|
z_imul X dX12_twoOf_25 <|
z_iret X Y dX12_twoOf_26 o (w32_rg _)) fun o =>
z_iload_n X 2 dX12_twoOf_14 rfl <|
z_iload_n X 3 dX12_twoOf_15 rfl <|
z_isub X dX12_twoOf_16 <|
z_iret X Y dX12_twoOf_17 o (w32_rg _)) fun o =>
z_iload_n X 2 dX12_twoOf_5 rfl <|
z_iload_n X 3 dX12_twoOf_6 rfl <|
z_iadd X dX12_twoOf_7 <|
z_iret X Y dX12_twoOf_8 o (w32_rg _) : At E s0 0 [(0, .ref (G.2.2.1 0)), (1, .int (pI p1)), (2, .int (pI p2)), (3, .int (pI p3))] [])
set_option maxHeartbeats 4000000 in
set_option maxRecDepth 100000 in
theorem ct_X12_runs (p1 : Int) (p2 : Int) (p3 : Int) (hp1 : rg p1) (hp2 : rg p2) (hp3 : rg p3) (G : Gw) (s0 : St) (r : Int) (σ1 : St) (e : fX12_runs p1 p2 p3 s0 = some (r, σ1)) : Ct yX12_runs cX12_runs 6 (some .int) 1 23 SM G [.ref (G.2.2.1 0), .int (pI p1), .int (pI p2), .int (pI p3)] s0 (QI SM G r rg σ1) :=
  Ct.of (by decide +kernel) (Nat.le_of_ble_eq_true rfl) fun E X Y => by
    have o : Ok (fX12_runs p1 p2 p3 s0) (fun x σ' => x = r ∧ σ' = σ1) := ⟨r, σ1, e, rfl, rfl⟩
    unfold fX12_runs at o
    exact (
z_iconst X dX12_runs_0 <|
z_istore (L1 := [(4, .int (pI 0)), (0, .ref (G.2.2.1 0)), (1, .int (pI p1)), (2, .int (pI p2)), (3, .int (pI p3))]) X dX12_runs_1 (by decide) rfl <|
z_sipush X dX12_runs_3 si_400 <|
z_iload_n X 2 dX12_runs_6 rfl <|
z_imul X dX12_runs_7 <|
z_iload_n X 3 dX12_runs_8 rfl <|
z_iadd X dX12_runs_9 <|
z_istoreL (L1 := fun v1 => [(5, .int (pI v1)), (4, .int (pI 0)), (0, .ref (G.2.2.1 0)), (1, .int (pI p1)), (2, .int (pI p2)), (3, .int (pI p3))]) (R := rg) X dX12_runs_10 (by decide) (fun _ => rfl) o (w32_rg _) fun v1 r2 o =>
z_join o (fun (y44 : Unit) s45 => True → At E s45 176 [(0, .ref (G.2.2.1 0))] []) (fun y44 s45 o r46 =>
z_aload_n X 0 dX12_runs_176 rfl <|
z_getR (q := 22) X dX12_runs_177 fl_X12_77 sm_0 rfl <|
z_iconst X dX12_runs_180 <|
z_iald X dX12_runs_181 sm_22 kc_0 o fun v47 r48 o =>
z_iret X Y dX12_runs_182 o r48) fun o =>
z_sub (L1 := [(0, .ref (G.2.2.1 0)), (1, .int (pI p1)), (3, .int (pI p3)), (4, .int (pI 0)), (5, .int (pI v1))]) X [2, 3, 5, 1, 0] rfl <|
z_iter (fun (x3 : Int × Int) s4 => rg x3.1 ∧ rg x3.2 → At E s4 12 [(0, .ref (G.2.2.1 0)), (1, .int (pI p1)), (3, .int (pI p3)), (4, .int (pI x3.1)), (5, .int (pI x3.2))] []) o (fun x3 s4 o r5 =>
z_iload X 4 dX12_runs_12 rfl <|
z_sipush X dX12_runs_14 si_400 <|
z_iload_n X 1 dX12_runs_17 rfl <|
z_imul X dX12_runs_18 <|
z_iload_n X 2 dX12_runs_19 rfl <|
z_iadd X dX12_runs_20 <|
z_icmp_ge (tgt := 176) X dX12_runs_21 (by decide) r5.2 (w32_rg _) o (fun o =>
z_sub (L1 := [(0, .ref (G.2.2.1 0))]) X [0] rfl <|
ok_some o trivial) fun o =>
z_aload_n X 0 dX12_runs_24 rfl <|
z_getR (q := 15) X dX12_runs_25 fl_X12_52 sm_0 rfl <|
z_iload X 4 dX12_runs_28 rfl <|
z_iald X dX12_runs_30 sm_15 r5.2 o fun v6 r7 o =>
z_joix o (fun (y27 : Int × Int) s28 => rg y27.1 ∧ rg y27.2 → At E s28 45 [(0, .ref (G.2.2.1 0)), (1, .int (pI p1)), (3, .int (pI p3)), (4, .int (pI y27.1)), (5, .int (pI y27.2))] []) (fun y27 s28 o r29 =>
z_aload_n X 0 dX12_runs_45 rfl <|
z_getR (q := 22) X dX12_runs_46 fl_X12_77 sm_0 rfl <|
z_iload X 3 dX12_runs_49 rfl <|
z_aload_n X 0 dX12_runs_51 rfl <|
z_getR (q := 15) X dX12_runs_52 fl_X12_52 sm_0 rfl <|
z_iload X 4 dX12_runs_55 rfl <|
z_iald X dX12_runs_57 sm_15 r29.2 o fun v30 r31 o =>
z_if_ne (tgt := 71) X dX12_runs_58 (by decide) r31 o (fun o =>
z_aload_n X 0 dX12_runs_71 rfl <|
z_getR (q := 21) X dX12_runs_72 fl_X12_74 sm_0 rfl <|
z_aload_n X 0 dX12_runs_75 rfl <|
z_getR (q := 16) X dX12_runs_76 fl_X12_55 sm_0 rfl <|
z_iload X 4 dX12_runs_79 rfl <|
z_iald X dX12_runs_81 sm_16 r29.2 o fun v32 r33 o =>
z_iald X dX12_runs_82 sm_21 r33 o fun v34 r35 o =>
z_iast X dX12_runs_83 sm_22 r29.1 r35 o fun s36 o =>
z_iload X 3 dX12_runs_84 rfl <|
z_iconst X dX12_runs_86 <|
z_iadd X dX12_runs_87 <|
z_istoreL (L1 := fun v37 => [(4, .int (pI v37)), (0, .ref (G.2.2.1 0)), (1, .int (pI p1)), (3, .int (pI p3)), (5, .int (pI y27.2))]) (R := rg) X dX12_runs_88 (by decide) (fun _ => rfl) o (w32_rg _) fun v37 r38 o =>
z_goto (tgt := 170) X dX12_runs_90 (by decide) <|
z_iinc (L1 := [(5, .int (pI (w32 (y27.2 + 1)))), (4, .int (pI v37)), (0, .ref (G.2.2.1 0)), (1, .int (pI p1)), (3, .int (pI p3))]) X 4 dX12_runs_170 rfl (by decide) rfl <|
z_goto (tgt := 12) X dX12_runs_173 (by decide) <|
z_sub (L1 := [(0, .ref (G.2.2.1 0)), (1, .int (pI p1)), (3, .int (pI p3)), (4, .int (pI v37)), (5, .int (pI (w32 (y27.2 + 1))))]) X [2, 3, 4, 1, 0] rfl <|
ok_some o ⟨r38, (w32_rg _)⟩) fun o =>
z_aload_n X 0 dX12_runs_61 rfl <|
z_getR (q := 16) X dX12_runs_62 fl_X12_55 sm_0 rfl <|
z_iload X 4 dX12_runs_65 rfl <|
z_iald X dX12_runs_67 sm_16 r29.2 o fun v39 r40 o =>
z_goto (tgt := 83) X dX12_runs_68 (by decide) <|
z_iast X dX12_runs_83 sm_22 r29.1 r40 o fun s41 o =>
z_iload X 3 dX12_runs_84 rfl <|
z_iconst X dX12_runs_86 <|
z_iadd X dX12_runs_87 <|
z_istoreL (L1 := fun v42 => [(4, .int (pI v42)), (0, .ref (G.2.2.1 0)), (1, .int (pI p1)), (3, .int (pI p3)), (5, .int (pI y27.2))]) (R := rg) X dX12_runs_88 (by decide) (fun _ => rfl) o (w32_rg _) fun v42 r43 o =>
z_goto (tgt := 170) X dX12_runs_90 (by decide) <|
z_iinc (L1 := [(5, .int (pI (w32 (y27.2 + 1)))), (4, .int (pI v42)), (0, .ref (G.2.2.1 0)), (1, .int (pI p1)), (3, .int (pI p3))]) X 4 dX12_runs_170 rfl (by decide) rfl <|
z_goto (tgt := 12) X dX12_runs_173 (by decide) <|
z_sub (L1 := [(0, .ref (G.2.2.1 0)), (1, .int (pI p1)), (3, .int (pI p3)), (4, .int (pI v42)), (5, .int (pI (w32 (y27.2 + 1))))]) X [2, 3, 4, 1, 0] rfl <|
ok_some o ⟨r43, (w32_rg _)⟩) fun o =>
z_if_eq (tgt := 45) X dX12_runs_31 (by decide) r7 o (fun o =>
ok_some o ⟨r5.1, r5.2⟩) fun o =>
z_aload_n X 0 dX12_runs_34 rfl <|
z_getR (q := 15) X dX12_runs_35 fl_X12_52 sm_0 rfl <|
z_iload X 4 dX12_runs_38 rfl <|
z_iald X dX12_runs_40 sm_15 r5.2 o fun v8 r9 o =>
z_iconst X dX12_runs_41 <|
z_icmp_ne (tgt := 93) X dX12_runs_42 (by decide) r9 kc_1 o (fun o =>
z_aload_n X 0 dX12_runs_93 rfl <|
z_getR (q := 15) X dX12_runs_94 fl_X12_52 sm_0 rfl <|
z_iload X 4 dX12_runs_97 rfl <|
z_iald X dX12_runs_99 sm_15 r5.2 o fun v10 r11 o =>
z_bipush X dX12_runs_100 bi_9 <|
z_icmp_ne (tgt := 128) X dX12_runs_102 (by decide) r11 kc_9 o (fun o =>
z_iload X 3 dX12_runs_128 rfl <|
z_iconst X dX12_runs_130 <|
z_isub X dX12_runs_131 <|
z_istoreL (L1 := fun v12 => [(4, .int (pI v12)), (0, .ref (G.2.2.1 0)), (1, .int (pI p1)), (3, .int (pI p3)), (5, .int (pI x3.2))]) (R := rg) X dX12_runs_132 (by decide) (fun _ => rfl) o (w32_rg _) fun v12 r13 o =>
z_aload_n X 1 dX12_runs_134 rfl <|
z_getR (q := 22) X dX12_runs_135 fl_X12_77 sm_0 rfl <|
z_iload X 0 dX12_runs_138 rfl <|
z_iconst X dX12_runs_140 <|
z_isub X dX12_runs_141 <|
z_aload_n X 1 dX12_runs_142 rfl <|
z_aload_n X 1 dX12_runs_143 rfl <|
z_getR (q := 15) X dX12_runs_144 fl_X12_52 sm_0 rfl <|
z_iload X 4 dX12_runs_147 rfl <|
z_iald X dX12_runs_149 sm_15 r5.2 o fun v14 r15 o =>
z_aload_n X 1 dX12_runs_150 rfl <|
z_getR (q := 22) X dX12_runs_151 fl_X12_77 sm_0 rfl <|
z_iload X 0 dX12_runs_154 rfl <|
z_iconst X dX12_runs_156 <|
z_isub X dX12_runs_157 <|
z_iald X dX12_runs_158 sm_22 (w32_rg _) o fun v16 r17 o =>
z_aload_n X 1 dX12_runs_159 rfl <|
z_getR (q := 22) X dX12_runs_160 fl_X12_77 sm_0 rfl <|
z_iload X 0 dX12_runs_163 rfl <|
z_iald X dX12_runs_165 sm_22 r13 o fun v18 r19 o =>
z_callvI X dX12_runs_166 q_2082 wX12_twoOf sm_0 rfl (by decide) [.int (pI v14), .int (pI v16), .int (pI v18)] [.int (pI (w32 (v12 - 1))), .ref (G.2.2.1 22)] rfl rfl (Nat.le_of_ble_eq_true rfl) (fun r σ1 e => ct_X12_twoOf v14 v16 v18 r15 r17 r19 G _ r σ1 e) o fun r20 s21 h22 o =>
z_iast X dX12_runs_169 sm_22 (w32_rg _) h22 o fun s23 o =>
z_iinc (L1 := [(5, .int (pI (w32 (x3.2 + 1)))), (4, .int (pI v12)), (0, .ref (G.2.2.1 0)), (1, .int (pI p1)), (3, .int (pI p3))]) X 4 dX12_runs_170 rfl (by decide) rfl <|
z_goto (tgt := 12) X dX12_runs_173 (by decide) <|
z_sub (L1 := [(0, .ref (G.2.2.1 0)), (1, .int (pI p1)), (3, .int (pI p3)), (4, .int (pI v12)), (5, .int (pI (w32 (x3.2 + 1))))]) X [2, 3, 4, 1, 0] rfl <|
ok_some o ⟨r13, (w32_rg _)⟩) fun o =>
z_aload_n X 0 dX12_runs_105 rfl <|
z_getR (q := 22) X dX12_runs_106 fl_X12_77 sm_0 rfl <|
z_iload X 3 dX12_runs_109 rfl <|
z_iconst X dX12_runs_111 <|
z_isub X dX12_runs_112 <|
z_iconst X dX12_runs_113 <|
z_aload_n X 0 dX12_runs_114 rfl <|
z_getR (q := 22) X dX12_runs_115 fl_X12_77 sm_0 rfl <|
z_iload X 3 dX12_runs_118 rfl <|
z_iconst X dX12_runs_120 <|
z_isub X dX12_runs_121 <|
z_iald X dX12_runs_122 sm_22 (w32_rg _) o fun v24 r25 o =>
z_isub X dX12_runs_123 <|
z_iast X dX12_runs_124 sm_22 (w32_rg _) (w32_rg _) o fun s26 o =>
z_goto (tgt := 170) X dX12_runs_125 (by decide) <|
z_iinc (L1 := [(5, .int (pI (w32 (x3.2 + 1)))), (0, .ref (G.2.2.1 0)), (1, .int (pI p1)), (3, .int (pI p3)), (4, .int (pI x3.1))]) X 4 dX12_runs_170 rfl (by decide) rfl <|
z_goto (tgt := 12) X dX12_runs_173 (by decide) <|
z_sub (L1 := [(0, .ref (G.2.2.1 0)), (1, .int (pI p1)), (3, .int (pI p3)), (4, .int (pI x3.1)), (5, .int (pI (w32 (x3.2 + 1))))]) X [1, 2, 3, 4, 0] rfl <|
ok_some o ⟨r5.1, (w32_rg _)⟩) fun o =>
ok_some o ⟨r5.1, r5.2⟩) ⟨kc_0, r2⟩ : At E s0 0 [(0, .ref (G.2.2.1 0)), (1, .int (pI p1)), (2, .int (pI p2)), (3, .int (pI p3))] [])
set_option maxHeartbeats 4000000 in
set_option maxRecDepth 100000 in
theorem ct_X12_lineOf (p1 : Int) (hp1 : rg p1) (G : Gw) (s0 : St) (r : Int) (σ1 : St) (e : fX12_lineOf p1 s0 = some (r, σ1)) : Ct yX12_lineOf cX12_lineOf 3 (some .int) 2 48 SM G [.ref (G.2.2.1 0), .int (pI p1)] s0 (QI SM G r rg σ1) :=
  Ct.of (by decide +kernel) (Nat.le_of_ble_eq_true rfl) fun E X Y => by
    have o : Ok (fX12_lineOf p1 s0) (fun x σ' => x = r ∧ σ' = σ1) := ⟨r, σ1, e, rfl, rfl⟩
    unfold fX12_lineOf at o
    exact (
z_iconst X dX12_lineOf_0 <|
z_istore_n (L1 := [(2, .int (pI 0)), (0, .ref (G.2.2.1 0)), (1, .int (pI p1))]) X dX12_lineOf_1 rfl (by decide) rfl <|
z_joix o (fun (y19 : Int) s20 => rg y19 → At E s20 57 [(2, .int (pI y19))] []) (fun y19 s20 o r21 =>
z_iload_n X 0 dX12_lineOf_57 rfl <|
z_iret X Y dX12_lineOf_58 o r21) fun o =>
z_sub (L1 := [(0, .ref (G.2.2.1 0)), (1, .int (pI p1)), (2, .int (pI 0))]) X [1, 2, 0] rfl <|
z_iter (fun (x1 : Int) s2 => rg x1 → At E s2 2 [(0, .ref (G.2.2.1 0)), (1, .int (pI p1)), (2, .int (pI x1))] []) o (fun x1 s2 o r3 =>
z_iload_n X 2 dX12_lineOf_2 rfl <|
z_aload_n X 0 dX12_lineOf_3 rfl <|
z_getR (q := 10) X dX12_lineOf_4 fl_X12_37 sm_0 rfl <|
z_iconst X dX12_lineOf_7 <|
z_iald X dX12_lineOf_8 sm_10 kc_0 o fun v4 r5 o =>
z_icmp_ge (tgt := 65) X dX12_lineOf_9 (by decide) r3 r5 o (fun o =>
z_iconst X dX12_lineOf_65 <|
z_iret X Y dX12_lineOf_66 (ok_ret (ok_some o)) kc_m1) fun o =>
z_aload_n X 0 dX12_lineOf_12 rfl <|
z_getR (q := 11) X dX12_lineOf_13 fl_X12_40 sm_0 rfl <|
z_iload_n X 2 dX12_lineOf_16 rfl <|
z_iald X dX12_lineOf_17 sm_11 r3 o fun v6 r7 o =>
z_iload_n X 1 dX12_lineOf_18 rfl <|
z_icmp_ne (tgt := 59) X dX12_lineOf_19 (by decide) r7 hp1 o (fun o =>
z_iinc (L1 := [(2, .int (pI (w32 (x1 + 1)))), (0, .ref (G.2.2.1 0)), (1, .int (pI p1))]) X 2 dX12_lineOf_59 rfl (by decide) rfl <|
z_goto (tgt := 2) X dX12_lineOf_62 (by decide) <|
z_sub (L1 := [(0, .ref (G.2.2.1 0)), (1, .int (pI p1)), (2, .int (pI (w32 (x1 + 1))))]) X [1, 2, 0] rfl <|
ok_some o (w32_rg _)) fun o =>
z_aload_n X 0 dX12_lineOf_22 rfl <|
z_getR (q := 13) X dX12_lineOf_23 fl_X12_46 sm_0 rfl <|
z_iload_n X 2 dX12_lineOf_26 rfl <|
z_iald X dX12_lineOf_27 sm_13 r3 o fun v8 r9 o =>
z_aload_n X 0 dX12_lineOf_28 rfl <|
z_getR (q := 14) X dX12_lineOf_29 fl_X12_49 sm_0 rfl <|
z_iload_n X 2 dX12_lineOf_32 rfl <|
z_iald X dX12_lineOf_33 sm_14 r3 o fun v10 r11 o =>
z_icmp_eq (tgt := 57) X dX12_lineOf_34 (by decide) r9 r11 o (fun o =>
z_sub (L1 := [(2, .int (pI x1))]) X [2] rfl <|
ok_some o r3) fun o =>
z_aload_n X 0 dX12_lineOf_37 rfl <|
z_iconst X dX12_lineOf_38 <|
z_aload_n X 0 dX12_lineOf_39 rfl <|
z_getR (q := 13) X dX12_lineOf_40 fl_X12_46 sm_0 rfl <|
z_iload_n X 2 dX12_lineOf_43 rfl <|
z_iald X dX12_lineOf_44 sm_13 r3 o fun v12 r13 o =>
z_aload_n X 0 dX12_lineOf_45 rfl <|
z_getR (q := 14) X dX12_lineOf_46 fl_X12_49 sm_0 rfl <|
z_iload_n X 2 dX12_lineOf_49 rfl <|
z_iald X dX12_lineOf_50 sm_14 r3 o fun v14 r15 o =>
z_callvI X dX12_lineOf_51 q_2078 wX12_runs sm_0 rfl (by decide) [.int (pI 0), .int (pI v12), .int (pI v14)] [] rfl rfl (Nat.le_of_ble_eq_true rfl) (fun r σ1 e => ct_X12_runs 0 v12 v14 kc_0 r13 r15 G _ r σ1 e) o fun r16 s17 h18 o =>
z_if_eq (tgt := 59) X dX12_lineOf_54 (by decide) h18 o (fun o =>
z_iinc (L1 := [(2, .int (pI (w32 (x1 + 1)))), (0, .ref (G.2.2.1 0)), (1, .int (pI p1))]) X 2 dX12_lineOf_59 rfl (by decide) rfl <|
z_goto (tgt := 2) X dX12_lineOf_62 (by decide) <|
z_sub (L1 := [(0, .ref (G.2.2.1 0)), (1, .int (pI p1)), (2, .int (pI (w32 (x1 + 1))))]) X [1, 2, 0] rfl <|
ok_some o (w32_rg _)) fun o =>
z_sub (L1 := [(2, .int (pI x1))]) X [2] rfl <|
ok_some o r3) kc_0 : At E s0 0 [(0, .ref (G.2.2.1 0)), (1, .int (pI p1))] [])
set_option maxHeartbeats 4000000 in
set_option maxRecDepth 100000 in
theorem ct_X12_held (p1 : Int) (p2 : Int) (p3 : Int) (hp1 : rg p1) (hp2 : rg p2) (hp3 : rg p3) (G : Gw) (s0 : St) (r : Int) (σ1 : St) (e : fX12_held p1 p2 p3 s0 = some (r, σ1)) : Ct yX12_held cX12_held 4 (some .int) 0 0 SM G [.ref (G.2.2.1 0), .int (pI p1), .int (pI p2), .int (pI p3)] s0 (QI SM G r rg σ1) :=
  Ct.of (by decide +kernel) (Nat.le_of_ble_eq_true rfl) fun E X Y => by
    have o : Ok (fX12_held p1 p2 p3 s0) (fun x σ' => x = r ∧ σ' = σ1) := ⟨r, σ1, e, rfl, rfl⟩
    unfold fX12_held at o
    exact (
z_iload_n X 1 dX12_held_0 rfl <|
z_iload_n X 2 dX12_held_1 rfl <|
z_icmp_ge (tgt := 9) X dX12_held_2 (by decide) hp1 hp2 o (fun o =>
z_iload_n X 1 dX12_held_9 rfl <|
z_iload_n X 3 dX12_held_10 rfl <|
z_icmp_le (tgt := 18) X dX12_held_11 (by decide) hp1 hp3 o (fun o =>
z_iload_n X 1 dX12_held_18 rfl <|
z_iret X Y dX12_held_19 o hp1) fun o =>
z_iload_n X 3 dX12_held_14 rfl <|
z_goto (tgt := 19) X dX12_held_15 (by decide) <|
z_iret X Y dX12_held_19 o hp3) fun o =>
z_iload_n X 2 dX12_held_5 rfl <|
z_goto (tgt := 19) X dX12_held_6 (by decide) <|
z_iret X Y dX12_held_19 o hp2 : At E s0 0 [(0, .ref (G.2.2.1 0)), (1, .int (pI p1)), (2, .int (pI p2)), (3, .int (pI p3))] [])
set_option maxHeartbeats 4000000 in
set_option maxRecDepth 100000 in
theorem ct_X12_lawTells (p1 : Int) (p2 : Int) (p3 : Int) (hp1 : rg p1) (hp2 : rg p2) (hp3 : rg p3) (G : Gw) (s0 : St) (r : Int) (σ1 : St) (e : fX12_lawTells p1 p2 p3 s0 = some (r, σ1)) : Ct yX12_lawTells cX12_lawTells 5 (some .int) 3 70 SM G [.ref (G.2.2.1 0), .int (pI p1), .int (pI p2), .int (pI p3)] s0 (QI SM G r rg σ1) :=
  Ct.of (by decide +kernel) (Nat.le_of_ble_eq_true rfl) fun E X Y => by
    have o : Ok (fX12_lawTells p1 p2 p3 s0) (fun x σ' => x = r ∧ σ' = σ1) := ⟨r, σ1, e, rfl, rfl⟩
    unfold fX12_lawTells at o
    exact (
z_aload_n X 0 dX12_lawTells_0 rfl <|
z_iload_n X 1 dX12_lawTells_1 rfl <|
z_callvI X dX12_lawTells_2 q_2074 wX12_lineOf sm_0 rfl (by decide) [.int (pI p1)] [] rfl rfl (Nat.le_of_ble_eq_true rfl) (fun r σ1 e => ct_X12_lineOf p1 hp1 G _ r σ1 e) o fun r1 s2 h3 o =>
z_istore (L1 := [(4, .int (pI r1)), (0, .ref (G.2.2.1 0)), (1, .int (pI p1)), (2, .int (pI p2)), (3, .int (pI p3))]) X dX12_lawTells_5 (by decide) rfl <|
z_aload_n X 1 dX12_lawTells_7 rfl <|
z_iload X 0 dX12_lawTells_8 rfl <|
z_iconst X dX12_lawTells_10 <|
z_join o (fun (y11 : Int) s12 => rg y11 → At E s12 37 [(3, .int (pI p3))] [.int (pI y11), .ref (G.2.2.1 0)]) (fun y11 s12 o r13 =>
z_iconst X dX12_lawTells_37 <|
z_iload_n X 0 dX12_lawTells_38 rfl <|
z_callvI X dX12_lawTells_39 q_2086 wX12_held sm_0 rfl (by decide) [.int (pI y11), .int (pI 0), .int (pI p3)] [] rfl rfl (Nat.le_of_ble_eq_true rfl) (fun r σ1 e => ct_X12_held y11 0 p3 r13 kc_0 hp3 G _ r σ1 e) o fun r14 s15 h16 o =>
z_iret X Y dX12_lawTells_42 o h16) fun o =>
z_icmp_ne (tgt := 18) X dX12_lawTells_11 (by decide) h3 kc_m1 o (fun o =>
z_aload_n X 1 dX12_lawTells_18 rfl <|
z_iconst X dX12_lawTells_19 <|
z_aload_n X 1 dX12_lawTells_20 rfl <|
z_getR (q := 12) X dX12_lawTells_21 fl_X12_43 sm_0 rfl <|
z_iload X 0 dX12_lawTells_24 rfl <|
z_iald X dX12_lawTells_26 sm_12 h3 o fun v4 r5 o =>
z_aload_n X 1 dX12_lawTells_27 rfl <|
z_getR (q := 13) X dX12_lawTells_28 fl_X12_46 sm_0 rfl <|
z_iload X 0 dX12_lawTells_31 rfl <|
z_iald X dX12_lawTells_33 sm_13 h3 o fun v6 r7 o =>
z_callvI X dX12_lawTells_34 q_2078 wX12_runs sm_0 rfl (by decide) [.int (pI 0), .int (pI v4), .int (pI v6)] [.ref (G.2.2.1 0)] rfl rfl (Nat.le_of_ble_eq_true rfl) (fun r σ1 e => ct_X12_runs 0 v4 v6 kc_0 r5 r7 G _ r σ1 e) o fun r8 s9 h10 o =>
z_sub (L1 := [(3, .int (pI p3))]) X [4] rfl <|
ok_some o h10) fun o =>
z_iload_n X 3 dX12_lawTells_14 rfl <|
z_goto (tgt := 37) X dX12_lawTells_15 (by decide) <|
z_sub (L1 := [(3, .int (pI p3))]) X [4] rfl <|
ok_some o hp2 : At E s0 0 [(0, .ref (G.2.2.1 0)), (1, .int (pI p1)), (2, .int (pI p2)), (3, .int (pI p3))] [])
set_option maxHeartbeats 4000000 in
set_option maxRecDepth 100000 in
theorem ct_X12_speaksOf (p1 : Int) (hp1 : rg p1) (G : Gw) (s0 : St) (r : Int) (σ1 : St) (e : fX12_speaksOf p1 s0 = some (r, σ1)) : Ct yX12_speaksOf cX12_speaksOf 2 (some .int) 4 94 SM G [.ref (G.2.2.1 0), .int (pI p1)] s0 (QI SM G r rg σ1) :=
  Ct.of (by decide +kernel) (Nat.le_of_ble_eq_true rfl) fun E X Y => by
    have o : Ok (fX12_speaksOf p1 s0) (fun x σ' => x = r ∧ σ' = σ1) := ⟨r, σ1, e, rfl, rfl⟩
    unfold fX12_speaksOf at o
    exact (
z_aload_n X 0 dX12_speaksOf_0 rfl <|
z_iload_n X 1 dX12_speaksOf_1 rfl <|
z_aload_n X 0 dX12_speaksOf_2 rfl <|
z_iload_n X 1 dX12_speaksOf_3 rfl <|
z_callvI X dX12_speaksOf_4 q_2018 wX12_sitsOn sm_0 rfl (by decide) [.int (pI p1)] [.int (pI p1), .ref (G.2.2.1 0)] rfl rfl (Nat.le_of_ble_eq_true rfl) (fun r σ1 e => ct_X12_sitsOn p1 hp1 G _ r σ1 e) o fun r1 s2 h3 o =>
z_callvV X dX12_speaksOf_7 q_2066 wX12_asks sm_0 rfl (by decide) [.int (pI p1), .int (pI r1)] [] rfl rfl (Nat.le_of_ble_eq_true rfl) (fun r σ1 e => ct_X12_asks p1 r1 hp1 h3 G _ r σ1 e) o fun r4 s5 o =>
z_aload_n X 0 dX12_speaksOf_10 rfl <|
z_iconst X dX12_speaksOf_11 <|
z_bipush X dX12_speaksOf_12 bi_60 <|
z_aload_n X 0 dX12_speaksOf_14 rfl <|
z_getR (q := 21) X dX12_speaksOf_15 fl_X12_74 sm_0 rfl <|
z_iconst X dX12_speaksOf_18 <|
z_iald X dX12_speaksOf_19 sm_21 kc_0 o fun v7 r8 o =>
z_imul X dX12_speaksOf_20 <|
z_sipush X dX12_speaksOf_21 si_1000 <|
z_callvI X dX12_speaksOf_24 q_2070 wX12_lawTells sm_0 rfl (by decide) [.int (pI 0), .int (pI (w32 (60 * v7))), .int (pI 1000)] [] rfl rfl (Nat.le_of_ble_eq_true rfl) (fun r σ1 e => ct_X12_lawTells 0 (w32 (60 * v7)) 1000 kc_0 (w32_rg _) kc_1000 G _ r σ1 e) o fun r9 s10 h11 o =>
z_iret X Y dX12_speaksOf_27 o h11 : At E s0 0 [(0, .ref (G.2.2.1 0)), (1, .int (pI p1))] [])
set_option maxHeartbeats 4000000 in
set_option maxRecDepth 100000 in
theorem ct_X12_happens (p1 : Int) (hp1 : rg p1) (G : Gw) (s0 : St) (r : Int) (σ1 : St) (e : fX12_happens p1 s0 = some (r, σ1)) : Ct yX12_happens cX12_happens 2 (some .boolean) 1 21 SM G [.ref (G.2.2.1 0), .int (pI p1)] s0 (QI SM G r r01 σ1) :=
  Ct.of (by decide +kernel) (Nat.le_of_ble_eq_true rfl) fun E X Y => by
    have o : Ok (fX12_happens p1 s0) (fun x σ' => x = r ∧ σ' = σ1) := ⟨r, σ1, e, rfl, rfl⟩
    unfold fX12_happens at o
    exact (
z_aload_n X 0 dX12_happens_0 rfl <|
z_getI X dX12_happens_1 fl_X12_190 sm_0 rfl o fun v1 r2 o =>
z_if_eq (tgt := 24) X dX12_happens_4 (by decide) r2 o (fun o =>
z_iload_n X 1 dX12_happens_24 rfl <|
z_if_le (tgt := 43) X dX12_happens_25 (by decide) hp1 o (fun o =>
z_iconst X dX12_happens_43 <|
z_zret X Y dX12_happens_44 o kb_0 kb_0) fun o =>
z_aload_n X 0 dX12_happens_28 rfl <|
z_sipush X dX12_happens_29 si_1000 <|
z_callvI X dX12_happens_32 q_2094 wX12_draw sm_0 rfl (by decide) [.int (pI 1000)] [] rfl rfl (Nat.le_of_ble_eq_true rfl) (fun r σ1 e => ct_X12_draw 1000 kc_1000 G _ r σ1 e) o fun r3 s4 h5 o =>
z_iload_n X 1 dX12_happens_35 rfl <|
z_icmp_ge (tgt := 43) X dX12_happens_36 (by decide) h5 hp1 o (fun o =>
z_iconst X dX12_happens_43 <|
z_zret X Y dX12_happens_44 o kb_0 kb_0) fun o =>
z_iconst X dX12_happens_39 <|
z_goto (tgt := 44) X dX12_happens_40 (by decide) <|
z_zret X Y dX12_happens_44 o kb_1 kb_1) fun o =>
z_iconst X dX12_happens_7 <|
z_iload_n X 1 dX12_happens_8 rfl <|
z_imul X dX12_happens_9 <|
z_sipush X dX12_happens_10 si_1000 <|
z_icmp_lt (tgt := 20) X dX12_happens_13 (by decide) (w32_rg _) kc_1000 o (fun o =>
z_iconst X dX12_happens_20 <|
z_goto (tgt := 44) X dX12_happens_21 (by decide) <|
z_zret X Y dX12_happens_44 o kb_0 kb_0) fun o =>
z_iconst X dX12_happens_16 <|
z_goto (tgt := 44) X dX12_happens_17 (by decide) <|
z_zret X Y dX12_happens_44 o kb_1 kb_1 : At E s0 0 [(0, .ref (G.2.2.1 0)), (1, .int (pI p1))] [])
set_option maxHeartbeats 4000000 in
set_option maxRecDepth 100000 in
theorem ct_X12_isBeside (p1 : Int) (p2 : Int) (hp1 : rg p1) (hp2 : rg p2) (G : Gw) (s0 : St) (r : Int) (σ1 : St) (e : fX12_isBeside p1 p2 s0 = some (r, σ1)) : Ct yX12_isBeside cX12_isBeside 3 (some .boolean) 1 23 SM G [.ref (G.2.2.1 0), .int (pI p1), .int (pI p2)] s0 (QI SM G r r01 σ1) :=
  Ct.of (by decide +kernel) (Nat.le_of_ble_eq_true rfl) fun E X Y => by
    have o : Ok (fX12_isBeside p1 p2 s0) (fun x σ' => x = r ∧ σ' = σ1) := ⟨r, σ1, e, rfl, rfl⟩
    unfold fX12_isBeside at o
    exact (
z_aload_n X 0 dX12_isBeside_0 rfl <|
z_aload_n X 0 dX12_isBeside_1 rfl <|
z_getR (q := 20) X dX12_isBeside_2 fl_X12_71 sm_0 rfl <|
z_bipush X dX12_isBeside_5 bi_12 <|
z_iload_n X 1 dX12_isBeside_7 rfl <|
z_imul X dX12_isBeside_8 <|
z_iload_n X 2 dX12_isBeside_9 rfl <|
z_iadd X dX12_isBeside_10 <|
z_iald X dX12_isBeside_11 sm_20 (w32_rg _) o fun v1 r2 o =>
z_iconst X dX12_isBeside_12 <|
z_bipush X dX12_isBeside_13 bi_10 <|
z_callvI X dX12_isBeside_15 q_1822 wX12_isIn sm_0 rfl (by decide) [.int (pI v1), .int (pI 1), .int (pI 10)] [] rfl rfl (Nat.le_of_ble_eq_true rfl) (fun r σ1 e => ct_X12_isIn v1 1 10 r2 kc_1 kc_10 G _ r σ1 e) o fun r3 s4 h5 o =>
z_zret X Y dX12_isBeside_18 o h5 h5 : At E s0 0 [(0, .ref (G.2.2.1 0)), (1, .int (pI p1)), (2, .int (pI p2))] [])
set_option maxHeartbeats 4000000 in
set_option maxRecDepth 100000 in
theorem ct_X12_hearsOf (p1 : Int) (p2 : Int) (hp1 : rg p1) (hp2 : rg p2) (G : Gw) (s0 : St) (r : Int) (σ1 : St) (e : fX12_hearsOf p1 p2 s0 = some (r, σ1)) : Ct yX12_hearsOf cX12_hearsOf 3 (some .int) 4 94 SM G [.ref (G.2.2.1 0), .int (pI p1), .int (pI p2)] s0 (QI SM G r rg σ1) :=
  Ct.of (by decide +kernel) (Nat.le_of_ble_eq_true rfl) fun E X Y => by
    have o : Ok (fX12_hearsOf p1 p2 s0) (fun x σ' => x = r ∧ σ' = σ1) := ⟨r, σ1, e, rfl, rfl⟩
    unfold fX12_hearsOf at o
    exact (
z_aload_n X 0 dX12_hearsOf_0 rfl <|
z_iload_n X 1 dX12_hearsOf_1 rfl <|
z_iload_n X 2 dX12_hearsOf_2 rfl <|
z_callvV X dX12_hearsOf_3 q_2066 wX12_asks sm_0 rfl (by decide) [.int (pI p1), .int (pI p2)] [] rfl rfl (Nat.le_of_ble_eq_true rfl) (fun r σ1 e => ct_X12_asks p1 p2 hp1 hp2 G _ r σ1 e) o fun r1 s2 o =>
z_aload_n X 0 dX12_hearsOf_6 rfl <|
z_iconst X dX12_hearsOf_7 <|
z_bipush X dX12_hearsOf_8 bi_100 <|
z_aload_n X 0 dX12_hearsOf_10 rfl <|
z_getR (q := 21) X dX12_hearsOf_11 fl_X12_74 sm_0 rfl <|
z_iconst X dX12_hearsOf_14 <|
z_iald X dX12_hearsOf_15 sm_21 kc_1 o fun v4 r5 o =>
z_imul X dX12_hearsOf_16 <|
z_sipush X dX12_hearsOf_17 si_1000 <|
z_callvI X dX12_hearsOf_20 q_2070 wX12_lawTells sm_0 rfl (by decide) [.int (pI 1), .int (pI (w32 (100 * v4))), .int (pI 1000)] [] rfl rfl (Nat.le_of_ble_eq_true rfl) (fun r σ1 e => ct_X12_lawTells 1 (w32 (100 * v4)) 1000 kc_1 (w32_rg _) kc_1000 G _ r σ1 e) o fun r6 s7 h8 o =>
z_iret X Y dX12_hearsOf_23 o h8 : At E s0 0 [(0, .ref (G.2.2.1 0)), (1, .int (pI p1)), (2, .int (pI p2))] [])
set_option maxHeartbeats 4000000 in
set_option maxRecDepth 100000 in
theorem ct_X12_isSpoken (p1 : Int) (hp1 : rg p1) (G : Gw) (s0 : St) (r : Int) (σ1 : St) (e : fX12_isSpoken p1 s0 = some (r, σ1)) : Ct yX12_isSpoken cX12_isSpoken 6 none 5 116 SM G [.ref (G.2.2.1 0), .int (pI p1)] s0 (QV SM G σ1) :=
  Ct.of (by decide +kernel) (Nat.le_of_ble_eq_true rfl) fun E X Y => by
    have o : Ok (fX12_isSpoken p1 s0) (fun x σ' => x = r ∧ σ' = σ1) := ⟨r, σ1, e, rfl, rfl⟩
    unfold fX12_isSpoken at o
    exact (
z_aload_n X 0 dX12_isSpoken_0 rfl <|
z_iload_n X 1 dX12_isSpoken_1 rfl <|
z_callvI X dX12_isSpoken_2 q_2018 wX12_sitsOn sm_0 rfl (by decide) [.int (pI p1)] [] rfl rfl (Nat.le_of_ble_eq_true rfl) (fun r σ1 e => ct_X12_sitsOn p1 hp1 G _ r σ1 e) o fun r1 s2 h3 o =>
z_istore_n (L1 := [(2, .int (pI r1)), (0, .ref (G.2.2.1 0)), (1, .int (pI p1))]) X dX12_isSpoken_5 rfl (by decide) rfl <|
z_iconst X dX12_isSpoken_6 <|
z_istore_n (L1 := [(3, .int (pI 0)), (2, .int (pI r1)), (0, .ref (G.2.2.1 0)), (1, .int (pI p1))]) X dX12_isSpoken_7 rfl (by decide) rfl <|
z_aload_n X 2 dX12_isSpoken_8 rfl <|
z_getR (q := 1) X dX12_isSpoken_9 fl_X12_7 sm_0 rfl <|
z_bipush X dX12_isSpoken_12 bi_101 <|
z_iload_n X 3 dX12_isSpoken_14 rfl <|
z_iadd X dX12_isSpoken_15 <|
z_aload_n X 2 dX12_isSpoken_16 rfl <|
z_getR (q := 1) X dX12_isSpoken_17 fl_X12_7 sm_0 rfl <|
z_bipush X dX12_isSpoken_20 bi_101 <|
z_iload_n X 3 dX12_isSpoken_22 rfl <|
z_iadd X dX12_isSpoken_23 <|
z_iald X dX12_isSpoken_24 sm_1 (w32_rg _) o fun v4 r5 o =>
z_iconst X dX12_isSpoken_25 <|
z_iadd X dX12_isSpoken_26 <|
z_iast X dX12_isSpoken_27 sm_1 (w32_rg _) (w32_rg _) o fun s6 o =>
z_iconst X dX12_isSpoken_28 <|
z_istore (L1 := [(4, .int (pI 0)), (3, .int (pI 0)), (2, .int (pI r1)), (0, .ref (G.2.2.1 0)), (1, .int (pI p1))]) X dX12_isSpoken_29 (by decide) rfl <|
z_join o (fun (y44 : Int) s45 => rg y44 → At E s45 156 [(0, .ref (G.2.2.1 0)), (1, .int (pI p1)), (3, .int (pI y44))] []) (fun y44 s45 o r46 =>
z_aload_n X 0 dX12_isSpoken_156 rfl <|
z_iconst X dX12_isSpoken_157 <|
z_iload_n X 1 dX12_isSpoken_158 rfl <|
z_iload_n X 2 dX12_isSpoken_159 rfl <|
z_callvV X dX12_isSpoken_160 q_2034 wX12_notes sm_0 rfl (by decide) [.int (pI 1), .int (pI p1), .int (pI y44)] [] rfl rfl (Nat.le_of_ble_eq_true rfl) (fun r σ1 e => ct_X12_notes 1 p1 y44 kc_1 hp1 r46 G _ r σ1 e) o fun r47 s48 o =>
z_vret (v := 0) X Y dX12_isSpoken_163 o) fun o =>
z_sub (L1 := [(0, .ref (G.2.2.1 0)), (1, .int (pI p1)), (2, .int (pI r1)), (3, .int (pI 0)), (4, .int (pI 0))]) X [3, 4, 2, 1, 0] rfl <|
z_iter (fun (x7 : Int × Int) s8 => rg x7.1 ∧ rg x7.2 → At E s8 31 [(0, .ref (G.2.2.1 0)), (1, .int (pI p1)), (2, .int (pI r1)), (3, .int (pI x7.1)), (4, .int (pI x7.2))] []) o (fun x7 s8 o r9 =>
z_iload X 4 dX12_isSpoken_31 rfl <|
z_aload_n X 0 dX12_isSpoken_33 rfl <|
z_getI X dX12_isSpoken_34 fl_X12_199 sm_0 rfl o fun v10 r11 o =>
z_icmp_ge (tgt := 156) X dX12_isSpoken_37 (by decide) r9.2 r11 o (fun o =>
z_sub (L1 := [(0, .ref (G.2.2.1 0)), (1, .int (pI p1)), (3, .int (pI x7.1))]) X [0, 1, 3] rfl <|
ok_some o r9.1) fun o =>
z_iload X 4 dX12_isSpoken_40 rfl <|
z_iload_n X 1 dX12_isSpoken_42 rfl <|
z_icmp_eq (tgt := 150) X dX12_isSpoken_43 (by decide) r9.2 hp1 o (fun o =>
z_iinc (L1 := [(4, .int (pI (w32 (x7.2 + 1)))), (0, .ref (G.2.2.1 0)), (1, .int (pI p1)), (2, .int (pI r1)), (3, .int (pI x7.1))]) X 4 dX12_isSpoken_150 rfl (by decide) rfl <|
z_goto (tgt := 31) X dX12_isSpoken_153 (by decide) <|
z_sub (L1 := [(0, .ref (G.2.2.1 0)), (1, .int (pI p1)), (2, .int (pI r1)), (3, .int (pI x7.1)), (4, .int (pI (w32 (x7.2 + 1))))]) X [1, 2, 3, 4, 0] rfl <|
ok_some o ⟨r9.1, (w32_rg _)⟩) fun o =>
z_aload_n X 0 dX12_isSpoken_46 rfl <|
z_iload X 4 dX12_isSpoken_47 rfl <|
z_callvI X dX12_isSpoken_49 q_2010 wX12_doesSit sm_0 rfl (by decide) [.int (pI x7.2)] [] rfl rfl (Nat.le_of_ble_eq_true rfl) (fun r σ1 e => ct_X12_doesSit x7.2 r9.2 G _ r σ1 e) o fun r12 s13 h14 o =>
z_if_ne (tgt := 58) X dX12_isSpoken_52 (by decide) (r01_rg h14) o (fun o =>
z_aload_n X 0 dX12_isSpoken_58 rfl <|
z_iload X 4 dX12_isSpoken_59 rfl <|
z_callvI X dX12_isSpoken_61 q_2018 wX12_sitsOn sm_0 rfl (by decide) [.int (pI x7.2)] [] rfl rfl (Nat.le_of_ble_eq_true rfl) (fun r σ1 e => ct_X12_sitsOn x7.2 r9.2 G _ r σ1 e) o fun r15 s16 h17 o =>
z_iload_n X 2 dX12_isSpoken_64 rfl <|
z_join o (fun (y18 : Int) s19 => r01 y18 → At E s19 73 [(0, .ref (G.2.2.1 0)), (1, .int (pI p1)), (2, .int (pI r1)), (3, .int (pI x7.1)), (4, .int (pI x7.2))] [.int (pI y18)]) (fun y18 s19 o r20 =>
z_istore (L1 := [(5, .int (pI y18)), (0, .ref (G.2.2.1 0)), (1, .int (pI p1)), (2, .int (pI r1)), (3, .int (pI x7.1)), (4, .int (pI x7.2))]) X dX12_isSpoken_73 (by decide) rfl <|
z_iload X 0 dX12_isSpoken_75 rfl <|
z_joix o (fun (y33 : Int) s34 => rg y33 → At E s34 111 [(0, .ref (G.2.2.1 0)), (1, .int (pI p1)), (2, .int (pI r1)), (3, .int (pI x7.1)), (4, .int (pI y33)), (5, .int (pI y18))] []) (fun y33 s34 o r35 =>
z_aload_n X 0 dX12_isSpoken_111 rfl <|
z_getR (q := 1) X dX12_isSpoken_112 fl_X12_7 sm_0 rfl <|
z_bipush X dX12_isSpoken_115 bi_121 <|
z_iload X 4 dX12_isSpoken_117 rfl <|
z_iadd X dX12_isSpoken_119 <|
z_aload_n X 0 dX12_isSpoken_120 rfl <|
z_getR (q := 1) X dX12_isSpoken_121 fl_X12_7 sm_0 rfl <|
z_bipush X dX12_isSpoken_124 bi_121 <|
z_iload X 4 dX12_isSpoken_126 rfl <|
z_iadd X dX12_isSpoken_128 <|
z_iald X dX12_isSpoken_129 sm_1 (w32_rg _) o fun v36 r37 o =>
z_iconst X dX12_isSpoken_130 <|
z_iadd X dX12_isSpoken_131 <|
z_iast X dX12_isSpoken_132 sm_1 (w32_rg _) (w32_rg _) o fun s38 o =>
z_iload_n X 3 dX12_isSpoken_133 rfl <|
z_iconst X dX12_isSpoken_134 <|
z_iadd X dX12_isSpoken_135 <|
z_istoreL_n (L1 := fun v39 => [(3, .int (pI v39)), (0, .ref (G.2.2.1 0)), (1, .int (pI p1)), (2, .int (pI r1)), (4, .int (pI y33)), (5, .int (pI y18))]) (R := rg) X dX12_isSpoken_136 rfl (by decide) (fun _ => rfl) o (w32_rg _) fun v39 r40 o =>
z_iload X 5 dX12_isSpoken_137 rfl <|
z_if_eq (tgt := 150) X dX12_isSpoken_139 (by decide) (r01_rg r20) o (fun o =>
z_iinc (L1 := [(4, .int (pI (w32 (y33 + 1)))), (3, .int (pI v39)), (0, .ref (G.2.2.1 0)), (1, .int (pI p1)), (2, .int (pI r1)), (5, .int (pI y18))]) X 4 dX12_isSpoken_150 rfl (by decide) rfl <|
z_goto (tgt := 31) X dX12_isSpoken_153 (by decide) <|
z_sub (L1 := [(0, .ref (G.2.2.1 0)), (1, .int (pI p1)), (2, .int (pI r1)), (3, .int (pI v39)), (4, .int (pI (w32 (y33 + 1))))]) X [2, 3, 4, 1, 0] rfl <|
ok_some o ⟨r40, (w32_rg _)⟩) fun o =>
z_aload_n X 1 dX12_isSpoken_142 rfl <|
z_iconst X dX12_isSpoken_143 <|
z_iload X 4 dX12_isSpoken_144 rfl <|
z_iload_n X 2 dX12_isSpoken_146 rfl <|
z_callvV X dX12_isSpoken_147 q_2034 wX12_notes sm_0 rfl (by decide) [.int (pI 2), .int (pI y33), .int (pI p1)] [] rfl rfl (Nat.le_of_ble_eq_true rfl) (fun r σ1 e => ct_X12_notes 2 y33 p1 kc_2 r35 hp1 G _ r σ1 e) o fun r41 s42 o =>
z_iinc (L1 := [(4, .int (pI (w32 (y33 + 1)))), (3, .int (pI v39)), (0, .ref (G.2.2.1 0)), (1, .int (pI p1)), (2, .int (pI r1)), (5, .int (pI y18))]) X 4 dX12_isSpoken_150 rfl (by decide) rfl <|
z_goto (tgt := 31) X dX12_isSpoken_153 (by decide) <|
z_sub (L1 := [(0, .ref (G.2.2.1 0)), (1, .int (pI p1)), (2, .int (pI r1)), (3, .int (pI v39)), (4, .int (pI (w32 (y33 + 1))))]) X [2, 3, 4, 1, 0] rfl <|
ok_some o ⟨r40, (w32_rg _)⟩) fun o =>
z_if_eq (tgt := 111) X dX12_isSpoken_77 (by decide) (r01_rg r20) o (fun o =>
z_sub (L1 := [(0, .ref (G.2.2.1 0)), (1, .int (pI p1)), (2, .int (pI r1)), (3, .int (pI x7.1)), (4, .int (pI x7.2)), (5, .int (pI y18))]) X [1, 2, 3, 4, 5, 0] rfl <|
ok_some o r9.2) fun o =>
z_aload_n X 1 dX12_isSpoken_80 rfl <|
z_iload_n X 3 dX12_isSpoken_81 rfl <|
z_aload_n X 1 dX12_isSpoken_82 rfl <|
z_iload X 5 dX12_isSpoken_83 rfl <|
z_callvI X dX12_isSpoken_85 q_2018 wX12_sitsOn sm_0 rfl (by decide) [.int (pI x7.2)] [.int (pI r1), .ref (G.2.2.1 0)] rfl rfl (Nat.le_of_ble_eq_true rfl) (fun r σ1 e => ct_X12_sitsOn x7.2 r9.2 G _ r σ1 e) o fun r21 s22 h23 o =>
z_callvI X dX12_isSpoken_88 q_2104 wX12_isBeside sm_0 rfl (by decide) [.int (pI r1), .int (pI r21)] [] rfl rfl (Nat.le_of_ble_eq_true rfl) (fun r σ1 e => ct_X12_isBeside r1 r21 h3 h23 G _ r σ1 e) o fun r24 s25 h26 o =>
z_if_eq (tgt := 150) X dX12_isSpoken_91 (by decide) (r01_rg h26) o (fun o =>
z_iinc (L1 := [(4, .int (pI (w32 (x7.2 + 1)))), (5, .int (pI y18)), (0, .ref (G.2.2.1 0)), (1, .int (pI p1)), (2, .int (pI r1)), (3, .int (pI x7.1))]) X 5 dX12_isSpoken_150 rfl (by decide) rfl <|
z_goto (tgt := 31) X dX12_isSpoken_153 (by decide) <|
z_sub (L1 := [(0, .ref (G.2.2.1 0)), (1, .int (pI p1)), (2, .int (pI r1)), (3, .int (pI x7.1)), (4, .int (pI (w32 (x7.2 + 1))))]) X [2, 3, 4, 5, 0] rfl <|
ok_some o ⟨r9.1, (w32_rg _)⟩) fun o =>
z_aload_n X 1 dX12_isSpoken_94 rfl <|
z_aload_n X 1 dX12_isSpoken_95 rfl <|
z_iload X 5 dX12_isSpoken_96 rfl <|
z_iload_n X 3 dX12_isSpoken_98 rfl <|
z_callvI X dX12_isSpoken_99 q_2108 wX12_hearsOf sm_0 rfl (by decide) [.int (pI x7.2), .int (pI r1)] [.ref (G.2.2.1 0)] rfl rfl (Nat.le_of_ble_eq_true rfl) (fun r σ1 e => ct_X12_hearsOf x7.2 r1 r9.2 h3 G _ r σ1 e) o fun r27 s28 h29 o =>
z_callvI X dX12_isSpoken_102 q_2090 wX12_happens sm_0 rfl (by decide) [.int (pI r27)] [] rfl rfl (Nat.le_of_ble_eq_true rfl) (fun r σ1 e => ct_X12_happens r27 h29 G _ r σ1 e) o fun r30 s31 h32 o =>
z_if_ne (tgt := 111) X dX12_isSpoken_105 (by decide) (r01_rg h32) o (fun o =>
z_sub (L1 := [(0, .ref (G.2.2.1 0)), (1, .int (pI p1)), (2, .int (pI r1)), (3, .int (pI x7.1)), (4, .int (pI x7.2)), (5, .int (pI y18))]) X [1, 2, 3, 4, 5, 0] rfl <|
ok_some o r9.2) fun o =>
z_goto (tgt := 150) X dX12_isSpoken_108 (by decide) <|
z_iinc (L1 := [(4, .int (pI (w32 (x7.2 + 1)))), (5, .int (pI y18)), (0, .ref (G.2.2.1 0)), (1, .int (pI p1)), (2, .int (pI r1)), (3, .int (pI x7.1))]) X 5 dX12_isSpoken_150 rfl (by decide) rfl <|
z_goto (tgt := 31) X dX12_isSpoken_153 (by decide) <|
z_sub (L1 := [(0, .ref (G.2.2.1 0)), (1, .int (pI p1)), (2, .int (pI r1)), (3, .int (pI x7.1)), (4, .int (pI (w32 (x7.2 + 1))))]) X [2, 3, 4, 5, 0] rfl <|
ok_some o ⟨r9.1, (w32_rg _)⟩) fun o =>
z_icmp_eq (tgt := 72) X dX12_isSpoken_65 (by decide) h17 h3 o (fun o =>
z_iconst X dX12_isSpoken_72 <|
ok_some o kb_0) fun o =>
z_iconst X dX12_isSpoken_68 <|
z_goto (tgt := 73) X dX12_isSpoken_69 (by decide) <|
ok_some o kb_1) fun o =>
z_goto (tgt := 150) X dX12_isSpoken_55 (by decide) <|
z_iinc (L1 := [(4, .int (pI (w32 (x7.2 + 1)))), (0, .ref (G.2.2.1 0)), (1, .int (pI p1)), (2, .int (pI r1)), (3, .int (pI x7.1))]) X 4 dX12_isSpoken_150 rfl (by decide) rfl <|
z_goto (tgt := 31) X dX12_isSpoken_153 (by decide) <|
z_sub (L1 := [(0, .ref (G.2.2.1 0)), (1, .int (pI p1)), (2, .int (pI r1)), (3, .int (pI x7.1)), (4, .int (pI (w32 (x7.2 + 1))))]) X [1, 2, 3, 4, 0] rfl <|
ok_some o ⟨r9.1, (w32_rg _)⟩) ⟨kc_0, kc_0⟩ : At E s0 0 [(0, .ref (G.2.2.1 0)), (1, .int (pI p1))] [])
set_option maxHeartbeats 4000000 in
set_option maxRecDepth 100000 in
theorem ct_X12_lampBurns (p1 : Int) (hp1 : rg p1) (G : Gw) (s0 : St) (r : Int) (σ1 : St) (e : fX12_lampBurns p1 s0 = some (r, σ1)) : Ct yX12_lampBurns cX12_lampBurns 4 none 1 24 SM G [.ref (G.2.2.1 0), .int (pI p1)] s0 (QV SM G σ1) :=
  Ct.of (by decide +kernel) (Nat.le_of_ble_eq_true rfl) fun E X Y => by
    have o : Ok (fX12_lampBurns p1 s0) (fun x σ' => x = r ∧ σ' = σ1) := ⟨r, σ1, e, rfl, rfl⟩
    unfold fX12_lampBurns at o
    exact (
z_aload_n X 0 dX12_lampBurns_0 rfl <|
z_getR (q := 1) X dX12_lampBurns_1 fl_X12_7 sm_0 rfl <|
z_iconst X dX12_lampBurns_4 <|
z_iload_n X 1 dX12_lampBurns_5 rfl <|
z_iadd X dX12_lampBurns_6 <|
z_iald X dX12_lampBurns_7 sm_1 (w32_rg _) o fun v1 r2 o =>
z_if_ne (tgt := 12) X dX12_lampBurns_8 (by decide) r2 o (fun o =>
z_aload_n X 0 dX12_lampBurns_12 rfl <|
z_getR (q := 1) X dX12_lampBurns_13 fl_X12_7 sm_0 rfl <|
z_iconst X dX12_lampBurns_16 <|
z_iload_n X 1 dX12_lampBurns_17 rfl <|
z_iadd X dX12_lampBurns_18 <|
z_aload_n X 0 dX12_lampBurns_19 rfl <|
z_getR (q := 1) X dX12_lampBurns_20 fl_X12_7 sm_0 rfl <|
z_iconst X dX12_lampBurns_23 <|
z_iload_n X 1 dX12_lampBurns_24 rfl <|
z_iadd X dX12_lampBurns_25 <|
z_iald X dX12_lampBurns_26 sm_1 (w32_rg _) o fun v3 r4 o =>
z_iconst X dX12_lampBurns_27 <|
z_isub X dX12_lampBurns_28 <|
z_iast X dX12_lampBurns_29 sm_1 (w32_rg _) (w32_rg _) o fun s5 o =>
z_aload_n X 0 dX12_lampBurns_30 rfl <|
z_getR (q := 1) X dX12_lampBurns_31 fl_X12_7 sm_0 rfl <|
z_bipush X dX12_lampBurns_34 bi_29 <|
z_iload_n X 1 dX12_lampBurns_36 rfl <|
z_iadd X dX12_lampBurns_37 <|
z_iald X dX12_lampBurns_38 sm_1 (w32_rg _) o fun v6 r7 o =>
z_iconst X dX12_lampBurns_39 <|
z_isub X dX12_lampBurns_40 <|
z_istoreL_n (L1 := fun v8 => [(2, .int (pI v8)), (0, .ref (G.2.2.1 0)), (1, .int (pI p1))]) (R := rg) X dX12_lampBurns_41 rfl (by decide) (fun _ => rfl) o (w32_rg _) fun v8 r9 o =>
z_aload_n X 1 dX12_lampBurns_42 rfl <|
z_getR (q := 1) X dX12_lampBurns_43 fl_X12_7 sm_0 rfl <|
z_iconst X dX12_lampBurns_46 <|
z_iload_n X 2 dX12_lampBurns_47 rfl <|
z_iadd X dX12_lampBurns_48 <|
z_iald X dX12_lampBurns_49 sm_1 (w32_rg _) o fun v10 r11 o =>
z_if_gt (tgt := 67) X dX12_lampBurns_50 (by decide) r11 o (fun o =>
z_vret (v := 0) X Y dX12_lampBurns_67 o) fun o =>
z_iload_n X 0 dX12_lampBurns_53 rfl <|
z_iconst X dX12_lampBurns_54 <|
z_icmp_eq (tgt := 67) X dX12_lampBurns_55 (by decide) r9 kc_m1 o (fun o =>
z_vret (v := 0) X Y dX12_lampBurns_67 o) fun o =>
z_aload_n X 1 dX12_lampBurns_58 rfl <|
z_iload_n X 0 dX12_lampBurns_59 rfl <|
z_callvI X dX12_lampBurns_60 q_2018 wX12_sitsOn sm_0 rfl (by decide) [.int (pI v8)] [] rfl rfl (Nat.le_of_ble_eq_true rfl) (fun r σ1 e => ct_X12_sitsOn v8 r9 G _ r σ1 e) o fun r12 s13 h14 o =>
z_iload_n X 2 dX12_lampBurns_63 rfl <|
z_icmp_eq (tgt := 68) X dX12_lampBurns_64 (by decide) h14 hp1 o (fun o =>
z_iconst X dX12_lampBurns_68 <|
z_istore_n (L1 := [(3, .int (pI 0)), (2, .int (pI v8)), (0, .ref (G.2.2.1 0)), (1, .int (pI p1))]) X dX12_lampBurns_69 rfl (by decide) rfl <|
z_join o (fun (y29 : Unit) s30 => True → At E s30 134 [] []) (fun y29 s30 o r31 =>
z_vret (v := 0) X Y dX12_lampBurns_134 o) fun o =>
z_sub (L1 := [(0, .ref (G.2.2.1 0)), (1, .int (pI p1)), (2, .int (pI v8)), (3, .int (pI 0))]) X [2, 3, 1, 0] rfl <|
z_iter (fun (x15 : Int) s16 => rg x15 → At E s16 70 [(0, .ref (G.2.2.1 0)), (1, .int (pI p1)), (2, .int (pI v8)), (3, .int (pI x15))] []) o (fun x15 s16 o r17 =>
z_iload_n X 3 dX12_lampBurns_70 rfl <|
z_aload_n X 0 dX12_lampBurns_71 rfl <|
z_getI X dX12_lampBurns_72 fl_X12_199 sm_0 rfl o fun v18 r19 o =>
z_icmp_ge (tgt := 134) X dX12_lampBurns_75 (by decide) r17 r19 o (fun o =>
z_sub (L1 := []) X [] rfl <|
ok_some o trivial) fun o =>
z_iload_n X 3 dX12_lampBurns_78 rfl <|
z_iload_n X 2 dX12_lampBurns_79 rfl <|
z_icmp_eq (tgt := 128) X dX12_lampBurns_80 (by decide) r17 r9 o (fun o =>
z_iinc (L1 := [(3, .int (pI (w32 (x15 + 1)))), (0, .ref (G.2.2.1 0)), (1, .int (pI p1)), (2, .int (pI v8))]) X 3 dX12_lampBurns_128 rfl (by decide) rfl <|
z_goto (tgt := 70) X dX12_lampBurns_131 (by decide) <|
z_sub (L1 := [(0, .ref (G.2.2.1 0)), (1, .int (pI p1)), (2, .int (pI v8)), (3, .int (pI (w32 (x15 + 1))))]) X [1, 2, 3, 0] rfl <|
ok_some o (w32_rg _)) fun o =>
z_aload_n X 0 dX12_lampBurns_83 rfl <|
z_iload_n X 3 dX12_lampBurns_84 rfl <|
z_callvI X dX12_lampBurns_85 q_2018 wX12_sitsOn sm_0 rfl (by decide) [.int (pI x15)] [] rfl rfl (Nat.le_of_ble_eq_true rfl) (fun r σ1 e => ct_X12_sitsOn x15 r17 G _ r σ1 e) o fun r20 s21 h22 o =>
z_iload_n X 1 dX12_lampBurns_88 rfl <|
z_icmp_ne (tgt := 128) X dX12_lampBurns_89 (by decide) h22 hp1 o (fun o =>
z_iinc (L1 := [(3, .int (pI (w32 (x15 + 1)))), (0, .ref (G.2.2.1 0)), (1, .int (pI p1)), (2, .int (pI v8))]) X 3 dX12_lampBurns_128 rfl (by decide) rfl <|
z_goto (tgt := 70) X dX12_lampBurns_131 (by decide) <|
z_sub (L1 := [(0, .ref (G.2.2.1 0)), (1, .int (pI p1)), (2, .int (pI v8)), (3, .int (pI (w32 (x15 + 1))))]) X [1, 2, 3, 0] rfl <|
ok_some o (w32_rg _)) fun o =>
z_aload_n X 0 dX12_lampBurns_92 rfl <|
z_getR (q := 1) X dX12_lampBurns_93 fl_X12_7 sm_0 rfl <|
z_sipush X dX12_lampBurns_96 si_141 <|
z_iload_n X 3 dX12_lampBurns_99 rfl <|
z_iadd X dX12_lampBurns_100 <|
z_iald X dX12_lampBurns_101 sm_1 (w32_rg _) o fun v23 r24 o =>
z_if_le (tgt := 108) X dX12_lampBurns_102 (by decide) r24 o (fun o =>
z_aload_n X 0 dX12_lampBurns_108 rfl <|
z_getR (q := 1) X dX12_lampBurns_109 fl_X12_7 sm_0 rfl <|
z_sipush X dX12_lampBurns_112 si_141 <|
z_iload_n X 3 dX12_lampBurns_115 rfl <|
z_iadd X dX12_lampBurns_116 <|
z_iload_n X 2 dX12_lampBurns_117 rfl <|
z_iconst X dX12_lampBurns_118 <|
z_iadd X dX12_lampBurns_119 <|
z_iast X dX12_lampBurns_120 sm_1 (w32_rg _) (w32_rg _) o fun s25 o =>
z_aload_n X 0 dX12_lampBurns_121 rfl <|
z_iconst X dX12_lampBurns_122 <|
z_iload_n X 3 dX12_lampBurns_123 rfl <|
z_iload_n X 2 dX12_lampBurns_124 rfl <|
z_callvV X dX12_lampBurns_125 q_2034 wX12_notes sm_0 rfl (by decide) [.int (pI 3), .int (pI x15), .int (pI v8)] [] rfl rfl (Nat.le_of_ble_eq_true rfl) (fun r σ1 e => ct_X12_notes 3 x15 v8 kc_3 r17 r9 G _ r σ1 e) o fun r26 s27 o =>
z_iinc (L1 := [(3, .int (pI (w32 (x15 + 1)))), (0, .ref (G.2.2.1 0)), (1, .int (pI p1)), (2, .int (pI v8))]) X 3 dX12_lampBurns_128 rfl (by decide) rfl <|
z_goto (tgt := 70) X dX12_lampBurns_131 (by decide) <|
z_sub (L1 := [(0, .ref (G.2.2.1 0)), (1, .int (pI p1)), (2, .int (pI v8)), (3, .int (pI (w32 (x15 + 1))))]) X [1, 2, 3, 0] rfl <|
ok_some o (w32_rg _)) fun o =>
z_goto (tgt := 128) X dX12_lampBurns_105 (by decide) <|
z_iinc (L1 := [(3, .int (pI (w32 (x15 + 1)))), (0, .ref (G.2.2.1 0)), (1, .int (pI p1)), (2, .int (pI v8))]) X 3 dX12_lampBurns_128 rfl (by decide) rfl <|
z_goto (tgt := 70) X dX12_lampBurns_131 (by decide) <|
z_sub (L1 := [(0, .ref (G.2.2.1 0)), (1, .int (pI p1)), (2, .int (pI v8)), (3, .int (pI (w32 (x15 + 1))))]) X [1, 2, 3, 0] rfl <|
ok_some o (w32_rg _)) kc_0) fun o =>
z_vret (v := 0) X Y dX12_lampBurns_67 o) fun o =>
z_vret (v := 0) X Y dX12_lampBurns_11 o : At E s0 0 [(0, .ref (G.2.2.1 0)), (1, .int (pI p1))] [])
set_option maxHeartbeats 4000000 in
set_option maxRecDepth 100000 in
theorem ct_X12_spinsOf (p1 : Int) (hp1 : rg p1) (G : Gw) (s0 : St) (r : Int) (σ1 : St) (e : fX12_spinsOf p1 s0 = some (r, σ1)) : Ct yX12_spinsOf cX12_spinsOf 2 (some .int) 4 94 SM G [.ref (G.2.2.1 0), .int (pI p1)] s0 (QI SM G r rg σ1) :=
  Ct.of (by decide +kernel) (Nat.le_of_ble_eq_true rfl) fun E X Y => by
    have o : Ok (fX12_spinsOf p1 s0) (fun x σ' => x = r ∧ σ' = σ1) := ⟨r, σ1, e, rfl, rfl⟩
    unfold fX12_spinsOf at o
    exact (
z_aload_n X 0 dX12_spinsOf_0 rfl <|
z_iconst X dX12_spinsOf_1 <|
z_iload_n X 1 dX12_spinsOf_2 rfl <|
z_callvV X dX12_spinsOf_3 q_2066 wX12_asks sm_0 rfl (by decide) [.int (pI (-1)), .int (pI p1)] [] rfl rfl (Nat.le_of_ble_eq_true rfl) (fun r σ1 e => ct_X12_asks (-1) p1 kc_m1 hp1 G _ r σ1 e) o fun r1 s2 o =>
z_aload_n X 0 dX12_spinsOf_6 rfl <|
z_iconst X dX12_spinsOf_7 <|
z_iconst X dX12_spinsOf_8 <|
z_bipush X dX12_spinsOf_9 bi_9 <|
z_callvI X dX12_spinsOf_11 q_2070 wX12_lawTells sm_0 rfl (by decide) [.int (pI 2), .int (pI 1), .int (pI 9)] [] rfl rfl (Nat.le_of_ble_eq_true rfl) (fun r σ1 e => ct_X12_lawTells 2 1 9 kc_2 kc_1 kc_9 G _ r σ1 e) o fun r4 s5 h6 o =>
z_iret X Y dX12_spinsOf_14 o h6 : At E s0 0 [(0, .ref (G.2.2.1 0)), (1, .int (pI p1))] [])
set_option maxHeartbeats 4000000 in
set_option maxRecDepth 100000 in
theorem ct_X12_goesBy   (G : Gw) (s0 : St) (r : Int) (σ1 : St) (e : fX12_goesBy s0 = some (r, σ1)) : Ct yX12_goesBy cX12_goesBy 3 (some .int) 6 141 SM G [.ref (G.2.2.1 0)] s0 (QI SM G r rg σ1) :=
  Ct.of (by decide +kernel) (Nat.le_of_ble_eq_true rfl) fun E X Y => by
    have o : Ok (fX12_goesBy s0) (fun x σ' => x = r ∧ σ' = σ1) := ⟨r, σ1, e, rfl, rfl⟩
    unfold fX12_goesBy at o
    exact (
z_aload_n X 0 dX12_goesBy_0 rfl <|
z_getR (q := 1) X dX12_goesBy_1 fl_X12_7 sm_0 rfl <|
z_iconst X dX12_goesBy_4 <|
z_iald X dX12_goesBy_5 sm_1 kc_1 o fun v1 r2 o =>
z_join o (fun (y6 : Unit) s7 => True → At E s7 13 [(0, .ref (G.2.2.1 0))] []) (fun y6 s7 o r8 =>
z_aload_n X 0 dX12_goesBy_13 rfl <|
z_callvV X dX12_goesBy_14 q_2058 wX12_callsAndRain sm_0 rfl (by decide) [] [] rfl rfl (Nat.le_of_ble_eq_true rfl) (fun r σ1 e => ct_X12_callsAndRain G _ r σ1 e) o fun r9 s10 o =>
z_iconst X dX12_goesBy_17 <|
z_istore_n (L1 := [(1, .int (pI 0)), (0, .ref (G.2.2.1 0))]) X dX12_goesBy_18 rfl (by decide) rfl <|
z_iconst X dX12_goesBy_19 <|
z_istore_n (L1 := [(2, .int (pI 0)), (1, .int (pI 0)), (0, .ref (G.2.2.1 0))]) X dX12_goesBy_20 rfl (by decide) rfl <|
z_join o (fun (y31 : Int) s32 => rg y31 → At E s32 67 [(0, .ref (G.2.2.1 0)), (1, .int (pI y31))] []) (fun y31 s32 o r33 =>
z_iconst X dX12_goesBy_67 <|
z_istore_n (L1 := [(2, .int (pI 0)), (0, .ref (G.2.2.1 0)), (1, .int (pI y31))]) X dX12_goesBy_68 rfl (by decide) rfl <|
z_join o (fun (y52 : Unit) s53 => True → At E s53 140 [(0, .ref (G.2.2.1 0)), (1, .int (pI y31))] []) (fun y52 s53 o r54 =>
z_iconst X dX12_goesBy_140 <|
z_istore_n (L1 := [(2, .int (pI 0)), (0, .ref (G.2.2.1 0)), (1, .int (pI y31))]) X dX12_goesBy_141 rfl (by decide) rfl <|
z_join o (fun (y63 : Unit) s64 => True → At E s64 161 [(0, .ref (G.2.2.1 0)), (1, .int (pI y31))] []) (fun y63 s64 o r65 =>
z_iconst X dX12_goesBy_161 <|
z_istore_n (L1 := [(2, .int (pI 0)), (0, .ref (G.2.2.1 0)), (1, .int (pI y31))]) X dX12_goesBy_162 rfl (by decide) rfl <|
z_join o (fun (y83 : Unit) s84 => True → At E s84 215 [(0, .ref (G.2.2.1 0)), (1, .int (pI y31))] []) (fun y83 s84 o r85 =>
z_aload_n X 0 dX12_goesBy_215 rfl <|
z_getR (q := 1) X dX12_goesBy_216 fl_X12_7 sm_0 rfl <|
z_iconst X dX12_goesBy_219 <|
z_aload_n X 0 dX12_goesBy_220 rfl <|
z_getR (q := 1) X dX12_goesBy_221 fl_X12_7 sm_0 rfl <|
z_iconst X dX12_goesBy_224 <|
z_iald X dX12_goesBy_225 sm_1 kc_1 o fun v86 r87 o =>
z_iconst X dX12_goesBy_226 <|
z_iadd X dX12_goesBy_227 <|
z_bipush X dX12_goesBy_228 bi_60 <|
z_irem X dX12_goesBy_230 (w32_rg _) kc_60 o fun z88 o =>
z_iast X dX12_goesBy_231 sm_1 kc_1 (irm_rg kc_60 z88) o fun s89 o =>
z_aload_n X 0 dX12_goesBy_232 rfl <|
z_getR (q := 1) X dX12_goesBy_233 fl_X12_7 sm_0 rfl <|
z_iconst X dX12_goesBy_236 <|
z_iald X dX12_goesBy_237 sm_1 kc_1 o fun v90 r91 o =>
z_if_le (tgt := 243) X dX12_goesBy_238 (by decide) r91 o (fun o =>
z_iconst X dX12_goesBy_243 <|
z_istore_n (L1 := [(2, .int (pI 0)), (0, .ref (G.2.2.1 0)), (1, .int (pI y31))]) X dX12_goesBy_244 rfl (by decide) rfl <|
z_join o (fun (y100 : Unit) s101 => True → At E s101 264 [(0, .ref (G.2.2.1 0)), (1, .int (pI y31))] []) (fun y100 s101 o r102 =>
z_aload_n X 0 dX12_goesBy_264 rfl <|
z_getR (q := 1) X dX12_goesBy_265 fl_X12_7 sm_0 rfl <|
z_iconst X dX12_goesBy_268 <|
z_aload_n X 0 dX12_goesBy_269 rfl <|
z_getR (q := 1) X dX12_goesBy_270 fl_X12_7 sm_0 rfl <|
z_iconst X dX12_goesBy_273 <|
z_iald X dX12_goesBy_274 sm_1 kc_0 o fun v103 r104 o =>
z_iconst X dX12_goesBy_275 <|
z_iadd X dX12_goesBy_276 <|
z_iast X dX12_goesBy_277 sm_1 kc_0 (w32_rg _) o fun s105 o =>
z_iload_n X 1 dX12_goesBy_278 rfl <|
z_iret X Y dX12_goesBy_279 o r33) fun o =>
z_sub (L1 := [(0, .ref (G.2.2.1 0)), (1, .int (pI y31)), (2, .int (pI 0))]) X [1, 2, 0] rfl <|
z_iter (fun (x92 : Int) s93 => rg x92 → At E s93 245 [(0, .ref (G.2.2.1 0)), (1, .int (pI y31)), (2, .int (pI x92))] []) o (fun x92 s93 o r94 =>
z_iload_n X 2 dX12_goesBy_245 rfl <|
z_aload_n X 0 dX12_goesBy_246 rfl <|
z_getI X dX12_goesBy_247 fl_X12_199 sm_0 rfl o fun v95 r96 o =>
z_icmp_ge (tgt := 264) X dX12_goesBy_250 (by decide) r94 r96 o (fun o =>
z_sub (L1 := [(0, .ref (G.2.2.1 0)), (1, .int (pI y31))]) X [0, 1] rfl <|
ok_some o trivial) fun o =>
z_aload_n X 0 dX12_goesBy_253 rfl <|
z_iload_n X 2 dX12_goesBy_254 rfl <|
z_callvV X dX12_goesBy_255 q_2038 wX12_getsUp sm_0 rfl (by decide) [.int (pI x92)] [] rfl rfl (Nat.le_of_ble_eq_true rfl) (fun r σ1 e => ct_X12_getsUp x92 r94 G _ r σ1 e) o fun r97 s98 o =>
z_iinc (L1 := [(2, .int (pI (w32 (x92 + 1)))), (0, .ref (G.2.2.1 0)), (1, .int (pI y31))]) X 2 dX12_goesBy_258 rfl (by decide) rfl <|
z_goto (tgt := 245) X dX12_goesBy_261 (by decide) <|
z_sub (L1 := [(0, .ref (G.2.2.1 0)), (1, .int (pI y31)), (2, .int (pI (w32 (x92 + 1))))]) X [1, 2, 0] rfl <|
ok_some o (w32_rg _)) kc_0) fun o =>
z_iload_n X 1 dX12_goesBy_241 rfl <|
z_iret X Y dX12_goesBy_242 o r33) fun o =>
z_sub (L1 := [(0, .ref (G.2.2.1 0)), (1, .int (pI y31)), (2, .int (pI 0))]) X [1, 2, 0] rfl <|
z_iter (fun (x66 : Int) s67 => rg x66 → At E s67 163 [(0, .ref (G.2.2.1 0)), (1, .int (pI y31)), (2, .int (pI x66))] []) o (fun x66 s67 o r68 =>
z_iload_n X 2 dX12_goesBy_163 rfl <|
z_aload_n X 0 dX12_goesBy_164 rfl <|
z_getI X dX12_goesBy_165 fl_X12_196 sm_0 rfl o fun v69 r70 o =>
z_icmp_ge (tgt := 215) X dX12_goesBy_168 (by decide) r68 r70 o (fun o =>
z_sub (L1 := [(0, .ref (G.2.2.1 0)), (1, .int (pI y31))]) X [0, 1] rfl <|
ok_some o trivial) fun o =>
z_aload_n X 0 dX12_goesBy_171 rfl <|
z_iload_n X 2 dX12_goesBy_172 rfl <|
z_callvI X dX12_goesBy_173 q_2014 wX12_sittersOn sm_0 rfl (by decide) [.int (pI x66)] [] rfl rfl (Nat.le_of_ble_eq_true rfl) (fun r σ1 e => ct_X12_sittersOn x66 r68 G _ r σ1 e) o fun r71 s72 h73 o =>
z_if_ne (tgt := 209) X dX12_goesBy_176 (by decide) h73 o (fun o =>
z_iinc (L1 := [(2, .int (pI (w32 (x66 + 1)))), (0, .ref (G.2.2.1 0)), (1, .int (pI y31))]) X 2 dX12_goesBy_209 rfl (by decide) rfl <|
z_goto (tgt := 163) X dX12_goesBy_212 (by decide) <|
z_sub (L1 := [(0, .ref (G.2.2.1 0)), (1, .int (pI y31)), (2, .int (pI (w32 (x66 + 1))))]) X [1, 2, 0] rfl <|
ok_some o (w32_rg _)) fun o =>
z_aload_n X 0 dX12_goesBy_179 rfl <|
z_getR (q := 1) X dX12_goesBy_180 fl_X12_7 sm_0 rfl <|
z_bipush X dX12_goesBy_183 bi_17 <|
z_iload_n X 2 dX12_goesBy_185 rfl <|
z_iadd X dX12_goesBy_186 <|
z_aload_n X 0 dX12_goesBy_187 rfl <|
z_bipush X dX12_goesBy_188 bi_99 <|
z_aload_n X 0 dX12_goesBy_190 rfl <|
z_getR (q := 1) X dX12_goesBy_191 fl_X12_7 sm_0 rfl <|
z_bipush X dX12_goesBy_194 bi_17 <|
z_iload_n X 2 dX12_goesBy_196 rfl <|
z_iadd X dX12_goesBy_197 <|
z_iald X dX12_goesBy_198 sm_1 (w32_rg _) o fun v74 r75 o =>
z_aload_n X 0 dX12_goesBy_199 rfl <|
z_iload_n X 2 dX12_goesBy_200 rfl <|
z_callvI X dX12_goesBy_201 q_2116 wX12_spinsOf sm_0 rfl (by decide) [.int (pI x66)] [.int (pI v74), .int (pI 99), .ref (G.2.2.1 0), .int (pI (w32 (17 + x66))), .ref (G.2.2.1 1)] rfl rfl (Nat.le_of_ble_eq_true rfl) (fun r σ1 e => ct_X12_spinsOf x66 r68 G _ r σ1 e) o fun r76 s77 h78 o =>
z_iadd X dX12_goesBy_204 <|
z_callvI X dX12_goesBy_205 q_2120 wX12_lesser sm_0 rfl (by decide) [.int (pI 99), .int (pI (w32 (v74 + r76)))] [.int (pI (w32 (17 + x66))), .ref (G.2.2.1 1)] rfl rfl (Nat.le_of_ble_eq_true rfl) (fun r σ1 e => ct_X12_lesser 99 (w32 (v74 + r76)) kc_99 (w32_rg _) G _ r σ1 e) o fun r79 s80 h81 o =>
z_iast X dX12_goesBy_208 sm_1 (w32_rg _) h81 o fun s82 o =>
z_iinc (L1 := [(2, .int (pI (w32 (x66 + 1)))), (0, .ref (G.2.2.1 0)), (1, .int (pI y31))]) X 2 dX12_goesBy_209 rfl (by decide) rfl <|
z_goto (tgt := 163) X dX12_goesBy_212 (by decide) <|
z_sub (L1 := [(0, .ref (G.2.2.1 0)), (1, .int (pI y31)), (2, .int (pI (w32 (x66 + 1))))]) X [1, 2, 0] rfl <|
ok_some o (w32_rg _)) kc_0) fun o =>
z_sub (L1 := [(0, .ref (G.2.2.1 0)), (1, .int (pI y31)), (2, .int (pI 0))]) X [1, 2, 0] rfl <|
z_iter (fun (x55 : Int) s56 => rg x55 → At E s56 142 [(0, .ref (G.2.2.1 0)), (1, .int (pI y31)), (2, .int (pI x55))] []) o (fun x55 s56 o r57 =>
z_iload_n X 2 dX12_goesBy_142 rfl <|
z_aload_n X 0 dX12_goesBy_143 rfl <|
z_getI X dX12_goesBy_144 fl_X12_196 sm_0 rfl o fun v58 r59 o =>
z_icmp_ge (tgt := 161) X dX12_goesBy_147 (by decide) r57 r59 o (fun o =>
z_sub (L1 := [(0, .ref (G.2.2.1 0)), (1, .int (pI y31))]) X [0, 1] rfl <|
ok_some o trivial) fun o =>
z_aload_n X 0 dX12_goesBy_150 rfl <|
z_iload_n X 2 dX12_goesBy_151 rfl <|
z_callvV X dX12_goesBy_152 q_2112 wX12_lampBurns sm_0 rfl (by decide) [.int (pI x55)] [] rfl rfl (Nat.le_of_ble_eq_true rfl) (fun r σ1 e => ct_X12_lampBurns x55 r57 G _ r σ1 e) o fun r60 s61 o =>
z_iinc (L1 := [(2, .int (pI (w32 (x55 + 1)))), (0, .ref (G.2.2.1 0)), (1, .int (pI y31))]) X 2 dX12_goesBy_155 rfl (by decide) rfl <|
z_goto (tgt := 142) X dX12_goesBy_158 (by decide) <|
z_sub (L1 := [(0, .ref (G.2.2.1 0)), (1, .int (pI y31)), (2, .int (pI (w32 (x55 + 1))))]) X [1, 2, 0] rfl <|
ok_some o (w32_rg _)) kc_0) fun o =>
z_sub (L1 := [(0, .ref (G.2.2.1 0)), (1, .int (pI y31)), (2, .int (pI 0))]) X [1, 2, 0] rfl <|
z_iter (fun (x34 : Int) s35 => rg x34 → At E s35 69 [(0, .ref (G.2.2.1 0)), (1, .int (pI y31)), (2, .int (pI x34))] []) o (fun x34 s35 o r36 =>
z_iload_n X 2 dX12_goesBy_69 rfl <|
z_aload_n X 0 dX12_goesBy_70 rfl <|
z_getI X dX12_goesBy_71 fl_X12_199 sm_0 rfl o fun v37 r38 o =>
z_icmp_ge (tgt := 140) X dX12_goesBy_74 (by decide) r36 r38 o (fun o =>
z_sub (L1 := [(0, .ref (G.2.2.1 0)), (1, .int (pI y31))]) X [0, 1] rfl <|
ok_some o trivial) fun o =>
z_aload_n X 0 dX12_goesBy_77 rfl <|
z_iload_n X 2 dX12_goesBy_78 rfl <|
z_callvI X dX12_goesBy_79 q_2010 wX12_doesSit sm_0 rfl (by decide) [.int (pI x34)] [] rfl rfl (Nat.le_of_ble_eq_true rfl) (fun r σ1 e => ct_X12_doesSit x34 r36 G _ r σ1 e) o fun r39 s40 h41 o =>
z_if_ne (tgt := 88) X dX12_goesBy_82 (by decide) (r01_rg h41) o (fun o =>
z_aload_n X 0 dX12_goesBy_88 rfl <|
z_getR (q := 1) X dX12_goesBy_89 fl_X12_7 sm_0 rfl <|
z_bipush X dX12_goesBy_92 bi_61 <|
z_iload_n X 2 dX12_goesBy_94 rfl <|
z_iadd X dX12_goesBy_95 <|
z_aload_n X 0 dX12_goesBy_96 rfl <|
z_getR (q := 1) X dX12_goesBy_97 fl_X12_7 sm_0 rfl <|
z_bipush X dX12_goesBy_100 bi_61 <|
z_iload_n X 2 dX12_goesBy_102 rfl <|
z_iadd X dX12_goesBy_103 <|
z_iald X dX12_goesBy_104 sm_1 (w32_rg _) o fun v42 r43 o =>
z_iconst X dX12_goesBy_105 <|
z_iadd X dX12_goesBy_106 <|
z_iast X dX12_goesBy_107 sm_1 (w32_rg _) (w32_rg _) o fun s44 o =>
z_aload_n X 0 dX12_goesBy_108 rfl <|
z_getR (q := 1) X dX12_goesBy_109 fl_X12_7 sm_0 rfl <|
z_bipush X dX12_goesBy_112 bi_61 <|
z_iload_n X 2 dX12_goesBy_114 rfl <|
z_iadd X dX12_goesBy_115 <|
z_iald X dX12_goesBy_116 sm_1 (w32_rg _) o fun v45 r46 o =>
z_aload_n X 0 dX12_goesBy_117 rfl <|
z_getR (q := 1) X dX12_goesBy_118 fl_X12_7 sm_0 rfl <|
z_bipush X dX12_goesBy_121 bi_81 <|
z_iload_n X 2 dX12_goesBy_123 rfl <|
z_iadd X dX12_goesBy_124 <|
z_iald X dX12_goesBy_125 sm_1 (w32_rg _) o fun v47 r48 o =>
z_icmp_lt (tgt := 134) X dX12_goesBy_126 (by decide) r46 r48 o (fun o =>
z_iinc (L1 := [(2, .int (pI (w32 (x34 + 1)))), (0, .ref (G.2.2.1 0)), (1, .int (pI y31))]) X 2 dX12_goesBy_134 rfl (by decide) rfl <|
z_goto (tgt := 69) X dX12_goesBy_137 (by decide) <|
z_sub (L1 := [(0, .ref (G.2.2.1 0)), (1, .int (pI y31)), (2, .int (pI (w32 (x34 + 1))))]) X [1, 2, 0] rfl <|
ok_some o (w32_rg _)) fun o =>
z_aload_n X 0 dX12_goesBy_129 rfl <|
z_iload_n X 2 dX12_goesBy_130 rfl <|
z_callvV X dX12_goesBy_131 q_2038 wX12_getsUp sm_0 rfl (by decide) [.int (pI x34)] [] rfl rfl (Nat.le_of_ble_eq_true rfl) (fun r σ1 e => ct_X12_getsUp x34 r36 G _ r σ1 e) o fun r49 s50 o =>
z_iinc (L1 := [(2, .int (pI (w32 (x34 + 1)))), (0, .ref (G.2.2.1 0)), (1, .int (pI y31))]) X 2 dX12_goesBy_134 rfl (by decide) rfl <|
z_goto (tgt := 69) X dX12_goesBy_137 (by decide) <|
z_sub (L1 := [(0, .ref (G.2.2.1 0)), (1, .int (pI y31)), (2, .int (pI (w32 (x34 + 1))))]) X [1, 2, 0] rfl <|
ok_some o (w32_rg _)) fun o =>
z_goto (tgt := 134) X dX12_goesBy_85 (by decide) <|
z_iinc (L1 := [(2, .int (pI (w32 (x34 + 1)))), (0, .ref (G.2.2.1 0)), (1, .int (pI y31))]) X 2 dX12_goesBy_134 rfl (by decide) rfl <|
z_goto (tgt := 69) X dX12_goesBy_137 (by decide) <|
z_sub (L1 := [(0, .ref (G.2.2.1 0)), (1, .int (pI y31)), (2, .int (pI (w32 (x34 + 1))))]) X [1, 2, 0] rfl <|
ok_some o (w32_rg _)) kc_0) fun o =>
z_sub (L1 := [(0, .ref (G.2.2.1 0)), (1, .int (pI 0)), (2, .int (pI 0))]) X [2, 1, 0] rfl <|
z_iter (fun (x12 : Int × Int) s13 => rg x12.1 ∧ rg x12.2 → At E s13 21 [(0, .ref (G.2.2.1 0)), (1, .int (pI x12.1)), (2, .int (pI x12.2))] []) o (fun x12 s13 o r14 =>
z_iload_n X 2 dX12_goesBy_21 rfl <|
z_aload_n X 0 dX12_goesBy_22 rfl <|
z_getI X dX12_goesBy_23 fl_X12_199 sm_0 rfl o fun v15 r16 o =>
z_icmp_ge (tgt := 67) X dX12_goesBy_26 (by decide) r14.2 r16 o (fun o =>
z_sub (L1 := [(0, .ref (G.2.2.1 0)), (1, .int (pI x12.1))]) X [0, 1] rfl <|
ok_some o r14.1) fun o =>
z_aload_n X 0 dX12_goesBy_29 rfl <|
z_iload_n X 2 dX12_goesBy_30 rfl <|
z_callvI X dX12_goesBy_31 q_2010 wX12_doesSit sm_0 rfl (by decide) [.int (pI x12.2)] [] rfl rfl (Nat.le_of_ble_eq_true rfl) (fun r σ1 e => ct_X12_doesSit x12.2 r14.2 G _ r σ1 e) o fun r17 s18 h19 o =>
z_if_eq (tgt := 61) X dX12_goesBy_34 (by decide) (r01_rg h19) o (fun o =>
z_iinc (L1 := [(2, .int (pI (w32 (x12.2 + 1)))), (0, .ref (G.2.2.1 0)), (1, .int (pI x12.1))]) X 2 dX12_goesBy_61 rfl (by decide) rfl <|
z_goto (tgt := 21) X dX12_goesBy_64 (by decide) <|
z_sub (L1 := [(0, .ref (G.2.2.1 0)), (1, .int (pI x12.1)), (2, .int (pI (w32 (x12.2 + 1))))]) X [1, 2, 0] rfl <|
ok_some o ⟨r14.1, (w32_rg _)⟩) fun o =>
z_aload_n X 0 dX12_goesBy_37 rfl <|
z_aload_n X 0 dX12_goesBy_38 rfl <|
z_iload_n X 2 dX12_goesBy_39 rfl <|
z_callvI X dX12_goesBy_40 q_2062 wX12_speaksOf sm_0 rfl (by decide) [.int (pI x12.2)] [.ref (G.2.2.1 0)] rfl rfl (Nat.le_of_ble_eq_true rfl) (fun r σ1 e => ct_X12_speaksOf x12.2 r14.2 G _ r σ1 e) o fun r20 s21 h22 o =>
z_callvI X dX12_goesBy_43 q_2090 wX12_happens sm_0 rfl (by decide) [.int (pI r20)] [] rfl rfl (Nat.le_of_ble_eq_true rfl) (fun r σ1 e => ct_X12_happens r20 h22 G _ r σ1 e) o fun r23 s24 h25 o =>
z_if_ne (tgt := 52) X dX12_goesBy_46 (by decide) (r01_rg h25) o (fun o =>
z_aload_n X 0 dX12_goesBy_52 rfl <|
z_iload_n X 2 dX12_goesBy_53 rfl <|
z_callvV X dX12_goesBy_54 q_2100 wX12_isSpoken sm_0 rfl (by decide) [.int (pI x12.2)] [] rfl rfl (Nat.le_of_ble_eq_true rfl) (fun r σ1 e => ct_X12_isSpoken x12.2 r14.2 G _ r σ1 e) o fun r26 s27 o =>
z_iload_n X 1 dX12_goesBy_57 rfl <|
z_iconst X dX12_goesBy_58 <|
z_iadd X dX12_goesBy_59 <|
z_istoreL_n (L1 := fun v29 => [(1, .int (pI v29)), (0, .ref (G.2.2.1 0)), (2, .int (pI x12.2))]) (R := rg) X dX12_goesBy_60 rfl (by decide) (fun _ => rfl) o (w32_rg _) fun v29 r30 o =>
z_iinc (L1 := [(2, .int (pI (w32 (x12.2 + 1)))), (1, .int (pI v29)), (0, .ref (G.2.2.1 0))]) X 2 dX12_goesBy_61 rfl (by decide) rfl <|
z_goto (tgt := 21) X dX12_goesBy_64 (by decide) <|
z_sub (L1 := [(0, .ref (G.2.2.1 0)), (1, .int (pI v29)), (2, .int (pI (w32 (x12.2 + 1))))]) X [2, 1, 0] rfl <|
ok_some o ⟨r30, (w32_rg _)⟩) fun o =>
z_goto (tgt := 61) X dX12_goesBy_49 (by decide) <|
z_iinc (L1 := [(2, .int (pI (w32 (x12.2 + 1)))), (0, .ref (G.2.2.1 0)), (1, .int (pI x12.1))]) X 2 dX12_goesBy_61 rfl (by decide) rfl <|
z_goto (tgt := 21) X dX12_goesBy_64 (by decide) <|
z_sub (L1 := [(0, .ref (G.2.2.1 0)), (1, .int (pI x12.1)), (2, .int (pI (w32 (x12.2 + 1))))]) X [1, 2, 0] rfl <|
ok_some o ⟨r14.1, (w32_rg _)⟩) ⟨kc_0, kc_0⟩) fun o =>
z_if_ne (tgt := 13) X dX12_goesBy_6 (by decide) r2 o (fun o =>
ok_some o trivial) fun o =>
z_aload_n X 0 dX12_goesBy_9 rfl <|
z_callvV X dX12_goesBy_10 q_2054 wX12_begins sm_0 rfl (by decide) [] [] rfl rfl (Nat.le_of_ble_eq_true rfl) (fun r σ1 e => ct_X12_begins G _ r σ1 e) o fun r3 s4 o =>
ok_some o trivial : At E s0 0 [(0, .ref (G.2.2.1 0))] [])
