set_option maxHeartbeats 4000000 in
set_option maxRecDepth 100000 in
theorem ct_X12_sumOf (p1 : Int) (p2 : Int) (hp1 : rg p1) (hp2 : rg p2) (G : Gw) (s0 : St) (r : Int) (σ1 : St) (e : fX12_sumOf p1 p2 s0 = some (r, σ1)) : Ct yX12_sumOf cX12_sumOf 5 (some .int) 0 0 SM G [.ref (G.2.2.1 0), .int (pI p1), .int (pI p2)] s0 (QI SM G r rg σ1) :=
  Ct.of (by decide +kernel) (Nat.le_of_ble_eq_true rfl) fun E X Y => by
    have o : Ok (fX12_sumOf p1 p2 s0) (fun x σ' => x = r ∧ σ' = σ1) := ⟨r, σ1, e, rfl, rfl⟩
    unfold fX12_sumOf at o
    exact (
z_iconst X dX12_sumOf_0 <|
z_istore_n (L1 := [(3, .int (pI 0)), (0, .ref (G.2.2.1 0)), (1, .int (pI p1)), (2, .int (pI p2))]) X dX12_sumOf_1 rfl (by decide) rfl <|
z_iconst X dX12_sumOf_2 <|
z_istore (L1 := [(4, .int (pI 0)), (3, .int (pI 0)), (0, .ref (G.2.2.1 0)), (1, .int (pI p1)), (2, .int (pI p2))]) X dX12_sumOf_3 (by decide) rfl <|
z_join o (fun (y8 : Int) s9 => rg y8 → At E s9 29 [(3, .int (pI y8))] []) (fun y8 s9 o r10 =>
z_iload_n X 0 dX12_sumOf_29 rfl <|
z_iret X Y dX12_sumOf_30 o r10) fun o =>
z_sub (L1 := [(0, .ref (G.2.2.1 0)), (1, .int (pI p1)), (2, .int (pI p2)), (3, .int (pI 0)), (4, .int (pI 0))]) X [2, 3, 4, 1, 0] rfl <|
z_iter (fun (x1 : Int × Int) s2 => rg x1.1 ∧ rg x1.2 → At E s2 5 [(0, .ref (G.2.2.1 0)), (1, .int (pI p1)), (2, .int (pI p2)), (3, .int (pI x1.1)), (4, .int (pI x1.2))] []) o (fun x1 s2 o r3 =>
z_iload X 4 dX12_sumOf_5 rfl <|
z_iload_n X 2 dX12_sumOf_7 rfl <|
z_icmp_ge (tgt := 29) X dX12_sumOf_8 (by decide) r3.2 hp2 o (fun o =>
z_sub (L1 := [(3, .int (pI x1.1))]) X [3] rfl <|
ok_some o r3.1) fun o =>
z_iload_n X 3 dX12_sumOf_11 rfl <|
z_aload_n X 0 dX12_sumOf_12 rfl <|
z_getR (q := 1) X dX12_sumOf_13 fl_X12_7 sm_0 rfl <|
z_iload_n X 1 dX12_sumOf_16 rfl <|
z_iload X 4 dX12_sumOf_17 rfl <|
z_iadd X dX12_sumOf_19 <|
z_iald X dX12_sumOf_20 sm_1 (w32_rg _) o fun v4 r5 o =>
z_iadd X dX12_sumOf_21 <|
z_istoreL_n (L1 := fun v6 => [(3, .int (pI v6)), (0, .ref (G.2.2.1 0)), (1, .int (pI p1)), (2, .int (pI p2)), (4, .int (pI x1.2))]) (R := rg) X dX12_sumOf_22 rfl (by decide) (fun _ => rfl) o (w32_rg _) fun v6 r7 o =>
z_iinc (L1 := [(4, .int (pI (w32 (x1.2 + 1)))), (3, .int (pI v6)), (0, .ref (G.2.2.1 0)), (1, .int (pI p1)), (2, .int (pI p2))]) X 4 dX12_sumOf_23 rfl (by decide) rfl <|
z_goto (tgt := 5) X dX12_sumOf_26 (by decide) <|
z_sub (L1 := [(0, .ref (G.2.2.1 0)), (1, .int (pI p1)), (2, .int (pI p2)), (3, .int (pI v6)), (4, .int (pI (w32 (x1.2 + 1))))]) X [2, 3, 4, 1, 0] rfl <|
ok_some o ⟨r7, (w32_rg _)⟩) ⟨kc_0, kc_0⟩ : At E s0 0 [(0, .ref (G.2.2.1 0)), (1, .int (pI p1)), (2, .int (pI p2))] [])
set_option maxHeartbeats 4000000 in
set_option maxRecDepth 100000 in
theorem ct_X12_goes (p1 : Int) (p2 : Int) (hp1 : rg p1) (hp2 : rg p2) (G : Gw) (s0 : St) (r : Int) (σ1 : St) (e : fX12_goes p1 p2 s0 = some (r, σ1)) : Ct yX12_goes cX12_goes 4 (some .int) 7 163 SM G [.ref (G.2.2.1 0), .int (pI p1), .int (pI p2)] s0 (QI SM G r rg σ1) :=
  Ct.of (by decide +kernel) (Nat.le_of_ble_eq_true rfl) fun E X Y => by
    have o : Ok (fX12_goes p1 p2 s0) (fun x σ' => x = r ∧ σ' = σ1) := ⟨r, σ1, e, rfl, rfl⟩
    unfold fX12_goes at o
    exact (
z_aload_n X 0 dX12_goes_0 rfl <|
z_iconst X dX12_goes_1 <|
z_putI X dX12_goes_2 fl_X12_183 sm_0 ft_X12_0 rfl kc_0 o fun s1 o =>
z_aload_n X 0 dX12_goes_5 rfl <|
z_iload_n X 1 dX12_goes_6 rfl <|
z_iconst X dX12_goes_7 <|
z_bipush X dX12_goes_8 bi_60 <|
z_callvI X dX12_goes_10 q_1822 wX12_isIn sm_0 rfl (by decide) [.int (pI p1), .int (pI 1), .int (pI 60)] [] rfl rfl (Nat.le_of_ble_eq_true rfl) (fun r σ1 e => ct_X12_isIn p1 1 60 hp1 kc_1 kc_60 G _ r σ1 e) o fun r2 s3 h4 o =>
z_if_eq (tgt := 26) X dX12_goes_13 (by decide) (r01_rg h4) o (fun o =>
z_iconst X dX12_goes_26 <|
z_iret X Y dX12_goes_27 o kc_m1) fun o =>
z_aload_n X 0 dX12_goes_16 rfl <|
z_iload_n X 2 dX12_goes_17 rfl <|
z_iconst X dX12_goes_18 <|
z_iconst X dX12_goes_19 <|
z_callvI X dX12_goes_20 q_1822 wX12_isIn sm_0 rfl (by decide) [.int (pI p2), .int (pI 0), .int (pI 3)] [] rfl rfl (Nat.le_of_ble_eq_true rfl) (fun r σ1 e => ct_X12_isIn p2 0 3 hp2 kc_0 kc_3 G _ r σ1 e) o fun r5 s6 h7 o =>
z_if_ne (tgt := 28) X dX12_goes_23 (by decide) (r01_rg h7) o (fun o =>
z_aload_n X 0 dX12_goes_28 rfl <|
z_callvV X dX12_goes_29 q_2144 wX12_thinks sm_0 rfl (by decide) [] [] rfl rfl (Nat.le_of_ble_eq_true rfl) (fun r σ1 e => ct_X12_thinks G _ r σ1 e) o fun r8 s9 o =>
z_iconst X dX12_goes_32 <|
z_istore_n (L1 := [(3, .int (pI 0)), (0, .ref (G.2.2.1 0)), (1, .int (pI p1)), (2, .int (pI p2))]) X dX12_goes_33 rfl (by decide) rfl <|
z_join o (fun (y17 : Unit) s18 => True → At E s18 50 [(0, .ref (G.2.2.1 0)), (2, .int (pI p2))] []) (fun y17 s18 o r19 =>
z_iload_n X 1 dX12_goes_50 rfl <|
z_join o (fun (y40 : Int) s41 => rg y40 → At E s41 112 [(0, .ref (G.2.2.1 0))] [.int (pI y40)]) (fun y40 s41 o r42 =>
z_istore_n (L1 := [(3, .int (pI y40)), (0, .ref (G.2.2.1 0))]) X dX12_goes_112 rfl (by decide) rfl <|
z_aload_n X 1 dX12_goes_113 rfl <|
z_callvV X dX12_goes_114 q_2152 wX12_endsThought sm_0 rfl (by decide) [] [] rfl rfl (Nat.le_of_ble_eq_true rfl) (fun r σ1 e => ct_X12_endsThought G _ r σ1 e) o fun r43 s44 o =>
z_iload_n X 0 dX12_goes_117 rfl <|
z_iret X Y dX12_goes_118 o r42) fun o =>
z_if_ne (tgt := 67) X dX12_goes_51 (by decide) hp2 o (fun o =>
z_iload_n X 1 dX12_goes_67 rfl <|
z_iconst X dX12_goes_68 <|
z_icmp_ne (tgt := 85) X dX12_goes_69 (by decide) hp2 kc_1 o (fun o =>
z_iload_n X 1 dX12_goes_85 rfl <|
z_iconst X dX12_goes_86 <|
z_icmp_ne (tgt := 103) X dX12_goes_87 (by decide) hp2 kc_2 o (fun o =>
z_aload_n X 0 dX12_goes_103 rfl <|
z_iconst X dX12_goes_104 <|
z_aload_n X 0 dX12_goes_105 rfl <|
z_getI X dX12_goes_106 fl_X12_196 sm_0 rfl o fun v20 r21 o =>
z_callvI X dX12_goes_109 q_2148 wX12_sumOf sm_0 rfl (by decide) [.int (pI 5), .int (pI v20)] [] rfl rfl (Nat.le_of_ble_eq_true rfl) (fun r σ1 e => ct_X12_sumOf 5 v20 kc_5 r21 G _ r σ1 e) o fun r22 s23 h24 o =>
z_sub (L1 := [(0, .ref (G.2.2.1 0))]) X [0] rfl <|
ok_some o h24) fun o =>
z_aload_n X 0 dX12_goes_90 rfl <|
z_bipush X dX12_goes_91 bi_17 <|
z_aload_n X 0 dX12_goes_93 rfl <|
z_getI X dX12_goes_94 fl_X12_196 sm_0 rfl o fun v25 r26 o =>
z_callvI X dX12_goes_97 q_2148 wX12_sumOf sm_0 rfl (by decide) [.int (pI 17), .int (pI v25)] [] rfl rfl (Nat.le_of_ble_eq_true rfl) (fun r σ1 e => ct_X12_sumOf 17 v25 kc_17 r26 G _ r σ1 e) o fun r27 s28 h29 o =>
z_goto (tgt := 112) X dX12_goes_100 (by decide) <|
z_sub (L1 := [(0, .ref (G.2.2.1 0))]) X [0] rfl <|
ok_some o h29) fun o =>
z_aload_n X 0 dX12_goes_72 rfl <|
z_bipush X dX12_goes_73 bi_121 <|
z_aload_n X 0 dX12_goes_75 rfl <|
z_getI X dX12_goes_76 fl_X12_199 sm_0 rfl o fun v30 r31 o =>
z_callvI X dX12_goes_79 q_2148 wX12_sumOf sm_0 rfl (by decide) [.int (pI 121), .int (pI v30)] [] rfl rfl (Nat.le_of_ble_eq_true rfl) (fun r σ1 e => ct_X12_sumOf 121 v30 kc_121 r31 G _ r σ1 e) o fun r32 s33 h34 o =>
z_goto (tgt := 112) X dX12_goes_82 (by decide) <|
z_sub (L1 := [(0, .ref (G.2.2.1 0))]) X [0] rfl <|
ok_some o h34) fun o =>
z_aload_n X 0 dX12_goes_54 rfl <|
z_bipush X dX12_goes_55 bi_101 <|
z_aload_n X 0 dX12_goes_57 rfl <|
z_getI X dX12_goes_58 fl_X12_199 sm_0 rfl o fun v35 r36 o =>
z_callvI X dX12_goes_61 q_2148 wX12_sumOf sm_0 rfl (by decide) [.int (pI 101), .int (pI v35)] [] rfl rfl (Nat.le_of_ble_eq_true rfl) (fun r σ1 e => ct_X12_sumOf 101 v35 kc_101 r36 G _ r σ1 e) o fun r37 s38 h39 o =>
z_goto (tgt := 112) X dX12_goes_64 (by decide) <|
z_sub (L1 := [(0, .ref (G.2.2.1 0))]) X [0] rfl <|
ok_some o h39) fun o =>
z_sub (L1 := [(0, .ref (G.2.2.1 0)), (1, .int (pI p1)), (2, .int (pI p2)), (3, .int (pI 0))]) X [1, 2, 3, 0] rfl <|
z_iter (fun (x11 : Int) s12 => rg x11 → At E s12 34 [(0, .ref (G.2.2.1 0)), (1, .int (pI p1)), (2, .int (pI p2)), (3, .int (pI x11))] []) o (fun x11 s12 o r13 =>
z_iload_n X 3 dX12_goes_34 rfl <|
z_iload_n X 1 dX12_goes_35 rfl <|
z_icmp_ge (tgt := 50) X dX12_goes_36 (by decide) r13 hp1 o (fun o =>
z_sub (L1 := [(0, .ref (G.2.2.1 0)), (2, .int (pI p2))]) X [0, 2] rfl <|
ok_some o trivial) fun o =>
z_aload_n X 0 dX12_goes_39 rfl <|
z_callvI X dX12_goes_40 q_2050 wX12_goesBy sm_0 rfl (by decide) [] [] rfl rfl (Nat.le_of_ble_eq_true rfl) (fun r σ1 e => ct_X12_goesBy G _ r σ1 e) o fun r14 s15 h16 o =>
z_pop X dX12_goes_43 rfl <|
z_iinc (L1 := [(3, .int (pI (w32 (x11 + 1)))), (0, .ref (G.2.2.1 0)), (1, .int (pI p1)), (2, .int (pI p2))]) X 3 dX12_goes_44 rfl (by decide) rfl <|
z_goto (tgt := 34) X dX12_goes_47 (by decide) <|
z_sub (L1 := [(0, .ref (G.2.2.1 0)), (1, .int (pI p1)), (2, .int (pI p2)), (3, .int (pI (w32 (x11 + 1))))]) X [1, 2, 3, 0] rfl <|
ok_some o (w32_rg _)) kc_0) fun o =>
z_iconst X dX12_goes_26 <|
z_iret X Y dX12_goes_27 o kc_m1 : At E s0 0 [(0, .ref (G.2.2.1 0)), (1, .int (pI p1)), (2, .int (pI p2))] [])
set_option maxHeartbeats 4000000 in
set_option maxRecDepth 100000 in
theorem ct_X12_goesToNextOrder (p1 : Int) (hp1 : rg p1) (G : Gw) (s0 : St) (r : Int) (σ1 : St) (e : fX12_goesToNextOrder p1 s0 = some (r, σ1)) : Ct yX12_goesToNextOrder cX12_goesToNextOrder 7 (some .boolean) 0 0 SM G [.ref (G.2.2.1 0), .int (pI p1)] s0 (QI SM G r r01 σ1) :=
  Ct.of (by decide +kernel) (Nat.le_of_ble_eq_true rfl) fun E X Y => by
    have o : Ok (fX12_goesToNextOrder p1 s0) (fun x σ' => x = r ∧ σ' = σ1) := ⟨r, σ1, e, rfl, rfl⟩
    unfold fX12_goesToNextOrder at o
    exact (
z_iload_n X 1 dX12_goesToNextOrder_0 rfl <|
z_iconst X dX12_goesToNextOrder_1 <|
z_isub X dX12_goesToNextOrder_2 <|
z_istoreL_n (L1 := fun v1 => [(2, .int (pI v1)), (0, .ref (G.2.2.1 0)), (1, .int (pI p1))]) (R := rg) X dX12_goesToNextOrder_3 rfl (by decide) (fun _ => rfl) o (w32_rg _) fun v1 r2 o =>
z_join o (fun (y12 : Int) s13 => rg y12 → At E s13 32 [(0, .ref (G.2.2.1 0)), (1, .int (pI p1)), (2, .int (pI y12))] []) (fun y12 s13 o r14 =>
z_iload_n X 2 dX12_goesToNextOrder_32 rfl <|
z_if_ge (tgt := 38) X dX12_goesToNextOrder_33 (by decide) r14 o (fun o =>
z_iload_n X 1 dX12_goesToNextOrder_38 rfl <|
z_iconst X dX12_goesToNextOrder_39 <|
z_isub X dX12_goesToNextOrder_40 <|
z_istoreL_n (L1 := fun v15 => [(3, .int (pI v15)), (0, .ref (G.2.2.1 0)), (1, .int (pI p1)), (2, .int (pI y12))]) (R := rg) X dX12_goesToNextOrder_41 rfl (by decide) (fun _ => rfl) o (w32_rg _) fun v15 r16 o =>
z_join o (fun (y26 : Int) s27 => rg y26 → At E s27 64 [(0, .ref (G.2.2.1 0)), (1, .int (pI p1)), (2, .int (pI y12)), (3, .int (pI y26))] []) (fun y26 s27 o r28 =>
z_aload_n X 0 dX12_goesToNextOrder_64 rfl <|
z_getR (q := 28) X dX12_goesToNextOrder_65 fl_X12_95 sm_0 rfl <|
z_iload_n X 2 dX12_goesToNextOrder_68 rfl <|
z_iald X dX12_goesToNextOrder_69 sm_28 r14 o fun v29 r30 o =>
z_istore (L1 := [(4, .int (pI v29)), (0, .ref (G.2.2.1 0)), (1, .int (pI p1)), (2, .int (pI y12)), (3, .int (pI y26))]) X dX12_goesToNextOrder_70 (by decide) rfl <|
z_aload_n X 1 dX12_goesToNextOrder_72 rfl <|
z_getR (q := 28) X dX12_goesToNextOrder_73 fl_X12_95 sm_0 rfl <|
z_iload_n X 3 dX12_goesToNextOrder_76 rfl <|
z_aload_n X 1 dX12_goesToNextOrder_77 rfl <|
z_getR (q := 28) X dX12_goesToNextOrder_78 fl_X12_95 sm_0 rfl <|
z_iload_n X 4 dX12_goesToNextOrder_81 rfl <|
z_iald X dX12_goesToNextOrder_82 sm_28 r28 o fun v31 r32 o =>
z_iast X dX12_goesToNextOrder_83 sm_28 r14 r32 o fun s33 o =>
z_aload_n X 1 dX12_goesToNextOrder_84 rfl <|
z_getR (q := 28) X dX12_goesToNextOrder_85 fl_X12_95 sm_0 rfl <|
z_iload_n X 4 dX12_goesToNextOrder_88 rfl <|
z_iload X 0 dX12_goesToNextOrder_89 rfl <|
z_iast X dX12_goesToNextOrder_91 sm_28 r28 r30 o fun s34 o =>
z_iload_n X 2 dX12_goesToNextOrder_92 rfl <|
z_iconst X dX12_goesToNextOrder_93 <|
z_isub X dX12_goesToNextOrder_94 <|
z_istoreL (L1 := fun v35 => [(5, .int (pI v35)), (4, .int (pI v29)), (0, .ref (G.2.2.1 0)), (1, .int (pI p1)), (2, .int (pI y12)), (3, .int (pI y26))]) (R := rg) X dX12_goesToNextOrder_95 (by decide) (fun _ => rfl) o (w32_rg _) fun v35 r36 o =>
z_iload_n X 4 dX12_goesToNextOrder_97 rfl <|
z_iconst X dX12_goesToNextOrder_98 <|
z_iadd X dX12_goesToNextOrder_99 <|
z_istoreL (L1 := fun v37 => [(6, .int (pI v37)), (5, .int (pI v35)), (4, .int (pI v29)), (0, .ref (G.2.2.1 0)), (1, .int (pI p1)), (2, .int (pI y12)), (3, .int (pI y26))]) (R := rg) X dX12_goesToNextOrder_100 (by decide) (fun _ => rfl) o (w32_rg _) fun v37 r38 o =>
z_join o (fun (y50 : Unit) s51 => True → At E s51 153 [] []) (fun y50 s51 o r52 =>
z_iconst X dX12_goesToNextOrder_153 <|
z_zret X Y dX12_goesToNextOrder_154 o kb_1 kb_1) fun o =>
z_sub (L1 := [(0, .ref (G.2.2.1 0)), (5, .int (pI v35)), (6, .int (pI v37))]) X [3, 1, 0] rfl <|
z_iter (fun (x39 : Int × Int) s40 => rg x39.1 ∧ rg x39.2 → At E s40 102 [(0, .ref (G.2.2.1 0)), (5, .int (pI x39.1)), (6, .int (pI x39.2))] []) o (fun x39 s40 o r41 =>
z_iload X 2 dX12_goesToNextOrder_102 rfl <|
z_iload X 1 dX12_goesToNextOrder_104 rfl <|
z_icmp_ge (tgt := 153) X dX12_goesToNextOrder_106 (by decide) r41.2 r41.1 o (fun o =>
z_sub (L1 := []) X [] rfl <|
ok_some o trivial) fun o =>
z_aload_n X 0 dX12_goesToNextOrder_109 rfl <|
z_getR (q := 28) X dX12_goesToNextOrder_110 fl_X12_95 sm_0 rfl <|
z_iload X 2 dX12_goesToNextOrder_113 rfl <|
z_iald X dX12_goesToNextOrder_115 sm_28 r41.2 o fun v42 r43 o =>
z_istore (L1 := [(4, .int (pI v42)), (0, .ref (G.2.2.1 0)), (5, .int (pI x39.1)), (6, .int (pI x39.2))]) X dX12_goesToNextOrder_116 (by decide) rfl <|
z_aload_n X 1 dX12_goesToNextOrder_118 rfl <|
z_getR (q := 28) X dX12_goesToNextOrder_119 fl_X12_95 sm_0 rfl <|
z_iload X 3 dX12_goesToNextOrder_122 rfl <|
z_aload_n X 1 dX12_goesToNextOrder_124 rfl <|
z_getR (q := 28) X dX12_goesToNextOrder_125 fl_X12_95 sm_0 rfl <|
z_iload X 2 dX12_goesToNextOrder_128 rfl <|
z_iald X dX12_goesToNextOrder_130 sm_28 r41.1 o fun v44 r45 o =>
z_iast X dX12_goesToNextOrder_131 sm_28 r41.2 r45 o fun s46 o =>
z_aload_n X 1 dX12_goesToNextOrder_132 rfl <|
z_getR (q := 28) X dX12_goesToNextOrder_133 fl_X12_95 sm_0 rfl <|
z_iload X 2 dX12_goesToNextOrder_136 rfl <|
z_iload X 0 dX12_goesToNextOrder_138 rfl <|
z_iast X dX12_goesToNextOrder_140 sm_28 r41.1 r43 o fun s47 o =>
z_iload X 2 dX12_goesToNextOrder_141 rfl <|
z_iconst X dX12_goesToNextOrder_143 <|
z_isub X dX12_goesToNextOrder_144 <|
z_istoreL (L1 := fun v48 => [(5, .int (pI v48)), (4, .int (pI v42)), (0, .ref (G.2.2.1 0)), (6, .int (pI x39.2))]) (R := rg) X dX12_goesToNextOrder_145 (by decide) (fun _ => rfl) o (w32_rg _) fun v48 r49 o =>
z_iinc (L1 := [(6, .int (pI (w32 (x39.2 + 1)))), (5, .int (pI v48)), (4, .int (pI v42)), (0, .ref (G.2.2.1 0))]) X 3 dX12_goesToNextOrder_147 rfl (by decide) rfl <|
z_goto (tgt := 102) X dX12_goesToNextOrder_150 (by decide) <|
z_sub (L1 := [(0, .ref (G.2.2.1 0)), (5, .int (pI v48)), (6, .int (pI (w32 (x39.2 + 1))))]) X [3, 1, 0] rfl <|
ok_some o ⟨r49, (w32_rg _)⟩) ⟨r36, r38⟩) fun o =>
z_sub (L1 := [(0, .ref (G.2.2.1 0)), (1, .int (pI p1)), (2, .int (pI y12)), (3, .int (pI v15))]) X [1, 2, 3, 0] rfl <|
z_iter (fun (x17 : Int) s18 => rg x17 → At E s18 42 [(0, .ref (G.2.2.1 0)), (1, .int (pI p1)), (2, .int (pI y12)), (3, .int (pI x17))] []) o (fun x17 s18 o r19 =>
z_aload_n X 0 dX12_goesToNextOrder_42 rfl <|
z_getR (q := 28) X dX12_goesToNextOrder_43 fl_X12_95 sm_0 rfl <|
z_iload_n X 3 dX12_goesToNextOrder_46 rfl <|
z_iald X dX12_goesToNextOrder_47 sm_28 r19 o fun v20 r21 o =>
z_aload_n X 0 dX12_goesToNextOrder_48 rfl <|
z_getR (q := 28) X dX12_goesToNextOrder_49 fl_X12_95 sm_0 rfl <|
z_iload_n X 2 dX12_goesToNextOrder_52 rfl <|
z_iald X dX12_goesToNextOrder_53 sm_28 r14 o fun v22 r23 o =>
z_icmp_ge (tgt := 64) X dX12_goesToNextOrder_54 (by decide) r21 r23 o (fun o =>
ok_some o r19) fun o =>
z_iload_n X 3 dX12_goesToNextOrder_57 rfl <|
z_iconst X dX12_goesToNextOrder_58 <|
z_isub X dX12_goesToNextOrder_59 <|
z_istoreL_n (L1 := fun v24 => [(3, .int (pI v24)), (0, .ref (G.2.2.1 0)), (1, .int (pI p1)), (2, .int (pI y12))]) (R := rg) X dX12_goesToNextOrder_60 rfl (by decide) (fun _ => rfl) o (w32_rg _) fun v24 r25 o =>
z_goto (tgt := 42) X dX12_goesToNextOrder_61 (by decide) <|
z_sub (L1 := [(0, .ref (G.2.2.1 0)), (1, .int (pI p1)), (2, .int (pI y12)), (3, .int (pI v24))]) X [1, 2, 3, 0] rfl <|
ok_some o r25) r16) fun o =>
z_iconst X dX12_goesToNextOrder_36 <|
z_zret X Y dX12_goesToNextOrder_37 o kb_0 kb_0) fun o =>
z_sub (L1 := [(0, .ref (G.2.2.1 0)), (1, .int (pI p1)), (2, .int (pI v1))]) X [1, 2, 0] rfl <|
z_iter (fun (x3 : Int) s4 => rg x3 → At E s4 4 [(0, .ref (G.2.2.1 0)), (1, .int (pI p1)), (2, .int (pI x3))] []) o (fun x3 s4 o r5 =>
z_iload_n X 2 dX12_goesToNextOrder_4 rfl <|
z_if_lt (tgt := 32) X dX12_goesToNextOrder_5 (by decide) r5 o (fun o =>
ok_some o r5) fun o =>
z_aload_n X 0 dX12_goesToNextOrder_8 rfl <|
z_getR (q := 28) X dX12_goesToNextOrder_9 fl_X12_95 sm_0 rfl <|
z_iload_n X 2 dX12_goesToNextOrder_12 rfl <|
z_iald X dX12_goesToNextOrder_13 sm_28 r5 o fun v6 r7 o =>
z_aload_n X 0 dX12_goesToNextOrder_14 rfl <|
z_getR (q := 28) X dX12_goesToNextOrder_15 fl_X12_95 sm_0 rfl <|
z_iload_n X 2 dX12_goesToNextOrder_18 rfl <|
z_iconst X dX12_goesToNextOrder_19 <|
z_iadd X dX12_goesToNextOrder_20 <|
z_iald X dX12_goesToNextOrder_21 sm_28 (w32_rg _) o fun v8 r9 o =>
z_icmp_le (tgt := 32) X dX12_goesToNextOrder_22 (by decide) r7 r9 o (fun o =>
ok_some o r5) fun o =>
z_iload_n X 2 dX12_goesToNextOrder_25 rfl <|
z_iconst X dX12_goesToNextOrder_26 <|
z_isub X dX12_goesToNextOrder_27 <|
z_istoreL_n (L1 := fun v10 => [(2, .int (pI v10)), (0, .ref (G.2.2.1 0)), (1, .int (pI p1))]) (R := rg) X dX12_goesToNextOrder_28 rfl (by decide) (fun _ => rfl) o (w32_rg _) fun v10 r11 o =>
z_goto (tgt := 4) X dX12_goesToNextOrder_29 (by decide) <|
z_sub (L1 := [(0, .ref (G.2.2.1 0)), (1, .int (pI p1)), (2, .int (pI v10))]) X [1, 2, 0] rfl <|
ok_some o r11) r2 : At E s0 0 [(0, .ref (G.2.2.1 0)), (1, .int (pI p1))] [])
set_option maxHeartbeats 4000000 in
set_option maxRecDepth 100000 in
theorem ct_X12_half (p1 : Int) (p2 : Int) (hp1 : rg p1) (hp2 : rg p2) (G : Gw) (s0 : St) (r : Int) (σ1 : St) (e : fX12_half p1 p2 s0 = some (r, σ1)) : Ct yX12_half cX12_half 3 (some .int) 1 23 SM G [.ref (G.2.2.1 0), .int (pI p1), .int (pI p2)] s0 (QI SM G r rg σ1) :=
  Ct.of (by decide +kernel) (Nat.le_of_ble_eq_true rfl) fun E X Y => by
    have o : Ok (fX12_half p1 p2 s0) (fun x σ' => x = r ∧ σ' = σ1) := ⟨r, σ1, e, rfl, rfl⟩
    unfold fX12_half at o
    exact (
z_aload_n X 0 dX12_half_0 rfl <|
z_iconst X dX12_half_1 <|
z_putI X dX12_half_2 fl_X12_183 sm_0 ft_X12_0 rfl kc_0 o fun s1 o =>
z_aload_n X 0 dX12_half_5 rfl <|
z_iload_n X 1 dX12_half_6 rfl <|
z_iconst X dX12_half_7 <|
z_iconst X dX12_half_8 <|
z_callvI X dX12_half_9 q_1822 wX12_isIn sm_0 rfl (by decide) [.int (pI p1), .int (pI 0), .int (pI 2)] [] rfl rfl (Nat.le_of_ble_eq_true rfl) (fun r σ1 e => ct_X12_isIn p1 0 2 hp1 kc_0 kc_2 G _ r σ1 e) o fun r2 s3 h4 o =>
z_if_ne (tgt := 17) X dX12_half_12 (by decide) (r01_rg h4) o (fun o =>
z_iload_n X 2 dX12_half_17 rfl <|
z_iconst X dX12_half_18 <|
z_icmp_ne (tgt := 31) X dX12_half_19 (by decide) hp2 kc_m1 o (fun o =>
z_aload_n X 0 dX12_half_31 rfl <|
z_iload_n X 2 dX12_half_32 rfl <|
z_iconst X dX12_half_33 <|
z_bipush X dX12_half_34 bi_9 <|
z_callvI X dX12_half_36 q_1822 wX12_isIn sm_0 rfl (by decide) [.int (pI p2), .int (pI 0), .int (pI 9)] [] rfl rfl (Nat.le_of_ble_eq_true rfl) (fun r σ1 e => ct_X12_isIn p2 0 9 hp2 kc_0 kc_9 G _ r σ1 e) o fun r5 s6 h7 o =>
z_if_eq (tgt := 63) X dX12_half_39 (by decide) (r01_rg h7) o (fun o =>
z_iconst X dX12_half_63 <|
z_iret X Y dX12_half_64 o kc_m1) fun o =>
z_aload_n X 0 dX12_half_42 rfl <|
z_getR (q := 42) X dX12_half_43 fl_X12_137 sm_0 rfl <|
z_iload_n X 1 dX12_half_46 rfl <|
z_iald X dX12_half_47 sm_42 hp1 o fun v8 r9 o =>
z_iload_n X 1 dX12_half_48 rfl <|
z_iconst X dX12_half_49 <|
z_join o (fun (y10 : Int) s11 => rg y10 → At E s11 60 [(0, .ref (G.2.2.1 0)), (1, .int (pI p1)), (2, .int (pI p2))] [.int (pI y10), .int (pI v8)]) (fun y10 s11 o r12 =>
z_icmp_ne (tgt := 65) X dX12_half_60 (by decide) r9 r12 o (fun o =>
z_aload_n X 0 dX12_half_65 rfl <|
z_getR (q := 43) X dX12_half_66 fl_X12_140 sm_0 rfl <|
z_bipush X dX12_half_69 bi_24 <|
z_iload_n X 1 dX12_half_71 rfl <|
z_imul X dX12_half_72 <|
z_aload_n X 0 dX12_half_73 rfl <|
z_getR (q := 42) X dX12_half_74 fl_X12_137 sm_0 rfl <|
z_iload_n X 1 dX12_half_77 rfl <|
z_iald X dX12_half_78 sm_42 hp1 o fun v13 r14 o =>
z_iadd X dX12_half_79 <|
z_iload_n X 2 dX12_half_80 rfl <|
z_iast X dX12_half_81 sm_43 (w32_rg _) hp2 o fun s15 o =>
z_aload_n X 0 dX12_half_82 rfl <|
z_getR (q := 42) X dX12_half_83 fl_X12_137 sm_0 rfl <|
z_iload_n X 1 dX12_half_86 rfl <|
z_aload_n X 0 dX12_half_87 rfl <|
z_getR (q := 42) X dX12_half_88 fl_X12_137 sm_0 rfl <|
z_iload_n X 1 dX12_half_91 rfl <|
z_iald X dX12_half_92 sm_42 hp1 o fun v16 r17 o =>
z_iconst X dX12_half_93 <|
z_iadd X dX12_half_94 <|
z_iast X dX12_half_95 sm_42 hp1 (w32_rg _) o fun s18 o =>
z_aload_n X 0 dX12_half_96 rfl <|
z_getR (q := 42) X dX12_half_97 fl_X12_137 sm_0 rfl <|
z_iload_n X 1 dX12_half_100 rfl <|
z_iald X dX12_half_101 sm_42 hp1 o fun v19 r20 o =>
z_iret X Y dX12_half_102 o r20) fun o =>
z_iconst X dX12_half_63 <|
z_iret X Y dX12_half_64 o kc_m1) fun o =>
z_icmp_ne (tgt := 58) X dX12_half_50 (by decide) hp1 kc_2 o (fun o =>
z_bipush X dX12_half_58 bi_12 <|
ok_some o kc_12) fun o =>
z_bipush X dX12_half_53 bi_24 <|
z_goto (tgt := 60) X dX12_half_55 (by decide) <|
ok_some o kc_24) fun o =>
z_aload_n X 0 dX12_half_22 rfl <|
z_getR (q := 42) X dX12_half_23 fl_X12_137 sm_0 rfl <|
z_iload_n X 1 dX12_half_26 rfl <|
z_iconst X dX12_half_27 <|
z_iast X dX12_half_28 sm_42 hp1 kc_0 o fun s21 o =>
z_iconst X dX12_half_29 <|
z_iret X Y dX12_half_30 o kc_0) fun o =>
z_iconst X dX12_half_15 <|
z_iret X Y dX12_half_16 o kc_m1 : At E s0 0 [(0, .ref (G.2.2.1 0)), (1, .int (pI p1)), (2, .int (pI p2))] [])
set_option maxHeartbeats 4000000 in
set_option maxRecDepth 100000 in
theorem ct_X12_waysOfHalf (p1 : Int) (p2 : Int) (hp1 : rg p1) (hp2 : rg p2) (G : Gw) (s0 : St) (r : Int) (σ1 : St) (e : fX12_waysOfHalf p1 p2 s0 = some (r, σ1)) : Ct yX12_waysOfHalf cX12_waysOfHalf 5 (some .int) 1 22 SM G [.ref (G.2.2.1 0), .int (pI p1), .int (pI p2)] s0 (QI SM G r rg σ1) :=
  Ct.of (by decide +kernel) (Nat.le_of_ble_eq_true rfl) fun E X Y => by
    have o : Ok (fX12_waysOfHalf p1 p2 s0) (fun x σ' => x = r ∧ σ' = σ1) := ⟨r, σ1, e, rfl, rfl⟩
    unfold fX12_waysOfHalf at o
    exact (
z_iload_n X 1 dX12_waysOfHalf_0 rfl <|
z_iload_n X 2 dX12_waysOfHalf_1 rfl <|
z_iadd X dX12_waysOfHalf_2 <|
z_if_ne (tgt := 8) X dX12_waysOfHalf_3 (by decide) (w32_rg _) o (fun o =>
z_aload_n X 0 dX12_waysOfHalf_8 rfl <|
z_getR (q := 43) X dX12_waysOfHalf_9 fl_X12_140 sm_0 rfl <|
z_bipush X dX12_waysOfHalf_12 bi_48 <|
z_iload_n X 1 dX12_waysOfHalf_14 rfl <|
z_iadd X dX12_waysOfHalf_15 <|
z_iload_n X 2 dX12_waysOfHalf_16 rfl <|
z_iadd X dX12_waysOfHalf_17 <|
z_iconst X dX12_waysOfHalf_18 <|
z_isub X dX12_waysOfHalf_19 <|
z_iald X dX12_waysOfHalf_20 sm_43 (w32_rg _) o fun v1 r2 o =>
z_istore_n (L1 := [(3, .int (pI v1)), (0, .ref (G.2.2.1 0)), (1, .int (pI p1)), (2, .int (pI p2))]) X dX12_waysOfHalf_21 rfl (by decide) rfl <|
z_iconst X dX12_waysOfHalf_22 <|
z_istore (L1 := [(4, .int (pI 0)), (3, .int (pI v1)), (0, .ref (G.2.2.1 0)), (1, .int (pI p1)), (2, .int (pI p2))]) X dX12_waysOfHalf_23 (by decide) rfl <|
z_iload_n X 3 dX12_waysOfHalf_25 rfl <|
z_join o (fun (y10 : Int) s11 => rg y10 → At E s11 62 [(0, .ref (G.2.2.1 0)), (1, .int (pI p1)), (2, .int (pI p2)), (3, .int (pI v1)), (4, .int (pI y10))] []) (fun y10 s11 o r12 =>
z_iload_n X 2 dX12_waysOfHalf_62 rfl <|
z_if_le (tgt := 102) X dX12_waysOfHalf_63 (by decide) hp2 o (fun o =>
z_iload X 4 dX12_waysOfHalf_102 rfl <|
z_iret X Y dX12_waysOfHalf_104 o r12) fun o =>
z_aload_n X 0 dX12_waysOfHalf_66 rfl <|
z_getR (q := 43) X dX12_waysOfHalf_67 fl_X12_140 sm_0 rfl <|
z_bipush X dX12_waysOfHalf_70 bi_24 <|
z_iload_n X 2 dX12_waysOfHalf_72 rfl <|
z_iadd X dX12_waysOfHalf_73 <|
z_iconst X dX12_waysOfHalf_74 <|
z_isub X dX12_waysOfHalf_75 <|
z_iald X dX12_waysOfHalf_76 sm_43 (w32_rg _) o fun v13 r14 o =>
z_iload_n X 3 dX12_waysOfHalf_77 rfl <|
z_icmp_ne (tgt := 102) X dX12_waysOfHalf_78 (by decide) r14 r2 o (fun o =>
z_iload X 4 dX12_waysOfHalf_102 rfl <|
z_iret X Y dX12_waysOfHalf_104 o r12) fun o =>
z_aload_n X 0 dX12_waysOfHalf_81 rfl <|
z_iload X 4 dX12_waysOfHalf_82 rfl <|
z_aload_n X 0 dX12_waysOfHalf_84 rfl <|
z_getR (q := 44) X dX12_waysOfHalf_85 fl_X12_143 sm_0 rfl <|
z_bipush X dX12_waysOfHalf_88 bi_13 <|
z_iload_n X 1 dX12_waysOfHalf_90 rfl <|
z_imul X dX12_waysOfHalf_91 <|
z_iload_n X 2 dX12_waysOfHalf_92 rfl <|
z_iadd X dX12_waysOfHalf_93 <|
z_iconst X dX12_waysOfHalf_94 <|
z_isub X dX12_waysOfHalf_95 <|
z_iald X dX12_waysOfHalf_96 sm_44 (w32_rg _) o fun v15 r16 o =>
z_callvI X dX12_waysOfHalf_97 q_2282 wX12_added sm_0 rfl (by decide) [.int (pI y10), .int (pI v15)] [] rfl rfl (Nat.le_of_ble_eq_true rfl) (fun r σ1 e => ct_X12_added y10 v15 r12 r16 G _ r σ1 e) o fun r17 s18 h19 o =>
z_istore (L1 := [(4, .int (pI r17)), (0, .ref (G.2.2.1 0)), (1, .int (pI p1)), (2, .int (pI p2)), (3, .int (pI v1))]) X dX12_waysOfHalf_100 (by decide) rfl <|
z_iload X 0 dX12_waysOfHalf_102 rfl <|
z_iret X Y dX12_waysOfHalf_104 o h19) fun o =>
z_if_le (tgt := 62) X dX12_waysOfHalf_26 (by decide) hp1 o (fun o =>
z_sub (L1 := [(0, .ref (G.2.2.1 0)), (1, .int (pI p1)), (2, .int (pI p2)), (3, .int (pI v1)), (4, .int (pI 0))]) X [2, 3, 4, 1, 0] rfl <|
ok_some o kc_0) fun o =>
z_aload_n X 2 dX12_waysOfHalf_29 rfl <|
z_getR (q := 43) X dX12_waysOfHalf_30 fl_X12_140 sm_0 rfl <|
z_iload_n X 3 dX12_waysOfHalf_33 rfl <|
z_iconst X dX12_waysOfHalf_34 <|
z_isub X dX12_waysOfHalf_35 <|
z_iald X dX12_waysOfHalf_36 sm_43 (w32_rg _) o fun v3 r4 o =>
z_iload_n X 1 dX12_waysOfHalf_37 rfl <|
z_icmp_ne (tgt := 62) X dX12_waysOfHalf_38 (by decide) r4 r2 o (fun o =>
z_sub (L1 := [(0, .ref (G.2.2.1 0)), (1, .int (pI p1)), (2, .int (pI p2)), (3, .int (pI v1)), (4, .int (pI 0))]) X [2, 3, 4, 1, 0] rfl <|
ok_some o kc_0) fun o =>
z_aload_n X 2 dX12_waysOfHalf_41 rfl <|
z_iload X 0 dX12_waysOfHalf_42 rfl <|
z_aload_n X 2 dX12_waysOfHalf_44 rfl <|
z_getR (q := 44) X dX12_waysOfHalf_45 fl_X12_143 sm_0 rfl <|
z_bipush X dX12_waysOfHalf_48 bi_13 <|
z_iload_n X 3 dX12_waysOfHalf_50 rfl <|
z_iconst X dX12_waysOfHalf_51 <|
z_isub X dX12_waysOfHalf_52 <|
z_imul X dX12_waysOfHalf_53 <|
z_iload_n X 4 dX12_waysOfHalf_54 rfl <|
z_iadd X dX12_waysOfHalf_55 <|
z_iald X dX12_waysOfHalf_56 sm_44 (w32_rg _) o fun v5 r6 o =>
z_callvI X dX12_waysOfHalf_57 q_2282 wX12_added sm_0 rfl (by decide) [.int (pI 0), .int (pI v5)] [] rfl rfl (Nat.le_of_ble_eq_true rfl) (fun r σ1 e => ct_X12_added 0 v5 kc_0 r6 G _ r σ1 e) o fun r7 s8 h9 o =>
z_istore (L1 := [(4, .int (pI r7)), (3, .int (pI v1)), (0, .ref (G.2.2.1 0)), (1, .int (pI p1)), (2, .int (pI p2))]) X dX12_waysOfHalf_60 (by decide) rfl <|
z_sub (L1 := [(0, .ref (G.2.2.1 0)), (1, .int (pI p1)), (2, .int (pI p2)), (3, .int (pI v1)), (4, .int (pI r7))]) X [2, 3, 4, 1, 0] rfl <|
ok_some o h9) fun o =>
z_iconst X dX12_waysOfHalf_6 <|
z_iret X Y dX12_waysOfHalf_7 o kc_1 : At E s0 0 [(0, .ref (G.2.2.1 0)), (1, .int (pI p1)), (2, .int (pI p2))] [])
set_option maxHeartbeats 4000000 in
set_option maxRecDepth 100000 in
theorem ct_X12_halves (p1 : Int) (hp1 : rg p1) (G : Gw) (s0 : St) (r : Int) (σ1 : St) (e : fX12_halves p1 s0 = some (r, σ1)) : Ct yX12_halves cX12_halves 4 (some .int) 2 46 SM G [.ref (G.2.2.1 0), .int (pI p1)] s0 (QI SM G r rg σ1) :=
  Ct.of (by decide +kernel) (Nat.le_of_ble_eq_true rfl) fun E X Y => by
    have o : Ok (fX12_halves p1 s0) (fun x σ' => x = r ∧ σ' = σ1) := ⟨r, σ1, e, rfl, rfl⟩
    unfold fX12_halves at o
    exact (
z_aload_n X 0 dX12_halves_0 rfl <|
z_iconst X dX12_halves_1 <|
z_putI X dX12_halves_2 fl_X12_183 sm_0 ft_X12_0 rfl kc_0 o fun s1 o =>
z_aload_n X 0 dX12_halves_5 rfl <|
z_iload_n X 1 dX12_halves_6 rfl <|
z_iconst X dX12_halves_7 <|
z_iconst X dX12_halves_8 <|
z_callvI X dX12_halves_9 q_1822 wX12_isIn sm_0 rfl (by decide) [.int (pI p1), .int (pI 0), .int (pI 1)] [] rfl rfl (Nat.le_of_ble_eq_true rfl) (fun r σ1 e => ct_X12_isIn p1 0 1 hp1 kc_0 kc_1 G _ r σ1 e) o fun r2 s3 h4 o =>
z_if_ne (tgt := 17) X dX12_halves_12 (by decide) (r01_rg h4) o (fun o =>
z_aload_n X 0 dX12_halves_17 rfl <|
z_getR (q := 42) X dX12_halves_18 fl_X12_137 sm_0 rfl <|
z_iconst X dX12_halves_21 <|
z_iald X dX12_halves_22 sm_42 kc_0 o fun v5 r6 o =>
z_aload_n X 0 dX12_halves_23 rfl <|
z_getR (q := 42) X dX12_halves_24 fl_X12_137 sm_0 rfl <|
z_iconst X dX12_halves_27 <|
z_iald X dX12_halves_28 sm_42 kc_1 o fun v7 r8 o =>
z_iadd X dX12_halves_29 <|
z_aload_n X 0 dX12_halves_30 rfl <|
z_getR (q := 42) X dX12_halves_31 fl_X12_137 sm_0 rfl <|
z_iconst X dX12_halves_34 <|
z_iald X dX12_halves_35 sm_42 kc_2 o fun v9 r10 o =>
z_icmp_eq (tgt := 41) X dX12_halves_36 (by decide) (w32_rg _) r10 o (fun o =>
z_iconst X dX12_halves_41 <|
z_istore_n (L1 := [(2, .int (pI 0)), (0, .ref (G.2.2.1 0)), (1, .int (pI p1))]) X dX12_halves_42 rfl (by decide) rfl <|
z_join o (fun (y28 : Unit) s29 => True → At E s29 94 [(0, .ref (G.2.2.1 0)), (1, .int (pI p1))] []) (fun y28 s29 o r30 =>
z_aload_n X 0 dX12_halves_94 rfl <|
z_getR (q := 44) X dX12_halves_95 fl_X12_143 sm_0 rfl <|
z_bipush X dX12_halves_98 bi_13 <|
z_aload_n X 0 dX12_halves_100 rfl <|
z_getR (q := 42) X dX12_halves_101 fl_X12_137 sm_0 rfl <|
z_iconst X dX12_halves_104 <|
z_iald X dX12_halves_105 sm_42 kc_0 o fun v31 r32 o =>
z_imul X dX12_halves_106 <|
z_aload_n X 0 dX12_halves_107 rfl <|
z_getR (q := 42) X dX12_halves_108 fl_X12_137 sm_0 rfl <|
z_iconst X dX12_halves_111 <|
z_iald X dX12_halves_112 sm_42 kc_1 o fun v33 r34 o =>
z_iadd X dX12_halves_113 <|
z_iald X dX12_halves_114 sm_44 (w32_rg _) o fun v35 r36 o =>
z_istore_n (L1 := [(2, .int (pI v35)), (0, .ref (G.2.2.1 0)), (1, .int (pI p1))]) X dX12_halves_115 rfl (by decide) rfl <|
z_iload_n X 2 dX12_halves_116 rfl <|
z_iconst X dX12_halves_117 <|
z_icmp_ne (tgt := 125) X dX12_halves_118 (by decide) hp1 kc_1 o (fun o =>
z_iload_n X 0 dX12_halves_125 rfl <|
z_if_le (tgt := 133) X dX12_halves_126 (by decide) r36 o (fun o =>
z_iconst X dX12_halves_133 <|
z_iret X Y dX12_halves_134 o kc_0) fun o =>
z_iconst X dX12_halves_129 <|
z_goto (tgt := 134) X dX12_halves_130 (by decide) <|
z_iret X Y dX12_halves_134 o kc_1) fun o =>
z_iload_n X 0 dX12_halves_121 rfl <|
z_goto (tgt := 134) X dX12_halves_122 (by decide) <|
z_iret X Y dX12_halves_134 o r36) fun o =>
z_sub (L1 := [(0, .ref (G.2.2.1 0)), (1, .int (pI p1)), (2, .int (pI 0))]) X [1, 2, 0] rfl <|
z_iter (fun (x11 : Int) s12 => rg x11 → At E s12 43 [(0, .ref (G.2.2.1 0)), (1, .int (pI p1)), (2, .int (pI x11))] []) o (fun x11 s12 o r13 =>
z_iload_n X 2 dX12_halves_43 rfl <|
z_aload_n X 0 dX12_halves_44 rfl <|
z_getR (q := 42) X dX12_halves_45 fl_X12_137 sm_0 rfl <|
z_iconst X dX12_halves_48 <|
z_iald X dX12_halves_49 sm_42 kc_0 o fun v14 r15 o =>
z_icmp_gt (tgt := 94) X dX12_halves_50 (by decide) r13 r15 o (fun o =>
z_sub (L1 := [(0, .ref (G.2.2.1 0)), (1, .int (pI p1))]) X [0, 1] rfl <|
ok_some o trivial) fun o =>
z_iconst X dX12_halves_53 <|
z_istore_n (L1 := [(3, .int (pI 0)), (0, .ref (G.2.2.1 0)), (1, .int (pI p1)), (2, .int (pI x11))]) X dX12_halves_54 rfl (by decide) rfl <|
z_join o (fun (y25 : Unit) s26 => True → At E s26 88 [(0, .ref (G.2.2.1 0)), (1, .int (pI p1)), (2, .int (pI x11))] []) (fun y25 s26 o r27 =>
z_iinc (L1 := [(2, .int (pI (w32 (x11 + 1)))), (0, .ref (G.2.2.1 0)), (1, .int (pI p1))]) X 2 dX12_halves_88 rfl (by decide) rfl <|
z_goto (tgt := 43) X dX12_halves_91 (by decide) <|
z_sub (L1 := [(0, .ref (G.2.2.1 0)), (1, .int (pI p1)), (2, .int (pI (w32 (x11 + 1))))]) X [1, 2, 0] rfl <|
ok_some o (w32_rg _)) fun o =>
z_sub (L1 := [(0, .ref (G.2.2.1 0)), (1, .int (pI p1)), (2, .int (pI x11)), (3, .int (pI 0))]) X [1, 2, 3, 0] rfl <|
z_iter (fun (x16 : Int) s17 => rg x16 → At E s17 55 [(0, .ref (G.2.2.1 0)), (1, .int (pI p1)), (2, .int (pI x11)), (3, .int (pI x16))] []) o (fun x16 s17 o r18 =>
z_iload_n X 3 dX12_halves_55 rfl <|
z_aload_n X 0 dX12_halves_56 rfl <|
z_getR (q := 42) X dX12_halves_57 fl_X12_137 sm_0 rfl <|
z_iconst X dX12_halves_60 <|
z_iald X dX12_halves_61 sm_42 kc_1 o fun v19 r20 o =>
z_icmp_gt (tgt := 88) X dX12_halves_62 (by decide) r18 r20 o (fun o =>
z_sub (L1 := [(0, .ref (G.2.2.1 0)), (1, .int (pI p1)), (2, .int (pI x11))]) X [0, 1, 2] rfl <|
ok_some o trivial) fun o =>
z_aload_n X 0 dX12_halves_65 rfl <|
z_getR (q := 44) X dX12_halves_66 fl_X12_143 sm_0 rfl <|
z_bipush X dX12_halves_69 bi_13 <|
z_iload_n X 2 dX12_halves_71 rfl <|
z_imul X dX12_halves_72 <|
z_iload_n X 3 dX12_halves_73 rfl <|
z_iadd X dX12_halves_74 <|
z_aload_n X 0 dX12_halves_75 rfl <|
z_iload_n X 2 dX12_halves_76 rfl <|
z_iload_n X 3 dX12_halves_77 rfl <|
z_callvI X dX12_halves_78 q_2278 wX12_waysOfHalf sm_0 rfl (by decide) [.int (pI x11), .int (pI x16)] [.int (pI (w32 (w32 (13 * x11) + x16))), .ref (G.2.2.1 44)] rfl rfl (Nat.le_of_ble_eq_true rfl) (fun r σ1 e => ct_X12_waysOfHalf x11 x16 r13 r18 G _ r σ1 e) o fun r21 s22 h23 o =>
z_iast X dX12_halves_81 sm_44 (w32_rg _) h23 o fun s24 o =>
z_iinc (L1 := [(3, .int (pI (w32 (x16 + 1)))), (0, .ref (G.2.2.1 0)), (1, .int (pI p1)), (2, .int (pI x11))]) X 3 dX12_halves_82 rfl (by decide) rfl <|
z_goto (tgt := 55) X dX12_halves_85 (by decide) <|
z_sub (L1 := [(0, .ref (G.2.2.1 0)), (1, .int (pI p1)), (2, .int (pI x11)), (3, .int (pI (w32 (x16 + 1))))]) X [1, 2, 3, 0] rfl <|
ok_some o (w32_rg _)) kc_0) kc_0) fun o =>
z_iconst X dX12_halves_39 <|
z_iret X Y dX12_halves_40 o kc_0) fun o =>
z_iconst X dX12_halves_15 <|
z_iret X Y dX12_halves_16 o kc_m1 : At E s0 0 [(0, .ref (G.2.2.1 0)), (1, .int (pI p1))] [])
set_option maxHeartbeats 4000000 in
set_option maxRecDepth 100000 in
theorem ct_X12_hears (p1 : Int) (p2 : Int) (hp1 : rg p1) (hp2 : rg p2) (G : Gw) (s0 : St) (r : Int) (σ1 : St) (e : fX12_hears p1 p2 s0 = some (r, σ1)) : Ct yX12_hears cX12_hears 3 (some .int) 5 116 SM G [.ref (G.2.2.1 0), .int (pI p1), .int (pI p2)] s0 (QI SM G r rg σ1) :=
  Ct.of (by decide +kernel) (Nat.le_of_ble_eq_true rfl) fun E X Y => by
    have o : Ok (fX12_hears p1 p2 s0) (fun x σ' => x = r ∧ σ' = σ1) := ⟨r, σ1, e, rfl, rfl⟩
    unfold fX12_hears at o
    exact (
z_aload_n X 0 dX12_hears_0 rfl <|
z_iconst X dX12_hears_1 <|
z_putI X dX12_hears_2 fl_X12_183 sm_0 ft_X12_0 rfl kc_0 o fun s1 o =>
z_aload_n X 0 dX12_hears_5 rfl <|
z_iload_n X 1 dX12_hears_6 rfl <|
z_callvI X dX12_hears_7 q_1842 wX12_isPerson sm_0 rfl (by decide) [.int (pI p1)] [] rfl rfl (Nat.le_of_ble_eq_true rfl) (fun r σ1 e => ct_X12_isPerson p1 hp1 G _ r σ1 e) o fun r2 s3 h4 o =>
z_if_eq (tgt := 30) X dX12_hears_10 (by decide) (r01_rg h4) o (fun o =>
z_iconst X dX12_hears_30 <|
z_iret X Y dX12_hears_31 o kc_m1) fun o =>
z_aload_n X 0 dX12_hears_13 rfl <|
z_iload_n X 2 dX12_hears_14 rfl <|
z_callvI X dX12_hears_15 q_1838 wX12_isPorch sm_0 rfl (by decide) [.int (pI p2)] [] rfl rfl (Nat.le_of_ble_eq_true rfl) (fun r σ1 e => ct_X12_isPorch p2 hp2 G _ r σ1 e) o fun r5 s6 h7 o =>
z_if_eq (tgt := 30) X dX12_hears_18 (by decide) (r01_rg h7) o (fun o =>
z_iconst X dX12_hears_30 <|
z_iret X Y dX12_hears_31 o kc_m1) fun o =>
z_aload_n X 0 dX12_hears_21 rfl <|
z_iload_n X 1 dX12_hears_22 rfl <|
z_iload_n X 2 dX12_hears_23 rfl <|
z_callvI X dX12_hears_24 q_2108 wX12_hearsOf sm_0 rfl (by decide) [.int (pI p1), .int (pI p2)] [] rfl rfl (Nat.le_of_ble_eq_true rfl) (fun r σ1 e => ct_X12_hearsOf p1 p2 hp1 hp2 G _ r σ1 e) o fun r8 s9 h10 o =>
z_goto (tgt := 31) X dX12_hears_27 (by decide) <|
z_iret X Y dX12_hears_31 o h10 : At E s0 0 [(0, .ref (G.2.2.1 0)), (1, .int (pI p1)), (2, .int (pI p2))] [])
set_option maxHeartbeats 4000000 in
set_option maxRecDepth 100000 in
theorem ct_X12_heavierBy (p1 : Int) (hp1 : rg p1) (G : Gw) (s0 : St) (r : Int) (σ1 : St) (e : fX12_heavierBy p1 s0 = some (r, σ1)) : Ct yX12_heavierBy cX12_heavierBy 4 (some .int) 1 22 SM G [.ref (G.2.2.1 0), .int (pI p1)] s0 (QI SM G r rg σ1) :=
  Ct.of (by decide +kernel) (Nat.le_of_ble_eq_true rfl) fun E X Y => by
    have o : Ok (fX12_heavierBy p1 s0) (fun x σ' => x = r ∧ σ' = σ1) := ⟨r, σ1, e, rfl, rfl⟩
    unfold fX12_heavierBy at o
    exact (
z_iconst X dX12_heavierBy_0 <|
z_istore_n (L1 := [(2, .int (pI 0)), (0, .ref (G.2.2.1 0)), (1, .int (pI p1))]) X dX12_heavierBy_1 rfl (by decide) rfl <|
z_iconst X dX12_heavierBy_2 <|
z_istore_n (L1 := [(3, .int (pI 0)), (2, .int (pI 0)), (0, .ref (G.2.2.1 0)), (1, .int (pI p1))]) X dX12_heavierBy_3 rfl (by decide) rfl <|
z_join o (fun (y17 : Int) s18 => rg y17 → At E s18 46 [(0, .ref (G.2.2.1 0)), (2, .int (pI y17))] []) (fun y17 s18 o r19 =>
z_aload_n X 0 dX12_heavierBy_46 rfl <|
z_iload_n X 1 dX12_heavierBy_47 rfl <|
z_iconst X dX12_heavierBy_48 <|
z_callvI X dX12_heavierBy_49 q_2250 wX12_apart sm_0 rfl (by decide) [.int (pI y17), .int (pI 0)] [] rfl rfl (Nat.le_of_ble_eq_true rfl) (fun r σ1 e => ct_X12_apart y17 0 r19 kc_0 G _ r σ1 e) o fun r20 s21 h22 o =>
z_iret X Y dX12_heavierBy_52 o h22) fun o =>
z_sub (L1 := [(0, .ref (G.2.2.1 0)), (1, .int (pI p1)), (2, .int (pI 0)), (3, .int (pI 0))]) X [2, 3, 1, 0] rfl <|
z_iter (fun (x1 : Int × Int) s2 => rg x1.1 ∧ rg x1.2 → At E s2 4 [(0, .ref (G.2.2.1 0)), (1, .int (pI p1)), (2, .int (pI x1.1)), (3, .int (pI x1.2))] []) o (fun x1 s2 o r3 =>
z_iload_n X 3 dX12_heavierBy_4 rfl <|
z_aload_n X 0 dX12_heavierBy_5 rfl <|
z_getI X dX12_heavierBy_6 fl_X12_537 sm_0 rfl o fun v4 r5 o =>
z_icmp_ge (tgt := 46) X dX12_heavierBy_9 (by decide) r3.2 r5 o (fun o =>
z_sub (L1 := [(0, .ref (G.2.2.1 0)), (2, .int (pI x1.1))]) X [0, 2] rfl <|
ok_some o r3.1) fun o =>
z_iload_n X 2 dX12_heavierBy_12 rfl <|
z_aload_n X 0 dX12_heavierBy_13 rfl <|
z_iload_n X 1 dX12_heavierBy_14 rfl <|
z_iload_n X 3 dX12_heavierBy_15 rfl <|
z_callvI X dX12_heavierBy_16 q_2189 wX12_has sm_0 rfl (by decide) [.int (pI p1), .int (pI x1.2)] [.int (pI x1.1)] rfl rfl (Nat.le_of_ble_eq_true rfl) (fun r σ1 e => ct_X12_has p1 x1.2 hp1 r3.2 G _ r σ1 e) o fun r6 s7 h8 o =>
z_if_eq (tgt := 31) X dX12_heavierBy_19 (by decide) (r01_rg h8) o (fun o =>
z_aload_n X 0 dX12_heavierBy_31 rfl <|
z_getR (q := 45) X dX12_heavierBy_32 fl_X12_146 sm_0 rfl <|
z_iload_n X 3 dX12_heavierBy_35 rfl <|
z_iald X dX12_heavierBy_36 sm_45 r3.2 o fun v9 r10 o =>
z_ineg X dX12_heavierBy_37 <|
z_iadd X dX12_heavierBy_38 <|
z_istoreL_n (L1 := fun v11 => [(2, .int (pI v11)), (0, .ref (G.2.2.1 0)), (1, .int (pI p1)), (3, .int (pI x1.2))]) (R := rg) X dX12_heavierBy_39 rfl (by decide) (fun _ => rfl) o (w32_rg _) fun v11 r12 o =>
z_iinc (L1 := [(3, .int (pI (w32 (x1.2 + 1)))), (2, .int (pI v11)), (0, .ref (G.2.2.1 0)), (1, .int (pI p1))]) X 3 dX12_heavierBy_40 rfl (by decide) rfl <|
z_goto (tgt := 4) X dX12_heavierBy_43 (by decide) <|
z_sub (L1 := [(0, .ref (G.2.2.1 0)), (1, .int (pI p1)), (2, .int (pI v11)), (3, .int (pI (w32 (x1.2 + 1))))]) X [2, 3, 1, 0] rfl <|
ok_some o ⟨r12, (w32_rg _)⟩) fun o =>
z_aload_n X 0 dX12_heavierBy_22 rfl <|
z_getR (q := 45) X dX12_heavierBy_23 fl_X12_146 sm_0 rfl <|
z_iload_n X 3 dX12_heavierBy_26 rfl <|
z_iald X dX12_heavierBy_27 sm_45 r3.2 o fun v13 r14 o =>
z_goto (tgt := 38) X dX12_heavierBy_28 (by decide) <|
z_iadd X dX12_heavierBy_38 <|
z_istoreL_n (L1 := fun v15 => [(2, .int (pI v15)), (0, .ref (G.2.2.1 0)), (1, .int (pI p1)), (3, .int (pI x1.2))]) (R := rg) X dX12_heavierBy_39 rfl (by decide) (fun _ => rfl) o (w32_rg _) fun v15 r16 o =>
z_iinc (L1 := [(3, .int (pI (w32 (x1.2 + 1)))), (2, .int (pI v15)), (0, .ref (G.2.2.1 0)), (1, .int (pI p1))]) X 3 dX12_heavierBy_40 rfl (by decide) rfl <|
z_goto (tgt := 4) X dX12_heavierBy_43 (by decide) <|
z_sub (L1 := [(0, .ref (G.2.2.1 0)), (1, .int (pI p1)), (2, .int (pI v15)), (3, .int (pI (w32 (x1.2 + 1))))]) X [2, 3, 1, 0] rfl <|
ok_some o ⟨r16, (w32_rg _)⟩) ⟨kc_0, kc_0⟩ : At E s0 0 [(0, .ref (G.2.2.1 0)), (1, .int (pI p1))] [])
set_option maxHeartbeats 4000000 in
set_option maxRecDepth 100000 in
theorem ct_X12_takesHats (p1 : Int) (hp1 : rg p1) (G : Gw) (s0 : St) (r : Int) (σ1 : St) (e : fX12_takesHats p1 s0 = some (r, σ1)) : Ct yX12_takesHats cX12_takesHats 6 (some .int) 1 23 SM G [.ref (G.2.2.1 0), .int (pI p1)] s0 (QI SM G r rg σ1) :=
  Ct.of (by decide +kernel) (Nat.le_of_ble_eq_true rfl) fun E X Y => by
    have o : Ok (fX12_takesHats p1 s0) (fun x σ' => x = r ∧ σ' = σ1) := ⟨r, σ1, e, rfl, rfl⟩
    unfold fX12_takesHats at o
    exact (
z_iconst X dX12_takesHats_0 <|
z_istore_n (L1 := [(2, .int (pI 0)), (0, .ref (G.2.2.1 0)), (1, .int (pI p1))]) X dX12_takesHats_1 rfl (by decide) rfl <|
z_iload_n X 2 dX12_takesHats_2 rfl <|
z_istore_n (L1 := [(3, .int (pI p1)), (2, .int (pI 0)), (0, .ref (G.2.2.1 0)), (1, .int (pI p1))]) X dX12_takesHats_3 rfl (by decide) rfl <|
z_join o (fun (y9 : Int) s10 => rg y9 → At E s10 22 [(0, .ref (G.2.2.1 0)), (1, .int (pI p1)), (2, .int (pI y9))] []) (fun y9 s10 o r11 =>
z_aload_n X 0 dX12_takesHats_22 rfl <|
z_iload_n X 2 dX12_takesHats_23 rfl <|
z_iconst X dX12_takesHats_24 <|
z_bipush X dX12_takesHats_25 bi_9 <|
z_callvI X dX12_takesHats_27 q_1822 wX12_isIn sm_0 rfl (by decide) [.int (pI y9), .int (pI 1), .int (pI 9)] [] rfl rfl (Nat.le_of_ble_eq_true rfl) (fun r σ1 e => ct_X12_isIn y9 1 9 r11 kc_1 kc_9 G _ r σ1 e) o fun r12 s13 h14 o =>
z_if_ne (tgt := 35) X dX12_takesHats_30 (by decide) (r01_rg h14) o (fun o =>
z_iconst X dX12_takesHats_35 <|
z_istore_n (L1 := [(3, .int (pI 0)), (0, .ref (G.2.2.1 0)), (1, .int (pI p1)), (2, .int (pI y9))]) X dX12_takesHats_36 rfl (by decide) rfl <|
z_iload_n X 2 dX12_takesHats_37 rfl <|
z_istore (L1 := [(4, .int (pI p1)), (3, .int (pI 0)), (0, .ref (G.2.2.1 0)), (1, .int (pI p1)), (2, .int (pI y9))]) X dX12_takesHats_38 (by decide) rfl <|
z_iload_n X 4 dX12_takesHats_40 rfl <|
z_iconst X dX12_takesHats_41 <|
z_isub X dX12_takesHats_42 <|
z_istoreL (L1 := fun v15 => [(5, .int (pI v15)), (4, .int (pI p1)), (3, .int (pI 0)), (0, .ref (G.2.2.1 0)), (1, .int (pI p1)), (2, .int (pI y9))]) (R := rg) X dX12_takesHats_43 (by decide) (fun _ => rfl) o (w32_rg _) fun v15 r16 o =>
z_join o (fun (y28 : Int × Int) s29 => rg y28.1 ∧ rg y28.2 → At E s29 85 [(2, .int (pI y9)), (3, .int (pI y28.1)), (4, .int (pI y28.2))] []) (fun y28 s29 o r30 =>
z_iload X 2 dX12_takesHats_85 rfl <|
z_iconst X dX12_takesHats_87 <|
z_icmp_ne (tgt := 104) X dX12_takesHats_88 (by decide) r30.2 kc_1 o (fun o =>
z_iconst X dX12_takesHats_104 <|
z_iret X Y dX12_takesHats_105 o kc_m1) fun o =>
z_iload_n X 1 dX12_takesHats_91 rfl <|
z_iconst X dX12_takesHats_92 <|
z_iload_n X 0 dX12_takesHats_93 rfl <|
z_ishl X dX12_takesHats_94 <|
z_iconst X dX12_takesHats_95 <|
z_isub X dX12_takesHats_96 <|
z_icmp_ne (tgt := 104) X dX12_takesHats_97 (by decide) r30.1 (w32_rg _) o (fun o =>
z_iconst X dX12_takesHats_104 <|
z_iret X Y dX12_takesHats_105 o kc_m1) fun o =>
z_iload_n X 0 dX12_takesHats_100 rfl <|
z_goto (tgt := 105) X dX12_takesHats_101 (by decide) <|
z_iret X Y dX12_takesHats_105 o r11) fun o =>
z_sub (L1 := [(0, .ref (G.2.2.1 0)), (2, .int (pI y9)), (3, .int (pI 0)), (4, .int (pI p1)), (5, .int (pI v15))]) X [3, 5, 2, 1, 0] rfl <|
z_iter (fun (x17 : Int × Int × Int) s18 => rg x17.1 ∧ rg x17.2.1 ∧ rg x17.2.2 → At E s18 45 [(0, .ref (G.2.2.1 0)), (2, .int (pI y9)), (3, .int (pI x17.1)), (4, .int (pI x17.2.1)), (5, .int (pI x17.2.2))] []) o (fun x17 s18 o r19 =>
z_iload X 4 dX12_takesHats_45 rfl <|
z_if_lt (tgt := 85) X dX12_takesHats_47 (by decide) r19.2.2 o (fun o =>
z_sub (L1 := [(2, .int (pI y9)), (3, .int (pI x17.1)), (4, .int (pI x17.2.1))]) X [1, 2, 3] rfl <|
ok_some o ⟨r19.1, r19.2.1⟩) fun o =>
z_aload_n X 0 dX12_takesHats_50 rfl <|
z_getR (q := 28) X dX12_takesHats_51 fl_X12_95 sm_0 rfl <|
z_iload X 4 dX12_takesHats_54 rfl <|
z_iload X 3 dX12_takesHats_56 rfl <|
z_bipush X dX12_takesHats_58 bi_10 <|
z_irem X dX12_takesHats_60 r19.2.1 kc_10 o fun z20 o =>
z_iast X dX12_takesHats_61 sm_28 r19.2.2 (irm_rg kc_10 z20) o fun s21 o =>
z_iload_n X 2 dX12_takesHats_62 rfl <|
z_iconst X dX12_takesHats_63 <|
z_iload X 3 dX12_takesHats_64 rfl <|
z_bipush X dX12_takesHats_66 bi_10 <|
z_irem X dX12_takesHats_68 r19.2.1 kc_10 o fun z22 o =>
z_ishl X dX12_takesHats_69 <|
z_ior X dX12_takesHats_70 <|
z_istoreL_n (L1 := fun v23 => [(3, .int (pI v23)), (0, .ref (G.2.2.1 0)), (2, .int (pI y9)), (4, .int (pI x17.2.1)), (5, .int (pI x17.2.2))]) (R := rg) X dX12_takesHats_71 rfl (by decide) (fun _ => rfl) o (int_rg _) fun v23 r24 o =>
z_iload X 3 dX12_takesHats_72 rfl <|
z_bipush X dX12_takesHats_74 bi_10 <|
z_idiv X dX12_takesHats_76 r19.2.1 kc_10 o fun z25 o =>
z_istoreL (L1 := fun v26 => [(4, .int (pI v26)), (3, .int (pI v23)), (0, .ref (G.2.2.1 0)), (2, .int (pI y9)), (5, .int (pI x17.2.2))]) (R := rg) X dX12_takesHats_77 (by decide) (fun _ => rfl) o (w32_rg _) fun v26 r27 o =>
z_iinc (L1 := [(5, .int (pI (w32 (x17.2.2 + (-1))))), (4, .int (pI v26)), (3, .int (pI v23)), (0, .ref (G.2.2.1 0)), (2, .int (pI y9))]) X 4 dX12_takesHats_79 rfl (by decide) rfl <|
z_goto (tgt := 45) X dX12_takesHats_82 (by decide) <|
z_sub (L1 := [(0, .ref (G.2.2.1 0)), (2, .int (pI y9)), (3, .int (pI v23)), (4, .int (pI v26)), (5, .int (pI (w32 (x17.2.2 + (-1)))))]) X [3, 4, 2, 1, 0] rfl <|
ok_some o ⟨r24, r27, (w32_rg _)⟩) ⟨kc_0, hp1, r16⟩) fun o =>
z_iconst X dX12_takesHats_33 <|
z_iret X Y dX12_takesHats_34 o kc_m1) fun o =>
z_sub (L1 := [(0, .ref (G.2.2.1 0)), (1, .int (pI p1)), (2, .int (pI 0)), (3, .int (pI p1))]) X [2, 3, 1, 0] rfl <|
z_iter (fun (x1 : Int × Int) s2 => rg x1.1 ∧ rg x1.2 → At E s2 4 [(0, .ref (G.2.2.1 0)), (1, .int (pI p1)), (2, .int (pI x1.1)), (3, .int (pI x1.2))] []) o (fun x1 s2 o r3 =>
z_iload_n X 3 dX12_takesHats_4 rfl <|
z_bipush X dX12_takesHats_5 bi_9 <|
z_icmp_le (tgt := 22) X dX12_takesHats_7 (by decide) r3.2 kc_9 o (fun o =>
z_sub (L1 := [(0, .ref (G.2.2.1 0)), (1, .int (pI p1)), (2, .int (pI x1.1))]) X [0, 1, 2] rfl <|
ok_some o r3.1) fun o =>
z_iload_n X 2 dX12_takesHats_10 rfl <|
z_iconst X dX12_takesHats_11 <|
z_iadd X dX12_takesHats_12 <|
z_istoreL_n (L1 := fun v4 => [(2, .int (pI v4)), (0, .ref (G.2.2.1 0)), (1, .int (pI p1)), (3, .int (pI x1.2))]) (R := rg) X dX12_takesHats_13 rfl (by decide) (fun _ => rfl) o (w32_rg _) fun v4 r5 o =>
z_iload_n X 3 dX12_takesHats_14 rfl <|
z_bipush X dX12_takesHats_15 bi_10 <|
z_idiv X dX12_takesHats_17 r3.2 kc_10 o fun z6 o =>
z_istoreL_n (L1 := fun v7 => [(3, .int (pI v7)), (2, .int (pI v4)), (0, .ref (G.2.2.1 0)), (1, .int (pI p1))]) (R := rg) X dX12_takesHats_18 rfl (by decide) (fun _ => rfl) o (w32_rg _) fun v7 r8 o =>
z_goto (tgt := 4) X dX12_takesHats_19 (by decide) <|
z_sub (L1 := [(0, .ref (G.2.2.1 0)), (1, .int (pI p1)), (2, .int (pI v4)), (3, .int (pI v7))]) X [2, 3, 1, 0] rfl <|
ok_some o ⟨r5, r8⟩) ⟨kc_0, hp1⟩ : At E s0 0 [(0, .ref (G.2.2.1 0)), (1, .int (pI p1))] [])
set_option maxHeartbeats 4000000 in
set_option maxRecDepth 100000 in
theorem ct_X12_hooks (p1 : Int) (p2 : Int) (hp1 : rg p1) (hp2 : rg p2) (G : Gw) (s0 : St) (r : Int) (σ1 : St) (e : fX12_hooks p1 p2 s0 = some (r, σ1)) : Ct yX12_hooks cX12_hooks 10 (some .int) 2 48 SM G [.ref (G.2.2.1 0), .int (pI p1), .int (pI p2)] s0 (QI SM G r rg σ1) :=
  Ct.of (by decide +kernel) (Nat.le_of_ble_eq_true rfl) fun E X Y => by
    have o : Ok (fX12_hooks p1 p2 s0) (fun x σ' => x = r ∧ σ' = σ1) := ⟨r, σ1, e, rfl, rfl⟩
    unfold fX12_hooks at o
    exact (
z_aload_n X 0 dX12_hooks_0 rfl <|
z_iconst X dX12_hooks_1 <|
z_putI X dX12_hooks_2 fl_X12_183 sm_0 ft_X12_0 rfl kc_0 o fun s1 o =>
z_iload_n X 1 dX12_hooks_5 rfl <|
z_bipush X dX12_hooks_6 bi_10 <|
z_icmp_lt (tgt := 21) X dX12_hooks_8 (by decide) hp1 kc_10 o (fun o =>
z_iconst X dX12_hooks_21 <|
z_iret X Y dX12_hooks_22 o kc_m1) fun o =>
z_aload_n X 0 dX12_hooks_11 rfl <|
z_iload_n X 2 dX12_hooks_12 rfl <|
z_iconst X dX12_hooks_13 <|
z_iconst X dX12_hooks_14 <|
z_callvI X dX12_hooks_15 q_1822 wX12_isIn sm_0 rfl (by decide) [.int (pI p2), .int (pI 0), .int (pI 2)] [] rfl rfl (Nat.le_of_ble_eq_true rfl) (fun r σ1 e => ct_X12_isIn p2 0 2 hp2 kc_0 kc_2 G _ r σ1 e) o fun r2 s3 h4 o =>
z_if_ne (tgt := 23) X dX12_hooks_18 (by decide) (r01_rg h4) o (fun o =>
z_aload_n X 0 dX12_hooks_23 rfl <|
z_iload_n X 1 dX12_hooks_24 rfl <|
z_callvI X dX12_hooks_25 q_2335 wX12_takesHats sm_0 rfl (by decide) [.int (pI p1)] [] rfl rfl (Nat.le_of_ble_eq_true rfl) (fun r σ1 e => ct_X12_takesHats p1 hp1 G _ r σ1 e) o fun r5 s6 h7 o =>
z_istore_n (L1 := [(3, .int (pI r5)), (0, .ref (G.2.2.1 0)), (1, .int (pI p1)), (2, .int (pI p2))]) X dX12_hooks_28 rfl (by decide) rfl <|
z_iload_n X 0 dX12_hooks_29 rfl <|
z_iconst X dX12_hooks_30 <|
z_icmp_ne (tgt := 36) X dX12_hooks_31 (by decide) h7 kc_m1 o (fun o =>
z_iconst X dX12_hooks_36 <|
z_istore (L1 := [(4, .int (pI 0)), (3, .int (pI r5)), (0, .ref (G.2.2.1 0)), (1, .int (pI p1)), (2, .int (pI p2))]) X dX12_hooks_37 (by decide) rfl <|
z_iconst X dX12_hooks_39 <|
z_istore (L1 := [(5, .int (pI 0)), (4, .int (pI 0)), (3, .int (pI r5)), (0, .ref (G.2.2.1 0)), (1, .int (pI p1)), (2, .int (pI p2))]) X dX12_hooks_40 (by decide) rfl <|
z_iconst X dX12_hooks_42 <|
z_istore (L1 := [(6, .int (pI 0)), (5, .int (pI 0)), (4, .int (pI 0)), (3, .int (pI r5)), (0, .ref (G.2.2.1 0)), (1, .int (pI p1)), (2, .int (pI p2))]) X dX12_hooks_43 (by decide) rfl <|
z_iconst X dX12_hooks_45 <|
z_istore (L1 := [(7, .int (pI 0)), (6, .int (pI 0)), (5, .int (pI 0)), (4, .int (pI 0)), (3, .int (pI r5)), (0, .ref (G.2.2.1 0)), (1, .int (pI p1)), (2, .int (pI p2))]) X dX12_hooks_46 (by decide) rfl <|
z_join o (fun (y48 : Int × Int × Int) s49 => rg y48.1 ∧ rg y48.2.1 ∧ rg y48.2.2 → At E s49 201 [(2, .int (pI p2)), (4, .int (pI y48.1)), (5, .int (pI y48.2.1)), (6, .int (pI y48.2.2))] []) (fun y48 s49 o r50 =>
z_iload_n X 0 dX12_hooks_201 rfl <|
z_if_ne (tgt := 210) X dX12_hooks_202 (by decide) hp2 o (fun o =>
z_iload_n X 0 dX12_hooks_210 rfl <|
z_iconst X dX12_hooks_211 <|
z_icmp_ne (tgt := 220) X dX12_hooks_212 (by decide) hp2 kc_1 o (fun o =>
z_iload X 3 dX12_hooks_220 rfl <|
z_iret X Y dX12_hooks_222 o r50.2.2) fun o =>
z_iload X 2 dX12_hooks_215 rfl <|
z_goto (tgt := 222) X dX12_hooks_217 (by decide) <|
z_iret X Y dX12_hooks_222 o r50.2.1) fun o =>
z_iload X 1 dX12_hooks_205 rfl <|
z_goto (tgt := 222) X dX12_hooks_207 (by decide) <|
z_iret X Y dX12_hooks_222 o r50.1) fun o =>
z_sub (L1 := [(0, .ref (G.2.2.1 0)), (2, .int (pI p2)), (3, .int (pI r5)), (4, .int (pI 0)), (5, .int (pI 0)), (6, .int (pI 0)), (7, .int (pI 0))]) X [5, 7, 4, 3, 2, 1, 0] rfl <|
z_iter (fun (x8 : Int × Int × Int × Int) s9 => rg x8.1 ∧ rg x8.2.1 ∧ rg x8.2.2.1 ∧ rg x8.2.2.2 → At E s9 48 [(0, .ref (G.2.2.1 0)), (2, .int (pI p2)), (3, .int (pI r5)), (4, .int (pI x8.1)), (5, .int (pI x8.2.1)), (6, .int (pI x8.2.2.1)), (7, .int (pI x8.2.2.2))] []) o (fun x8 s9 o r10 =>
z_iload X 6 dX12_hooks_48 rfl <|
z_iload_n X 2 dX12_hooks_50 rfl <|
z_icmp_ge (tgt := 201) X dX12_hooks_51 (by decide) r10.2.2.2 h7 o (fun o =>
z_sub (L1 := [(2, .int (pI p2)), (4, .int (pI x8.1)), (5, .int (pI x8.2.1)), (6, .int (pI x8.2.2.1))]) X [1, 3, 4, 5] rfl <|
ok_some o ⟨r10.1, r10.2.1, r10.2.2.1⟩) fun o =>
z_aload_n X 0 dX12_hooks_54 rfl <|
z_getR (q := 54) X dX12_hooks_55 fl_X12_173 sm_0 rfl <|
z_iload X 6 dX12_hooks_58 rfl <|
z_iconst X dX12_hooks_60 <|
z_iast X dX12_hooks_61 sm_54 r10.2.2.2 kc_1 o fun s11 o =>
z_iconst X dX12_hooks_62 <|
z_istore (L1 := [(8, .int (pI 0)), (0, .ref (G.2.2.1 0)), (2, .int (pI p2)), (3, .int (pI r5)), (4, .int (pI x8.1)), (5, .int (pI x8.2.1)), (6, .int (pI x8.2.2.1)), (7, .int (pI x8.2.2.2))]) X dX12_hooks_63 (by decide) rfl <|
z_iconst X dX12_hooks_65 <|
z_istore (L1 := [(9, .int (pI 0)), (8, .int (pI 0)), (0, .ref (G.2.2.1 0)), (2, .int (pI p2)), (3, .int (pI r5)), (4, .int (pI x8.1)), (5, .int (pI x8.2.1)), (6, .int (pI x8.2.2.1)), (7, .int (pI x8.2.2.2))]) X dX12_hooks_66 (by decide) rfl <|
z_join o (fun (y36 : Int) s37 => rg y36 → At E s37 161 [(0, .ref (G.2.2.1 0)), (2, .int (pI p2)), (3, .int (pI r5)), (4, .int (pI x8.1)), (5, .int (pI x8.2.1)), (6, .int (pI x8.2.2.1)), (7, .int (pI x8.2.2.2)), (8, .int (pI y36))] []) (fun y36 s37 o r38 =>
z_aload_n X 0 dX12_hooks_161 rfl <|
z_iload X 3 dX12_hooks_162 rfl <|
z_aload_n X 0 dX12_hooks_164 rfl <|
z_getR (q := 54) X dX12_hooks_165 fl_X12_173 sm_0 rfl <|
z_iload X 6 dX12_hooks_168 rfl <|
z_iald X dX12_hooks_170 sm_54 r10.2.2.2 o fun v39 r40 o =>
z_callvI X dX12_hooks_171 q_2205 wX12_greater sm_0 rfl (by decide) [.int (pI x8.1), .int (pI v39)] [] rfl rfl (Nat.le_of_ble_eq_true rfl) (fun r σ1 e => ct_X12_greater x8.1 v39 r10.1 r40 G _ r σ1 e) o fun r41 s42 h43 o =>
z_istore (L1 := [(4, .int (pI r41)), (0, .ref (G.2.2.1 0)), (2, .int (pI p2)), (3, .int (pI r5)), (5, .int (pI x8.2.1)), (6, .int (pI x8.2.2.1)), (7, .int (pI x8.2.2.2)), (8, .int (pI y36))]) X dX12_hooks_174 (by decide) rfl <|
z_iload X 4 dX12_hooks_176 rfl <|
z_iload X 7 dX12_hooks_178 rfl <|
z_iadd X dX12_hooks_180 <|
z_istoreL (L1 := fun v44 => [(5, .int (pI v44)), (4, .int (pI r41)), (0, .ref (G.2.2.1 0)), (2, .int (pI p2)), (3, .int (pI r5)), (6, .int (pI x8.2.2.1)), (7, .int (pI x8.2.2.2)), (8, .int (pI y36))]) (R := rg) X dX12_hooks_181 (by decide) (fun _ => rfl) o (w32_rg _) fun v44 r45 o =>
z_iload X 5 dX12_hooks_183 rfl <|
z_iload_n X 4 dX12_hooks_185 rfl <|
z_iload X 6 dX12_hooks_186 rfl <|
z_isub X dX12_hooks_188 <|
z_imul X dX12_hooks_189 <|
z_iload X 7 dX12_hooks_190 rfl <|
z_iadd X dX12_hooks_192 <|
z_istoreL (L1 := fun v46 => [(6, .int (pI v46)), (5, .int (pI v44)), (4, .int (pI r41)), (0, .ref (G.2.2.1 0)), (2, .int (pI p2)), (3, .int (pI r5)), (7, .int (pI x8.2.2.2)), (8, .int (pI y36))]) (R := rg) X dX12_hooks_193 (by decide) (fun _ => rfl) o (w32_rg _) fun v46 r47 o =>
z_iinc (L1 := [(7, .int (pI (w32 (x8.2.2.2 + 1)))), (6, .int (pI v46)), (5, .int (pI v44)), (4, .int (pI r41)), (0, .ref (G.2.2.1 0)), (2, .int (pI p2)), (3, .int (pI r5)), (8, .int (pI y36))]) X 6 dX12_hooks_195 rfl (by decide) rfl <|
z_goto (tgt := 48) X dX12_hooks_198 (by decide) <|
z_sub (L1 := [(0, .ref (G.2.2.1 0)), (2, .int (pI p2)), (3, .int (pI r5)), (4, .int (pI r41)), (5, .int (pI v44)), (6, .int (pI v46)), (7, .int (pI (w32 (x8.2.2.2 + 1))))]) X [4, 5, 6, 3, 2, 1, 0] rfl <|
ok_some o ⟨h43, r45, r47, (w32_rg _)⟩) fun o =>
z_sub (L1 := [(0, .ref (G.2.2.1 0)), (2, .int (pI p2)), (3, .int (pI r5)), (4, .int (pI x8.1)), (5, .int (pI x8.2.1)), (6, .int (pI x8.2.2.1)), (7, .int (pI x8.2.2.2)), (8, .int (pI 0)), (9, .int (pI 0))]) X [2, 3, 4, 5, 6, 7, 8, 1, 0] rfl <|
z_iter (fun (x12 : Int × Int) s13 => rg x12.1 ∧ rg x12.2 → At E s13 68 [(0, .ref (G.2.2.1 0)), (2, .int (pI p2)), (3, .int (pI r5)), (4, .int (pI x8.1)), (5, .int (pI x8.2.1)), (6, .int (pI x8.2.2.1)), (7, .int (pI x8.2.2.2)), (8, .int (pI x12.1)), (9, .int (pI x12.2))] []) o (fun x12 s13 o r14 =>
z_iload X 8 dX12_hooks_68 rfl <|
z_iload_n X 2 dX12_hooks_70 rfl <|
z_icmp_ge (tgt := 161) X dX12_hooks_71 (by decide) r14.2 h7 o (fun o =>
z_sub (L1 := [(0, .ref (G.2.2.1 0)), (2, .int (pI p2)), (3, .int (pI r5)), (4, .int (pI x8.1)), (5, .int (pI x8.2.1)), (6, .int (pI x8.2.2.1)), (7, .int (pI x8.2.2.2)), (8, .int (pI x12.1))]) X [0, 1, 2, 3, 4, 5, 6, 7] rfl <|
ok_some o r14.1) fun o =>
z_iload X 8 dX12_hooks_74 rfl <|
z_iload X 6 dX12_hooks_76 rfl <|
z_join o (fun (y27 : Unit) s28 => True → At E s28 125 [(0, .ref (G.2.2.1 0)), (2, .int (pI p2)), (3, .int (pI r5)), (4, .int (pI x8.1)), (5, .int (pI x8.2.1)), (6, .int (pI x8.2.2.1)), (7, .int (pI x8.2.2.2)), (8, .int (pI x12.1)), (9, .int (pI x12.2))] []) (fun y27 s28 o r29 =>
z_iload X 8 dX12_hooks_125 rfl <|
z_iload X 6 dX12_hooks_127 rfl <|
z_icmp_le (tgt := 155) X dX12_hooks_129 (by decide) r14.2 r10.2.2.2 o (fun o =>
z_iinc (L1 := [(9, .int (pI (w32 (x12.2 + 1)))), (0, .ref (G.2.2.1 0)), (2, .int (pI p2)), (3, .int (pI r5)), (4, .int (pI x8.1)), (5, .int (pI x8.2.1)), (6, .int (pI x8.2.2.1)), (7, .int (pI x8.2.2.2)), (8, .int (pI x12.1))]) X 8 dX12_hooks_155 rfl (by decide) rfl <|
z_goto (tgt := 68) X dX12_hooks_158 (by decide) <|
z_sub (L1 := [(0, .ref (G.2.2.1 0)), (2, .int (pI p2)), (3, .int (pI r5)), (4, .int (pI x8.1)), (5, .int (pI x8.2.1)), (6, .int (pI x8.2.2.1)), (7, .int (pI x8.2.2.2)), (8, .int (pI x12.1)), (9, .int (pI (w32 (x12.2 + 1))))]) X [1, 2, 3, 4, 5, 6, 7, 8, 0] rfl <|
ok_some o ⟨r14.1, (w32_rg _)⟩) fun o =>
z_aload_n X 0 dX12_hooks_132 rfl <|
z_getR (q := 28) X dX12_hooks_133 fl_X12_95 sm_0 rfl <|
z_iload X 8 dX12_hooks_136 rfl <|
z_iald X dX12_hooks_138 sm_28 r14.2 o fun v30 r31 o =>
z_aload_n X 0 dX12_hooks_139 rfl <|
z_getR (q := 28) X dX12_hooks_140 fl_X12_95 sm_0 rfl <|
z_iload X 6 dX12_hooks_143 rfl <|
z_iald X dX12_hooks_145 sm_28 r10.2.2.2 o fun v32 r33 o =>
z_icmp_ge (tgt := 155) X dX12_hooks_146 (by decide) r31 r33 o (fun o =>
z_iinc (L1 := [(9, .int (pI (w32 (x12.2 + 1)))), (0, .ref (G.2.2.1 0)), (2, .int (pI p2)), (3, .int (pI r5)), (4, .int (pI x8.1)), (5, .int (pI x8.2.1)), (6, .int (pI x8.2.2.1)), (7, .int (pI x8.2.2.2)), (8, .int (pI x12.1))]) X 8 dX12_hooks_155 rfl (by decide) rfl <|
z_goto (tgt := 68) X dX12_hooks_158 (by decide) <|
z_sub (L1 := [(0, .ref (G.2.2.1 0)), (2, .int (pI p2)), (3, .int (pI r5)), (4, .int (pI x8.1)), (5, .int (pI x8.2.1)), (6, .int (pI x8.2.2.1)), (7, .int (pI x8.2.2.2)), (8, .int (pI x12.1)), (9, .int (pI (w32 (x12.2 + 1))))]) X [1, 2, 3, 4, 5, 6, 7, 8, 0] rfl <|
ok_some o ⟨r14.1, (w32_rg _)⟩) fun o =>
z_iload X 7 dX12_hooks_149 rfl <|
z_iconst X dX12_hooks_151 <|
z_iadd X dX12_hooks_152 <|
z_istoreL (L1 := fun v34 => [(8, .int (pI v34)), (0, .ref (G.2.2.1 0)), (2, .int (pI p2)), (3, .int (pI r5)), (4, .int (pI x8.1)), (5, .int (pI x8.2.1)), (6, .int (pI x8.2.2.1)), (7, .int (pI x8.2.2.2)), (9, .int (pI x12.2))]) (R := rg) X dX12_hooks_153 (by decide) (fun _ => rfl) o (w32_rg _) fun v34 r35 o =>
z_iinc (L1 := [(9, .int (pI (w32 (x12.2 + 1)))), (8, .int (pI v34)), (0, .ref (G.2.2.1 0)), (2, .int (pI p2)), (3, .int (pI r5)), (4, .int (pI x8.1)), (5, .int (pI x8.2.1)), (6, .int (pI x8.2.2.1)), (7, .int (pI x8.2.2.2))]) X 8 dX12_hooks_155 rfl (by decide) rfl <|
z_goto (tgt := 68) X dX12_hooks_158 (by decide) <|
z_sub (L1 := [(0, .ref (G.2.2.1 0)), (2, .int (pI p2)), (3, .int (pI r5)), (4, .int (pI x8.1)), (5, .int (pI x8.2.1)), (6, .int (pI x8.2.2.1)), (7, .int (pI x8.2.2.2)), (8, .int (pI v34)), (9, .int (pI (w32 (x12.2 + 1))))]) X [2, 3, 4, 5, 6, 7, 8, 1, 0] rfl <|
ok_some o ⟨r35, (w32_rg _)⟩) fun o =>
z_icmp_ge (tgt := 125) X dX12_hooks_78 (by decide) r14.2 r10.2.2.2 o (fun o =>
ok_some o trivial) fun o =>
z_aload_n X 0 dX12_hooks_81 rfl <|
z_getR (q := 28) X dX12_hooks_82 fl_X12_95 sm_0 rfl <|
z_iload X 8 dX12_hooks_85 rfl <|
z_iald X dX12_hooks_87 sm_28 r14.2 o fun v15 r16 o =>
z_aload_n X 0 dX12_hooks_88 rfl <|
z_getR (q := 28) X dX12_hooks_89 fl_X12_95 sm_0 rfl <|
z_iload X 6 dX12_hooks_92 rfl <|
z_iald X dX12_hooks_94 sm_28 r10.2.2.2 o fun v17 r18 o =>
z_icmp_ge (tgt := 125) X dX12_hooks_95 (by decide) r16 r18 o (fun o =>
ok_some o trivial) fun o =>
z_aload_n X 0 dX12_hooks_98 rfl <|
z_getR (q := 54) X dX12_hooks_99 fl_X12_173 sm_0 rfl <|
z_iload X 6 dX12_hooks_102 rfl <|
z_aload_n X 0 dX12_hooks_104 rfl <|
z_aload_n X 0 dX12_hooks_105 rfl <|
z_getR (q := 54) X dX12_hooks_106 fl_X12_173 sm_0 rfl <|
z_iload X 6 dX12_hooks_109 rfl <|
z_iald X dX12_hooks_111 sm_54 r10.2.2.2 o fun v19 r20 o =>
z_aload_n X 0 dX12_hooks_112 rfl <|
z_getR (q := 54) X dX12_hooks_113 fl_X12_173 sm_0 rfl <|
z_iload X 8 dX12_hooks_116 rfl <|
z_iald X dX12_hooks_118 sm_54 r14.2 o fun v21 r22 o =>
z_iconst X dX12_hooks_119 <|
z_iadd X dX12_hooks_120 <|
z_callvI X dX12_hooks_121 q_2205 wX12_greater sm_0 rfl (by decide) [.int (pI v19), .int (pI (w32 (v21 + 1)))] [.int (pI x8.2.2.2), .ref (G.2.2.1 54)] rfl rfl (Nat.le_of_ble_eq_true rfl) (fun r σ1 e => ct_X12_greater v19 (w32 (v21 + 1)) r20 (w32_rg _) G _ r σ1 e) o fun r23 s24 h25 o =>
z_iast X dX12_hooks_124 sm_54 r10.2.2.2 h25 o fun s26 o =>
ok_some o trivial) ⟨kc_0, kc_0⟩) ⟨kc_0, kc_0, kc_0, kc_0⟩) fun o =>
z_iconst X dX12_hooks_34 <|
z_iret X Y dX12_hooks_35 o kc_m1) fun o =>
z_iconst X dX12_hooks_21 <|
z_iret X Y dX12_hooks_22 o kc_m1 : At E s0 0 [(0, .ref (G.2.2.1 0)), (1, .int (pI p1)), (2, .int (pI p2))] [])
set_option maxHeartbeats 4000000 in
set_option maxRecDepth 100000 in
theorem ct_X12_keeps (p1 : Int) (hp1 : rg p1) (G : Gw) (s0 : St) (r : Int) (σ1 : St) (e : fX12_keeps p1 s0 = some (r, σ1)) : Ct yX12_keeps cX12_keeps 2 (some .int) 0 0 SM G [.ref (G.2.2.1 0), .int (pI p1)] s0 (QI SM G r rg σ1) :=
  Ct.of (by decide +kernel) (Nat.le_of_ble_eq_true rfl) fun E X Y => by
    have o : Ok (fX12_keeps p1 s0) (fun x σ' => x = r ∧ σ' = σ1) := ⟨r, σ1, e, rfl, rfl⟩
    unfold fX12_keeps at o
    exact (
z_aload_n X 0 dX12_keeps_0 rfl <|
z_aload_n X 0 dX12_keeps_1 rfl <|
z_getI X dX12_keeps_2 fl_X12_561 sm_0 rfl o fun v1 r2 o =>
z_iconst X dX12_keeps_5 <|
z_iadd X dX12_keeps_6 <|
z_putI X dX12_keeps_7 fl_X12_561 sm_0 ft_X12_85 rfl (w32_rg _) o fun s3 o =>
z_aload_n X 0 dX12_keeps_10 rfl <|
z_getI X dX12_keeps_11 fl_X12_564 sm_0 rfl o fun v4 r5 o =>
z_if_ne (tgt := 29) X dX12_keeps_14 (by decide) r5 o (fun o =>
z_aload_n X 0 dX12_keeps_29 rfl <|
z_getR (q := 56) X dX12_keeps_30 fl_X12_180 sm_0 rfl <|
z_aload_n X 0 dX12_keeps_33 rfl <|
z_getI X dX12_keeps_34 fl_X12_561 sm_0 rfl o fun v6 r7 o =>
z_iconst X dX12_keeps_37 <|
z_isub X dX12_keeps_38 <|
z_iload_n X 1 dX12_keeps_39 rfl <|
z_iast X dX12_keeps_40 sm_56 (w32_rg _) hp1 o fun s8 o =>
z_iload_n X 1 dX12_keeps_41 rfl <|
z_iret X Y dX12_keeps_42 o hp1) fun o =>
z_aload_n X 0 dX12_keeps_17 rfl <|
z_getR (q := 56) X dX12_keeps_18 fl_X12_180 sm_0 rfl <|
z_aload_n X 0 dX12_keeps_21 rfl <|
z_getI X dX12_keeps_22 fl_X12_561 sm_0 rfl o fun v9 r10 o =>
z_iconst X dX12_keeps_25 <|
z_isub X dX12_keeps_26 <|
z_iald X dX12_keeps_27 sm_56 (w32_rg _) o fun v11 r12 o =>
z_iret X Y dX12_keeps_28 o r12 : At E s0 0 [(0, .ref (G.2.2.1 0)), (1, .int (pI p1))] [])
set_option maxHeartbeats 4000000 in
set_option maxRecDepth 100000 in
theorem ct_X12_keepsMany   (G : Gw) (s0 : St) (r : Int) (σ1 : St) (e : fX12_keepsMany s0 = some (r, σ1)) : Ct yX12_keepsMany cX12_keepsMany 2 none 1 21 SM G [.ref (G.2.2.1 0)] s0 (QV SM G σ1) :=
  Ct.of (by decide +kernel) (Nat.le_of_ble_eq_true rfl) fun E X Y => by
    have o : Ok (fX12_keepsMany s0) (fun x σ' => x = r ∧ σ' = σ1) := ⟨r, σ1, e, rfl, rfl⟩
    unfold fX12_keepsMany at o
    exact (
z_aload_n X 0 dX12_keepsMany_0 rfl <|
z_aload_n X 0 dX12_keepsMany_1 rfl <|
z_aload_n X 0 dX12_keepsMany_2 rfl <|
z_getI X dX12_keepsMany_3 fl_X12_196 sm_0 rfl o fun v1 r2 o =>
z_callvI X dX12_keepsMany_6 q_2351 wX12_keeps sm_0 rfl (by decide) [.int (pI v1)] [.ref (G.2.2.1 0)] rfl rfl (Nat.le_of_ble_eq_true rfl) (fun r σ1 e => ct_X12_keeps v1 r2 G _ r σ1 e) o fun r3 s4 h5 o =>
z_putI X dX12_keepsMany_9 fl_X12_196 sm_0 ft_X12_6 rfl h5 o fun s6 o =>
z_aload_n X 0 dX12_keepsMany_12 rfl <|
z_aload_n X 0 dX12_keepsMany_13 rfl <|
z_aload_n X 0 dX12_keepsMany_14 rfl <|
z_getI X dX12_keepsMany_15 fl_X12_199 sm_0 rfl o fun v7 r8 o =>
z_callvI X dX12_keepsMany_18 q_2351 wX12_keeps sm_0 rfl (by decide) [.int (pI v7)] [.ref (G.2.2.1 0)] rfl rfl (Nat.le_of_ble_eq_true rfl) (fun r σ1 e => ct_X12_keeps v7 r8 G _ r σ1 e) o fun r9 s10 h11 o =>
z_putI X dX12_keepsMany_21 fl_X12_199 sm_0 ft_X12_7 rfl h11 o fun s12 o =>
z_aload_n X 0 dX12_keepsMany_24 rfl <|
z_aload_n X 0 dX12_keepsMany_25 rfl <|
z_aload_n X 0 dX12_keepsMany_26 rfl <|
z_getI X dX12_keepsMany_27 fl_X12_355 sm_0 rfl o fun v13 r14 o =>
z_callvI X dX12_keepsMany_30 q_2351 wX12_keeps sm_0 rfl (by decide) [.int (pI v13)] [.ref (G.2.2.1 0)] rfl rfl (Nat.le_of_ble_eq_true rfl) (fun r σ1 e => ct_X12_keeps v13 r14 G _ r σ1 e) o fun r15 s16 h17 o =>
z_putI X dX12_keepsMany_33 fl_X12_355 sm_0 ft_X12_35 rfl h17 o fun s18 o =>
z_aload_n X 0 dX12_keepsMany_36 rfl <|
z_aload_n X 0 dX12_keepsMany_37 rfl <|
z_aload_n X 0 dX12_keepsMany_38 rfl <|
z_getI X dX12_keepsMany_39 fl_X12_358 sm_0 rfl o fun v19 r20 o =>
z_callvI X dX12_keepsMany_42 q_2351 wX12_keeps sm_0 rfl (by decide) [.int (pI v19)] [.ref (G.2.2.1 0)] rfl rfl (Nat.le_of_ble_eq_true rfl) (fun r σ1 e => ct_X12_keeps v19 r20 G _ r σ1 e) o fun r21 s22 h23 o =>
z_putI X dX12_keepsMany_45 fl_X12_358 sm_0 ft_X12_37 rfl h23 o fun s24 o =>
z_aload_n X 0 dX12_keepsMany_48 rfl <|
z_aload_n X 0 dX12_keepsMany_49 rfl <|
z_aload_n X 0 dX12_keepsMany_50 rfl <|
z_getI X dX12_keepsMany_51 fl_X12_352 sm_0 rfl o fun v25 r26 o =>
z_callvI X dX12_keepsMany_54 q_2351 wX12_keeps sm_0 rfl (by decide) [.int (pI v25)] [.ref (G.2.2.1 0)] rfl rfl (Nat.le_of_ble_eq_true rfl) (fun r σ1 e => ct_X12_keeps v25 r26 G _ r σ1 e) o fun r27 s28 h29 o =>
z_putI X dX12_keepsMany_57 fl_X12_352 sm_0 ft_X12_39 rfl h29 o fun s30 o =>
z_aload_n X 0 dX12_keepsMany_60 rfl <|
z_aload_n X 0 dX12_keepsMany_61 rfl <|
z_aload_n X 0 dX12_keepsMany_62 rfl <|
z_getI X dX12_keepsMany_63 fl_X12_487 sm_0 rfl o fun v31 r32 o =>
z_callvI X dX12_keepsMany_66 q_2351 wX12_keeps sm_0 rfl (by decide) [.int (pI v31)] [.ref (G.2.2.1 0)] rfl rfl (Nat.le_of_ble_eq_true rfl) (fun r σ1 e => ct_X12_keeps v31 r32 G _ r σ1 e) o fun r33 s34 h35 o =>
z_putI X dX12_keepsMany_69 fl_X12_487 sm_0 ft_X12_49 rfl h35 o fun s36 o =>
z_aload_n X 0 dX12_keepsMany_72 rfl <|
z_aload_n X 0 dX12_keepsMany_73 rfl <|
z_aload_n X 0 dX12_keepsMany_74 rfl <|
z_getI X dX12_keepsMany_75 fl_X12_496 sm_0 rfl o fun v37 r38 o =>
z_callvI X dX12_keepsMany_78 q_2351 wX12_keeps sm_0 rfl (by decide) [.int (pI v37)] [.ref (G.2.2.1 0)] rfl rfl (Nat.le_of_ble_eq_true rfl) (fun r σ1 e => ct_X12_keeps v37 r38 G _ r σ1 e) o fun r39 s40 h41 o =>
z_putI X dX12_keepsMany_81 fl_X12_496 sm_0 ft_X12_52 rfl h41 o fun s42 o =>
z_aload_n X 0 dX12_keepsMany_84 rfl <|
z_aload_n X 0 dX12_keepsMany_85 rfl <|
z_aload_n X 0 dX12_keepsMany_86 rfl <|
z_getI X dX12_keepsMany_87 fl_X12_500 sm_0 rfl o fun v43 r44 o =>
z_callvI X dX12_keepsMany_90 q_2351 wX12_keeps sm_0 rfl (by decide) [.int (pI v43)] [.ref (G.2.2.1 0)] rfl rfl (Nat.le_of_ble_eq_true rfl) (fun r σ1 e => ct_X12_keeps v43 r44 G _ r σ1 e) o fun r45 s46 h47 o =>
z_putI X dX12_keepsMany_93 fl_X12_500 sm_0 ft_X12_58 rfl h47 o fun s48 o =>
z_aload_n X 0 dX12_keepsMany_96 rfl <|
z_aload_n X 0 dX12_keepsMany_97 rfl <|
z_aload_n X 0 dX12_keepsMany_98 rfl <|
z_getI X dX12_keepsMany_99 fl_X12_512 sm_0 rfl o fun v49 r50 o =>
z_callvI X dX12_keepsMany_102 q_2351 wX12_keeps sm_0 rfl (by decide) [.int (pI v49)] [.ref (G.2.2.1 0)] rfl rfl (Nat.le_of_ble_eq_true rfl) (fun r σ1 e => ct_X12_keeps v49 r50 G _ r σ1 e) o fun r51 s52 h53 o =>
z_putI X dX12_keepsMany_105 fl_X12_512 sm_0 ft_X12_62 rfl h53 o fun s54 o =>
z_aload_n X 0 dX12_keepsMany_108 rfl <|
z_aload_n X 0 dX12_keepsMany_109 rfl <|
z_aload_n X 0 dX12_keepsMany_110 rfl <|
z_getI X dX12_keepsMany_111 fl_X12_524 sm_0 rfl o fun v55 r56 o =>
z_callvI X dX12_keepsMany_114 q_2351 wX12_keeps sm_0 rfl (by decide) [.int (pI v55)] [.ref (G.2.2.1 0)] rfl rfl (Nat.le_of_ble_eq_true rfl) (fun r σ1 e => ct_X12_keeps v55 r56 G _ r σ1 e) o fun r57 s58 h59 o =>
z_putI X dX12_keepsMany_117 fl_X12_524 sm_0 ft_X12_64 rfl h59 o fun s60 o =>
z_iconst X dX12_keepsMany_120 <|
z_istore_n (L1 := [(1, .int (pI 0)), (0, .ref (G.2.2.1 0))]) X dX12_keepsMany_121 rfl (by decide) rfl <|
z_join o (fun (y70 : Unit) s71 => True → At E s71 149 [(0, .ref (G.2.2.1 0))] []) (fun y70 s71 o r72 =>
z_aload_n X 0 dX12_keepsMany_149 rfl <|
z_aload_n X 0 dX12_keepsMany_150 rfl <|
z_aload_n X 0 dX12_keepsMany_151 rfl <|
z_getI X dX12_keepsMany_152 fl_X12_537 sm_0 rfl o fun v73 r74 o =>
z_callvI X dX12_keepsMany_155 q_2351 wX12_keeps sm_0 rfl (by decide) [.int (pI v73)] [.ref (G.2.2.1 0)] rfl rfl (Nat.le_of_ble_eq_true rfl) (fun r σ1 e => ct_X12_keeps v73 r74 G _ r σ1 e) o fun r75 s76 h77 o =>
z_putI X dX12_keepsMany_158 fl_X12_537 sm_0 ft_X12_70 rfl h77 o fun s78 o =>
z_aload_n X 0 dX12_keepsMany_161 rfl <|
z_aload_n X 0 dX12_keepsMany_162 rfl <|
z_aload_n X 0 dX12_keepsMany_163 rfl <|
z_getI X dX12_keepsMany_164 fl_X12_543 sm_0 rfl o fun v79 r80 o =>
z_callvI X dX12_keepsMany_167 q_2351 wX12_keeps sm_0 rfl (by decide) [.int (pI v79)] [.ref (G.2.2.1 0)] rfl rfl (Nat.le_of_ble_eq_true rfl) (fun r σ1 e => ct_X12_keeps v79 r80 G _ r σ1 e) o fun r81 s82 h83 o =>
z_putI X dX12_keepsMany_170 fl_X12_543 sm_0 ft_X12_72 rfl h83 o fun s84 o =>
z_vret (v := 0) X Y dX12_keepsMany_173 o) fun o =>
z_sub (L1 := [(0, .ref (G.2.2.1 0)), (1, .int (pI 0))]) X [1, 0] rfl <|
z_iter (fun (x61 : Int) s62 => rg x61 → At E s62 122 [(0, .ref (G.2.2.1 0)), (1, .int (pI x61))] []) o (fun x61 s62 o r63 =>
z_iload_n X 1 dX12_keepsMany_122 rfl <|
z_iconst X dX12_keepsMany_123 <|
z_icmp_ge (tgt := 149) X dX12_keepsMany_124 (by decide) r63 kc_3 o (fun o =>
z_sub (L1 := [(0, .ref (G.2.2.1 0))]) X [0] rfl <|
ok_some o trivial) fun o =>
z_aload_n X 0 dX12_keepsMany_127 rfl <|
z_getR (q := 42) X dX12_keepsMany_128 fl_X12_137 sm_0 rfl <|
z_iload_n X 1 dX12_keepsMany_131 rfl <|
z_aload_n X 0 dX12_keepsMany_132 rfl <|
z_aload_n X 0 dX12_keepsMany_133 rfl <|
z_getR (q := 42) X dX12_keepsMany_134 fl_X12_137 sm_0 rfl <|
z_iload_n X 1 dX12_keepsMany_137 rfl <|
z_iald X dX12_keepsMany_138 sm_42 r63 o fun v64 r65 o =>
z_callvI X dX12_keepsMany_139 q_2351 wX12_keeps sm_0 rfl (by decide) [.int (pI v64)] [.int (pI x61), .ref (G.2.2.1 42)] rfl rfl (Nat.le_of_ble_eq_true rfl) (fun r σ1 e => ct_X12_keeps v64 r65 G _ r σ1 e) o fun r66 s67 h68 o =>
z_iast X dX12_keepsMany_142 sm_42 r63 h68 o fun s69 o =>
z_iinc (L1 := [(1, .int (pI (w32 (x61 + 1)))), (0, .ref (G.2.2.1 0))]) X 1 dX12_keepsMany_143 rfl (by decide) rfl <|
z_goto (tgt := 122) X dX12_keepsMany_146 (by decide) <|
z_sub (L1 := [(0, .ref (G.2.2.1 0)), (1, .int (pI (w32 (x61 + 1))))]) X [1, 0] rfl <|
ok_some o (w32_rg _)) kc_0 : At E s0 0 [(0, .ref (G.2.2.1 0))] [])
set_option maxHeartbeats 4000000 in
set_option maxRecDepth 100000 in
theorem ct_X12_keepsThought   (G : Gw) (s0 : St) (r : Int) (σ1 : St) (e : fX12_keepsThought s0 = some (r, σ1)) : Ct yX12_keepsThought cX12_keepsThought 2 none 1 21 SM G [.ref (G.2.2.1 0)] s0 (QV SM G σ1) :=
  Ct.of (by decide +kernel) (Nat.le_of_ble_eq_true rfl) fun E X Y => by
    have o : Ok (fX12_keepsThought s0) (fun x σ' => x = r ∧ σ' = σ1) := ⟨r, σ1, e, rfl, rfl⟩
    unfold fX12_keepsThought at o
    exact (
z_iconst X dX12_keepsThought_0 <|
z_istore_n (L1 := [(1, .int (pI 0)), (0, .ref (G.2.2.1 0))]) X dX12_keepsThought_1 rfl (by decide) rfl <|
z_join o (fun (y10 : Unit) s11 => True → At E s11 30 [(0, .ref (G.2.2.1 0))] []) (fun y10 s11 o r12 =>
z_iconst X dX12_keepsThought_30 <|
z_istore_n (L1 := [(1, .int (pI 0)), (0, .ref (G.2.2.1 0))]) X dX12_keepsThought_31 rfl (by decide) rfl <|
z_join o (fun (y28 : Unit) s29 => True → At E s29 75 [(0, .ref (G.2.2.1 0))] []) (fun y28 s29 o r30 =>
z_iconst X dX12_keepsThought_75 <|
z_istore_n (L1 := [(1, .int (pI 0)), (0, .ref (G.2.2.1 0))]) X dX12_keepsThought_76 rfl (by decide) rfl <|
z_join o (fun (y52 : Unit) s53 => True → At E s53 137 [(0, .ref (G.2.2.1 0))] []) (fun y52 s53 o r54 =>
z_iconst X dX12_keepsThought_137 <|
z_istore_n (L1 := [(1, .int (pI 0)), (0, .ref (G.2.2.1 0))]) X dX12_keepsThought_138 rfl (by decide) rfl <|
z_join o (fun (y64 : Unit) s65 => True → At E s65 167 [(0, .ref (G.2.2.1 0))] []) (fun y64 s65 o r66 =>
z_iconst X dX12_keepsThought_167 <|
z_istore_n (L1 := [(1, .int (pI 0)), (0, .ref (G.2.2.1 0))]) X dX12_keepsThought_168 rfl (by decide) rfl <|
z_join o (fun (y76 : Unit) s77 => True → At E s77 197 [] []) (fun y76 s77 o r78 =>
z_vret (v := 0) X Y dX12_keepsThought_197 o) fun o =>
z_sub (L1 := [(0, .ref (G.2.2.1 0)), (1, .int (pI 0))]) X [1, 0] rfl <|
z_iter (fun (x67 : Int) s68 => rg x67 → At E s68 169 [(0, .ref (G.2.2.1 0)), (1, .int (pI x67))] []) o (fun x67 s68 o r69 =>
z_iload_n X 1 dX12_keepsThought_169 rfl <|
z_bipush X dX12_keepsThought_170 bi_72 <|
z_icmp_ge (tgt := 197) X dX12_keepsThought_172 (by decide) r69 kc_72 o (fun o =>
z_sub (L1 := []) X [] rfl <|
ok_some o trivial) fun o =>
z_aload_n X 0 dX12_keepsThought_175 rfl <|
z_getR (q := 43) X dX12_keepsThought_176 fl_X12_140 sm_0 rfl <|
z_iload_n X 1 dX12_keepsThought_179 rfl <|
z_aload_n X 0 dX12_keepsThought_180 rfl <|
z_aload_n X 0 dX12_keepsThought_181 rfl <|
z_getR (q := 43) X dX12_keepsThought_182 fl_X12_140 sm_0 rfl <|
z_iload_n X 1 dX12_keepsThought_185 rfl <|
z_iald X dX12_keepsThought_186 sm_43 r69 o fun v70 r71 o =>
z_callvI X dX12_keepsThought_187 q_2351 wX12_keeps sm_0 rfl (by decide) [.int (pI v70)] [.int (pI x67), .ref (G.2.2.1 43)] rfl rfl (Nat.le_of_ble_eq_true rfl) (fun r σ1 e => ct_X12_keeps v70 r71 G _ r σ1 e) o fun r72 s73 h74 o =>
z_iast X dX12_keepsThought_190 sm_43 r69 h74 o fun s75 o =>
z_iinc (L1 := [(1, .int (pI (w32 (x67 + 1)))), (0, .ref (G.2.2.1 0))]) X 1 dX12_keepsThought_191 rfl (by decide) rfl <|
z_goto (tgt := 169) X dX12_keepsThought_194 (by decide) <|
z_sub (L1 := [(0, .ref (G.2.2.1 0)), (1, .int (pI (w32 (x67 + 1))))]) X [1, 0] rfl <|
ok_some o (w32_rg _)) kc_0) fun o =>
z_sub (L1 := [(0, .ref (G.2.2.1 0)), (1, .int (pI 0))]) X [1, 0] rfl <|
z_iter (fun (x55 : Int) s56 => rg x55 → At E s56 139 [(0, .ref (G.2.2.1 0)), (1, .int (pI x55))] []) o (fun x55 s56 o r57 =>
z_iload_n X 1 dX12_keepsThought_139 rfl <|
z_bipush X dX12_keepsThought_140 bi_24 <|
z_icmp_ge (tgt := 167) X dX12_keepsThought_142 (by decide) r57 kc_24 o (fun o =>
z_sub (L1 := [(0, .ref (G.2.2.1 0))]) X [0] rfl <|
ok_some o trivial) fun o =>
z_aload_n X 0 dX12_keepsThought_145 rfl <|
z_getR (q := 40) X dX12_keepsThought_146 fl_X12_131 sm_0 rfl <|
z_iload_n X 1 dX12_keepsThought_149 rfl <|
z_aload_n X 0 dX12_keepsThought_150 rfl <|
z_aload_n X 0 dX12_keepsThought_151 rfl <|
z_getR (q := 40) X dX12_keepsThought_152 fl_X12_131 sm_0 rfl <|
z_iload_n X 1 dX12_keepsThought_155 rfl <|
z_iald X dX12_keepsThought_156 sm_40 r57 o fun v58 r59 o =>
z_callvI X dX12_keepsThought_157 q_2351 wX12_keeps sm_0 rfl (by decide) [.int (pI v58)] [.int (pI x55), .ref (G.2.2.1 40)] rfl rfl (Nat.le_of_ble_eq_true rfl) (fun r σ1 e => ct_X12_keeps v58 r59 G _ r σ1 e) o fun r60 s61 h62 o =>
z_iast X dX12_keepsThought_160 sm_40 r57 h62 o fun s63 o =>
z_iinc (L1 := [(1, .int (pI (w32 (x55 + 1)))), (0, .ref (G.2.2.1 0))]) X 1 dX12_keepsThought_161 rfl (by decide) rfl <|
z_goto (tgt := 139) X dX12_keepsThought_164 (by decide) <|
z_sub (L1 := [(0, .ref (G.2.2.1 0)), (1, .int (pI (w32 (x55 + 1))))]) X [1, 0] rfl <|
ok_some o (w32_rg _)) kc_0) fun o =>
z_sub (L1 := [(0, .ref (G.2.2.1 0)), (1, .int (pI 0))]) X [1, 0] rfl <|
z_iter (fun (x31 : Int) s32 => rg x31 → At E s32 77 [(0, .ref (G.2.2.1 0)), (1, .int (pI x31))] []) o (fun x31 s32 o r33 =>
z_iload_n X 1 dX12_keepsThought_77 rfl <|
z_bipush X dX12_keepsThought_78 bi_8 <|
z_icmp_ge (tgt := 137) X dX12_keepsThought_80 (by decide) r33 kc_8 o (fun o =>
z_sub (L1 := [(0, .ref (G.2.2.1 0))]) X [0] rfl <|
ok_some o trivial) fun o =>
z_aload_n X 0 dX12_keepsThought_83 rfl <|
z_getR (q := 36) X dX12_keepsThought_84 fl_X12_119 sm_0 rfl <|
z_iload_n X 1 dX12_keepsThought_87 rfl <|
z_aload_n X 0 dX12_keepsThought_88 rfl <|
z_aload_n X 0 dX12_keepsThought_89 rfl <|
z_getR (q := 36) X dX12_keepsThought_90 fl_X12_119 sm_0 rfl <|
z_iload_n X 1 dX12_keepsThought_93 rfl <|
z_iald X dX12_keepsThought_94 sm_36 r33 o fun v34 r35 o =>
z_callvI X dX12_keepsThought_95 q_2351 wX12_keeps sm_0 rfl (by decide) [.int (pI v34)] [.int (pI x31), .ref (G.2.2.1 36)] rfl rfl (Nat.le_of_ble_eq_true rfl) (fun r σ1 e => ct_X12_keeps v34 r35 G _ r σ1 e) o fun r36 s37 h38 o =>
z_iast X dX12_keepsThought_98 sm_36 r33 h38 o fun s39 o =>
z_aload_n X 0 dX12_keepsThought_99 rfl <|
z_getR (q := 45) X dX12_keepsThought_100 fl_X12_146 sm_0 rfl <|
z_iload_n X 1 dX12_keepsThought_103 rfl <|
z_aload_n X 0 dX12_keepsThought_104 rfl <|
z_aload_n X 0 dX12_keepsThought_105 rfl <|
z_getR (q := 45) X dX12_keepsThought_106 fl_X12_146 sm_0 rfl <|
z_iload_n X 1 dX12_keepsThought_109 rfl <|
z_iald X dX12_keepsThought_110 sm_45 r33 o fun v40 r41 o =>
z_callvI X dX12_keepsThought_111 q_2351 wX12_keeps sm_0 rfl (by decide) [.int (pI v40)] [.int (pI x31), .ref (G.2.2.1 45)] rfl rfl (Nat.le_of_ble_eq_true rfl) (fun r σ1 e => ct_X12_keeps v40 r41 G _ r σ1 e) o fun r42 s43 h44 o =>
z_iast X dX12_keepsThought_114 sm_45 r33 h44 o fun s45 o =>
z_aload_n X 0 dX12_keepsThought_115 rfl <|
z_getR (q := 46) X dX12_keepsThought_116 fl_X12_149 sm_0 rfl <|
z_iload_n X 1 dX12_keepsThought_119 rfl <|
z_aload_n X 0 dX12_keepsThought_120 rfl <|
z_aload_n X 0 dX12_keepsThought_121 rfl <|
z_getR (q := 46) X dX12_keepsThought_122 fl_X12_149 sm_0 rfl <|
z_iload_n X 1 dX12_keepsThought_125 rfl <|
z_iald X dX12_keepsThought_126 sm_46 r33 o fun v46 r47 o =>
z_callvI X dX12_keepsThought_127 q_2351 wX12_keeps sm_0 rfl (by decide) [.int (pI v46)] [.int (pI x31), .ref (G.2.2.1 46)] rfl rfl (Nat.le_of_ble_eq_true rfl) (fun r σ1 e => ct_X12_keeps v46 r47 G _ r σ1 e) o fun r48 s49 h50 o =>
z_iast X dX12_keepsThought_130 sm_46 r33 h50 o fun s51 o =>
z_iinc (L1 := [(1, .int (pI (w32 (x31 + 1)))), (0, .ref (G.2.2.1 0))]) X 1 dX12_keepsThought_131 rfl (by decide) rfl <|
z_goto (tgt := 77) X dX12_keepsThought_134 (by decide) <|
z_sub (L1 := [(0, .ref (G.2.2.1 0)), (1, .int (pI (w32 (x31 + 1))))]) X [1, 0] rfl <|
ok_some o (w32_rg _)) kc_0) fun o =>
z_sub (L1 := [(0, .ref (G.2.2.1 0)), (1, .int (pI 0))]) X [1, 0] rfl <|
z_iter (fun (x13 : Int) s14 => rg x13 → At E s14 32 [(0, .ref (G.2.2.1 0)), (1, .int (pI x13))] []) o (fun x13 s14 o r15 =>
z_iload_n X 1 dX12_keepsThought_32 rfl <|
z_iconst X dX12_keepsThought_33 <|
z_icmp_ge (tgt := 75) X dX12_keepsThought_34 (by decide) r15 kc_5 o (fun o =>
z_sub (L1 := [(0, .ref (G.2.2.1 0))]) X [0] rfl <|
ok_some o trivial) fun o =>
z_aload_n X 0 dX12_keepsThought_37 rfl <|
z_getR (q := 29) X dX12_keepsThought_38 fl_X12_98 sm_0 rfl <|
z_iload_n X 1 dX12_keepsThought_41 rfl <|
z_aload_n X 0 dX12_keepsThought_42 rfl <|
z_aload_n X 0 dX12_keepsThought_43 rfl <|
z_getR (q := 29) X dX12_keepsThought_44 fl_X12_98 sm_0 rfl <|
z_iload_n X 1 dX12_keepsThought_47 rfl <|
z_iald X dX12_keepsThought_48 sm_29 r15 o fun v16 r17 o =>
z_callvI X dX12_keepsThought_49 q_2351 wX12_keeps sm_0 rfl (by decide) [.int (pI v16)] [.int (pI x13), .ref (G.2.2.1 29)] rfl rfl (Nat.le_of_ble_eq_true rfl) (fun r σ1 e => ct_X12_keeps v16 r17 G _ r σ1 e) o fun r18 s19 h20 o =>
z_iast X dX12_keepsThought_52 sm_29 r15 h20 o fun s21 o =>
z_aload_n X 0 dX12_keepsThought_53 rfl <|
z_getR (q := 30) X dX12_keepsThought_54 fl_X12_101 sm_0 rfl <|
z_iload_n X 1 dX12_keepsThought_57 rfl <|
z_aload_n X 0 dX12_keepsThought_58 rfl <|
z_aload_n X 0 dX12_keepsThought_59 rfl <|
z_getR (q := 30) X dX12_keepsThought_60 fl_X12_101 sm_0 rfl <|
z_iload_n X 1 dX12_keepsThought_63 rfl <|
z_iald X dX12_keepsThought_64 sm_30 r15 o fun v22 r23 o =>
z_callvI X dX12_keepsThought_65 q_2351 wX12_keeps sm_0 rfl (by decide) [.int (pI v22)] [.int (pI x13), .ref (G.2.2.1 30)] rfl rfl (Nat.le_of_ble_eq_true rfl) (fun r σ1 e => ct_X12_keeps v22 r23 G _ r σ1 e) o fun r24 s25 h26 o =>
z_iast X dX12_keepsThought_68 sm_30 r15 h26 o fun s27 o =>
z_iinc (L1 := [(1, .int (pI (w32 (x13 + 1)))), (0, .ref (G.2.2.1 0))]) X 1 dX12_keepsThought_69 rfl (by decide) rfl <|
z_goto (tgt := 32) X dX12_keepsThought_72 (by decide) <|
z_sub (L1 := [(0, .ref (G.2.2.1 0)), (1, .int (pI (w32 (x13 + 1))))]) X [1, 0] rfl <|
ok_some o (w32_rg _)) kc_0) fun o =>
z_sub (L1 := [(0, .ref (G.2.2.1 0)), (1, .int (pI 0))]) X [1, 0] rfl <|
z_iter (fun (x1 : Int) s2 => rg x1 → At E s2 2 [(0, .ref (G.2.2.1 0)), (1, .int (pI x1))] []) o (fun x1 s2 o r3 =>
z_iload_n X 1 dX12_keepsThought_2 rfl <|
z_bipush X dX12_keepsThought_3 bi_10 <|
z_icmp_ge (tgt := 30) X dX12_keepsThought_5 (by decide) r3 kc_10 o (fun o =>
z_sub (L1 := [(0, .ref (G.2.2.1 0))]) X [0] rfl <|
ok_some o trivial) fun o =>
z_aload_n X 0 dX12_keepsThought_8 rfl <|
z_getR (q := 23) X dX12_keepsThought_9 fl_X12_80 sm_0 rfl <|
z_iload_n X 1 dX12_keepsThought_12 rfl <|
z_aload_n X 0 dX12_keepsThought_13 rfl <|
z_aload_n X 0 dX12_keepsThought_14 rfl <|
z_getR (q := 23) X dX12_keepsThought_15 fl_X12_80 sm_0 rfl <|
z_iload_n X 1 dX12_keepsThought_18 rfl <|
z_iald X dX12_keepsThought_19 sm_23 r3 o fun v4 r5 o =>
z_callvI X dX12_keepsThought_20 q_2351 wX12_keeps sm_0 rfl (by decide) [.int (pI v4)] [.int (pI x1), .ref (G.2.2.1 23)] rfl rfl (Nat.le_of_ble_eq_true rfl) (fun r σ1 e => ct_X12_keeps v4 r5 G _ r σ1 e) o fun r6 s7 h8 o =>
z_iast X dX12_keepsThought_23 sm_23 r3 h8 o fun s9 o =>
z_iinc (L1 := [(1, .int (pI (w32 (x1 + 1)))), (0, .ref (G.2.2.1 0))]) X 1 dX12_keepsThought_24 rfl (by decide) rfl <|
z_goto (tgt := 2) X dX12_keepsThought_27 (by decide) <|
z_sub (L1 := [(0, .ref (G.2.2.1 0)), (1, .int (pI (w32 (x1 + 1))))]) X [1, 0] rfl <|
ok_some o (w32_rg _)) kc_0 : At E s0 0 [(0, .ref (G.2.2.1 0))] [])
set_option maxHeartbeats 4000000 in
set_option maxRecDepth 100000 in
theorem ct_X12_keepsTold   (G : Gw) (s0 : St) (r : Int) (σ1 : St) (e : fX12_keepsTold s0 = some (r, σ1)) : Ct yX12_keepsTold cX12_keepsTold 2 none 1 21 SM G [.ref (G.2.2.1 0)] s0 (QV SM G σ1) :=
  Ct.of (by decide +kernel) (Nat.le_of_ble_eq_true rfl) fun E X Y => by
    have o : Ok (fX12_keepsTold s0) (fun x σ' => x = r ∧ σ' = σ1) := ⟨r, σ1, e, rfl, rfl⟩
    unfold fX12_keepsTold at o
    exact (
z_iconst X dX12_keepsTold_0 <|
z_istore_n (L1 := [(1, .int (pI 0)), (0, .ref (G.2.2.1 0))]) X dX12_keepsTold_1 rfl (by decide) rfl <|
z_join o (fun (y40 : Unit) s41 => True → At E s41 110 [(0, .ref (G.2.2.1 0))] []) (fun y40 s41 o r42 =>
z_iconst X dX12_keepsTold_110 <|
z_istore_n (L1 := [(1, .int (pI 0)), (0, .ref (G.2.2.1 0))]) X dX12_keepsTold_111 rfl (by decide) rfl <|
z_join o (fun (y58 : Unit) s59 => True → At E s59 156 [(0, .ref (G.2.2.1 0))] []) (fun y58 s59 o r60 =>
z_iconst X dX12_keepsTold_156 <|
z_istore_n (L1 := [(1, .int (pI 0)), (0, .ref (G.2.2.1 0))]) X dX12_keepsTold_157 rfl (by decide) rfl <|
z_join o (fun (y70 : Unit) s71 => True → At E s71 187 [(0, .ref (G.2.2.1 0))] []) (fun y70 s71 o r72 =>
z_iconst X dX12_keepsTold_187 <|
z_istore_n (L1 := [(1, .int (pI 0)), (0, .ref (G.2.2.1 0))]) X dX12_keepsTold_188 rfl (by decide) rfl <|
z_join o (fun (y82 : Unit) s83 => True → At E s83 217 [(0, .ref (G.2.2.1 0))] []) (fun y82 s83 o r84 =>
z_iconst X dX12_keepsTold_217 <|
z_istore_n (L1 := [(1, .int (pI 0)), (0, .ref (G.2.2.1 0))]) X dX12_keepsTold_218 rfl (by decide) rfl <|
z_join o (fun (y94 : Unit) s95 => True → At E s95 247 [] []) (fun y94 s95 o r96 =>
z_vret (v := 0) X Y dX12_keepsTold_247 o) fun o =>
z_sub (L1 := [(0, .ref (G.2.2.1 0)), (1, .int (pI 0))]) X [1, 0] rfl <|
z_iter (fun (x85 : Int) s86 => rg x85 → At E s86 219 [(0, .ref (G.2.2.1 0)), (1, .int (pI x85))] []) o (fun x85 s86 o r87 =>
z_iload_n X 1 dX12_keepsTold_219 rfl <|
z_bipush X dX12_keepsTold_220 bi_64 <|
z_icmp_ge (tgt := 247) X dX12_keepsTold_222 (by decide) r87 kc_64 o (fun o =>
z_sub (L1 := []) X [] rfl <|
ok_some o trivial) fun o =>
z_aload_n X 0 dX12_keepsTold_225 rfl <|
z_getR (q := 19) X dX12_keepsTold_226 fl_X12_68 sm_0 rfl <|
z_iload_n X 1 dX12_keepsTold_229 rfl <|
z_aload_n X 0 dX12_keepsTold_230 rfl <|
z_aload_n X 0 dX12_keepsTold_231 rfl <|
z_getR (q := 19) X dX12_keepsTold_232 fl_X12_68 sm_0 rfl <|
z_iload_n X 1 dX12_keepsTold_235 rfl <|
z_iald X dX12_keepsTold_236 sm_19 r87 o fun v88 r89 o =>
z_callvI X dX12_keepsTold_237 q_2351 wX12_keeps sm_0 rfl (by decide) [.int (pI v88)] [.int (pI x85), .ref (G.2.2.1 19)] rfl rfl (Nat.le_of_ble_eq_true rfl) (fun r σ1 e => ct_X12_keeps v88 r89 G _ r σ1 e) o fun r90 s91 h92 o =>
z_iast X dX12_keepsTold_240 sm_19 r87 h92 o fun s93 o =>
z_iinc (L1 := [(1, .int (pI (w32 (x85 + 1)))), (0, .ref (G.2.2.1 0))]) X 1 dX12_keepsTold_241 rfl (by decide) rfl <|
z_goto (tgt := 219) X dX12_keepsTold_244 (by decide) <|
z_sub (L1 := [(0, .ref (G.2.2.1 0)), (1, .int (pI (w32 (x85 + 1))))]) X [1, 0] rfl <|
ok_some o (w32_rg _)) kc_0) fun o =>
z_sub (L1 := [(0, .ref (G.2.2.1 0)), (1, .int (pI 0))]) X [1, 0] rfl <|
z_iter (fun (x73 : Int) s74 => rg x73 → At E s74 189 [(0, .ref (G.2.2.1 0)), (1, .int (pI x73))] []) o (fun x73 s74 o r75 =>
z_iload_n X 1 dX12_keepsTold_189 rfl <|
z_bipush X dX12_keepsTold_190 bi_64 <|
z_icmp_ge (tgt := 217) X dX12_keepsTold_192 (by decide) r75 kc_64 o (fun o =>
z_sub (L1 := [(0, .ref (G.2.2.1 0))]) X [0] rfl <|
ok_some o trivial) fun o =>
z_aload_n X 0 dX12_keepsTold_195 rfl <|
z_getR (q := 18) X dX12_keepsTold_196 fl_X12_65 sm_0 rfl <|
z_iload_n X 1 dX12_keepsTold_199 rfl <|
z_aload_n X 0 dX12_keepsTold_200 rfl <|
z_aload_n X 0 dX12_keepsTold_201 rfl <|
z_getR (q := 18) X dX12_keepsTold_202 fl_X12_65 sm_0 rfl <|
z_iload_n X 1 dX12_keepsTold_205 rfl <|
z_iald X dX12_keepsTold_206 sm_18 r75 o fun v76 r77 o =>
z_callvI X dX12_keepsTold_207 q_2351 wX12_keeps sm_0 rfl (by decide) [.int (pI v76)] [.int (pI x73), .ref (G.2.2.1 18)] rfl rfl (Nat.le_of_ble_eq_true rfl) (fun r σ1 e => ct_X12_keeps v76 r77 G _ r σ1 e) o fun r78 s79 h80 o =>
z_iast X dX12_keepsTold_210 sm_18 r75 h80 o fun s81 o =>
z_iinc (L1 := [(1, .int (pI (w32 (x73 + 1)))), (0, .ref (G.2.2.1 0))]) X 1 dX12_keepsTold_211 rfl (by decide) rfl <|
z_goto (tgt := 189) X dX12_keepsTold_214 (by decide) <|
z_sub (L1 := [(0, .ref (G.2.2.1 0)), (1, .int (pI (w32 (x73 + 1))))]) X [1, 0] rfl <|
ok_some o (w32_rg _)) kc_0) fun o =>
z_sub (L1 := [(0, .ref (G.2.2.1 0)), (1, .int (pI 0))]) X [1, 0] rfl <|
z_iter (fun (x61 : Int) s62 => rg x61 → At E s62 158 [(0, .ref (G.2.2.1 0)), (1, .int (pI x61))] []) o (fun x61 s62 o r63 =>
z_iload_n X 1 dX12_keepsTold_158 rfl <|
z_sipush X dX12_keepsTold_159 si_144 <|
z_icmp_ge (tgt := 187) X dX12_keepsTold_162 (by decide) r63 kc_144 o (fun o =>
z_sub (L1 := [(0, .ref (G.2.2.1 0))]) X [0] rfl <|
ok_some o trivial) fun o =>
z_aload_n X 0 dX12_keepsTold_165 rfl <|
z_getR (q := 20) X dX12_keepsTold_166 fl_X12_71 sm_0 rfl <|
z_iload_n X 1 dX12_keepsTold_169 rfl <|
z_aload_n X 0 dX12_keepsTold_170 rfl <|
z_aload_n X 0 dX12_keepsTold_171 rfl <|
z_getR (q := 20) X dX12_keepsTold_172 fl_X12_71 sm_0 rfl <|
z_iload_n X 1 dX12_keepsTold_175 rfl <|
z_iald X dX12_keepsTold_176 sm_20 r63 o fun v64 r65 o =>
z_callvI X dX12_keepsTold_177 q_2351 wX12_keeps sm_0 rfl (by decide) [.int (pI v64)] [.int (pI x61), .ref (G.2.2.1 20)] rfl rfl (Nat.le_of_ble_eq_true rfl) (fun r σ1 e => ct_X12_keeps v64 r65 G _ r σ1 e) o fun r66 s67 h68 o =>
z_iast X dX12_keepsTold_180 sm_20 r63 h68 o fun s69 o =>
z_iinc (L1 := [(1, .int (pI (w32 (x61 + 1)))), (0, .ref (G.2.2.1 0))]) X 1 dX12_keepsTold_181 rfl (by decide) rfl <|
z_goto (tgt := 158) X dX12_keepsTold_184 (by decide) <|
z_sub (L1 := [(0, .ref (G.2.2.1 0)), (1, .int (pI (w32 (x61 + 1))))]) X [1, 0] rfl <|
ok_some o (w32_rg _)) kc_0) fun o =>
z_sub (L1 := [(0, .ref (G.2.2.1 0)), (1, .int (pI 0))]) X [1, 0] rfl <|
z_iter (fun (x43 : Int) s44 => rg x43 → At E s44 112 [(0, .ref (G.2.2.1 0)), (1, .int (pI x43))] []) o (fun x43 s44 o r45 =>
z_iload_n X 1 dX12_keepsTold_112 rfl <|
z_bipush X dX12_keepsTold_113 bi_20 <|
z_icmp_ge (tgt := 156) X dX12_keepsTold_115 (by decide) r45 kc_20 o (fun o =>
z_sub (L1 := [(0, .ref (G.2.2.1 0))]) X [0] rfl <|
ok_some o trivial) fun o =>
z_aload_n X 0 dX12_keepsTold_118 rfl <|
z_getR (q := 5) X dX12_keepsTold_119 fl_X12_22 sm_0 rfl <|
z_iload_n X 1 dX12_keepsTold_122 rfl <|
z_aload_n X 0 dX12_keepsTold_123 rfl <|
z_aload_n X 0 dX12_keepsTold_124 rfl <|
z_getR (q := 5) X dX12_keepsTold_125 fl_X12_22 sm_0 rfl <|
z_iload_n X 1 dX12_keepsTold_128 rfl <|
z_iald X dX12_keepsTold_129 sm_5 r45 o fun v46 r47 o =>
z_callvI X dX12_keepsTold_130 q_2351 wX12_keeps sm_0 rfl (by decide) [.int (pI v46)] [.int (pI x43), .ref (G.2.2.1 5)] rfl rfl (Nat.le_of_ble_eq_true rfl) (fun r σ1 e => ct_X12_keeps v46 r47 G _ r σ1 e) o fun r48 s49 h50 o =>
z_iast X dX12_keepsTold_133 sm_5 r45 h50 o fun s51 o =>
z_aload_n X 0 dX12_keepsTold_134 rfl <|
z_getR (q := 6) X dX12_keepsTold_135 fl_X12_25 sm_0 rfl <|
z_iload_n X 1 dX12_keepsTold_138 rfl <|
z_aload_n X 0 dX12_keepsTold_139 rfl <|
z_aload_n X 0 dX12_keepsTold_140 rfl <|
z_getR (q := 6) X dX12_keepsTold_141 fl_X12_25 sm_0 rfl <|
z_iload_n X 1 dX12_keepsTold_144 rfl <|
z_iald X dX12_keepsTold_145 sm_6 r45 o fun v52 r53 o =>
z_callvI X dX12_keepsTold_146 q_2351 wX12_keeps sm_0 rfl (by decide) [.int (pI v52)] [.int (pI x43), .ref (G.2.2.1 6)] rfl rfl (Nat.le_of_ble_eq_true rfl) (fun r σ1 e => ct_X12_keeps v52 r53 G _ r σ1 e) o fun r54 s55 h56 o =>
z_iast X dX12_keepsTold_149 sm_6 r45 h56 o fun s57 o =>
z_iinc (L1 := [(1, .int (pI (w32 (x43 + 1)))), (0, .ref (G.2.2.1 0))]) X 1 dX12_keepsTold_150 rfl (by decide) rfl <|
z_goto (tgt := 112) X dX12_keepsTold_153 (by decide) <|
z_sub (L1 := [(0, .ref (G.2.2.1 0)), (1, .int (pI (w32 (x43 + 1))))]) X [1, 0] rfl <|
ok_some o (w32_rg _)) kc_0) fun o =>
z_sub (L1 := [(0, .ref (G.2.2.1 0)), (1, .int (pI 0))]) X [1, 0] rfl <|
z_iter (fun (x1 : Int) s2 => rg x1 → At E s2 2 [(0, .ref (G.2.2.1 0)), (1, .int (pI x1))] []) o (fun x1 s2 o r3 =>
z_iload_n X 1 dX12_keepsTold_2 rfl <|
z_bipush X dX12_keepsTold_3 bi_12 <|
z_icmp_ge (tgt := 110) X dX12_keepsTold_5 (by decide) r3 kc_12 o (fun o =>
z_sub (L1 := [(0, .ref (G.2.2.1 0))]) X [0] rfl <|
ok_some o trivial) fun o =>
z_aload_n X 0 dX12_keepsTold_8 rfl <|
z_getR (q := 4) X dX12_keepsTold_9 fl_X12_19 sm_0 rfl <|
z_iload_n X 1 dX12_keepsTold_12 rfl <|
z_aload_n X 0 dX12_keepsTold_13 rfl <|
z_aload_n X 0 dX12_keepsTold_14 rfl <|
z_getR (q := 4) X dX12_keepsTold_15 fl_X12_19 sm_0 rfl <|
z_iload_n X 1 dX12_keepsTold_18 rfl <|
z_iald X dX12_keepsTold_19 sm_4 r3 o fun v4 r5 o =>
z_callvI X dX12_keepsTold_20 q_2351 wX12_keeps sm_0 rfl (by decide) [.int (pI v4)] [.int (pI x1), .ref (G.2.2.1 4)] rfl rfl (Nat.le_of_ble_eq_true rfl) (fun r σ1 e => ct_X12_keeps v4 r5 G _ r σ1 e) o fun r6 s7 h8 o =>
z_iast X dX12_keepsTold_23 sm_4 r3 h8 o fun s9 o =>
z_aload_n X 0 dX12_keepsTold_24 rfl <|
z_getR (q := 31) X dX12_keepsTold_25 fl_X12_104 sm_0 rfl <|
z_iload_n X 1 dX12_keepsTold_28 rfl <|
z_aload_n X 0 dX12_keepsTold_29 rfl <|
z_aload_n X 0 dX12_keepsTold_30 rfl <|
z_getR (q := 31) X dX12_keepsTold_31 fl_X12_104 sm_0 rfl <|
z_iload_n X 1 dX12_keepsTold_34 rfl <|
z_iald X dX12_keepsTold_35 sm_31 r3 o fun v10 r11 o =>
z_callvI X dX12_keepsTold_36 q_2351 wX12_keeps sm_0 rfl (by decide) [.int (pI v10)] [.int (pI x1), .ref (G.2.2.1 31)] rfl rfl (Nat.le_of_ble_eq_true rfl) (fun r σ1 e => ct_X12_keeps v10 r11 G _ r σ1 e) o fun r12 s13 h14 o =>
z_iast X dX12_keepsTold_39 sm_31 r3 h14 o fun s15 o =>
z_aload_n X 0 dX12_keepsTold_40 rfl <|
z_getR (q := 32) X dX12_keepsTold_41 fl_X12_107 sm_0 rfl <|
z_iload_n X 1 dX12_keepsTold_44 rfl <|
z_aload_n X 0 dX12_keepsTold_45 rfl <|
z_aload_n X 0 dX12_keepsTold_46 rfl <|
z_getR (q := 32) X dX12_keepsTold_47 fl_X12_107 sm_0 rfl <|
z_iload_n X 1 dX12_keepsTold_50 rfl <|
z_iald X dX12_keepsTold_51 sm_32 r3 o fun v16 r17 o =>
z_callvI X dX12_keepsTold_52 q_2351 wX12_keeps sm_0 rfl (by decide) [.int (pI v16)] [.int (pI x1), .ref (G.2.2.1 32)] rfl rfl (Nat.le_of_ble_eq_true rfl) (fun r σ1 e => ct_X12_keeps v16 r17 G _ r σ1 e) o fun r18 s19 h20 o =>
z_iast X dX12_keepsTold_55 sm_32 r3 h20 o fun s21 o =>
z_aload_n X 0 dX12_keepsTold_56 rfl <|
z_getR (q := 33) X dX12_keepsTold_57 fl_X12_110 sm_0 rfl <|
z_iload_n X 1 dX12_keepsTold_60 rfl <|
z_aload_n X 0 dX12_keepsTold_61 rfl <|
z_aload_n X 0 dX12_keepsTold_62 rfl <|
z_getR (q := 33) X dX12_keepsTold_63 fl_X12_110 sm_0 rfl <|
z_iload_n X 1 dX12_keepsTold_66 rfl <|
z_iald X dX12_keepsTold_67 sm_33 r3 o fun v22 r23 o =>
z_callvI X dX12_keepsTold_68 q_2351 wX12_keeps sm_0 rfl (by decide) [.int (pI v22)] [.int (pI x1), .ref (G.2.2.1 33)] rfl rfl (Nat.le_of_ble_eq_true rfl) (fun r σ1 e => ct_X12_keeps v22 r23 G _ r σ1 e) o fun r24 s25 h26 o =>
z_iast X dX12_keepsTold_71 sm_33 r3 h26 o fun s27 o =>
z_aload_n X 0 dX12_keepsTold_72 rfl <|
z_getR (q := 34) X dX12_keepsTold_73 fl_X12_113 sm_0 rfl <|
z_iload_n X 1 dX12_keepsTold_76 rfl <|
z_aload_n X 0 dX12_keepsTold_77 rfl <|
z_aload_n X 0 dX12_keepsTold_78 rfl <|
z_getR (q := 34) X dX12_keepsTold_79 fl_X12_113 sm_0 rfl <|
z_iload_n X 1 dX12_keepsTold_82 rfl <|
z_iald X dX12_keepsTold_83 sm_34 r3 o fun v28 r29 o =>
z_callvI X dX12_keepsTold_84 q_2351 wX12_keeps sm_0 rfl (by decide) [.int (pI v28)] [.int (pI x1), .ref (G.2.2.1 34)] rfl rfl (Nat.le_of_ble_eq_true rfl) (fun r σ1 e => ct_X12_keeps v28 r29 G _ r σ1 e) o fun r30 s31 h32 o =>
z_iast X dX12_keepsTold_87 sm_34 r3 h32 o fun s33 o =>
z_aload_n X 0 dX12_keepsTold_88 rfl <|
z_getR (q := 39) X dX12_keepsTold_89 fl_X12_128 sm_0 rfl <|
z_iload_n X 1 dX12_keepsTold_92 rfl <|
z_aload_n X 0 dX12_keepsTold_93 rfl <|
z_aload_n X 0 dX12_keepsTold_94 rfl <|
z_getR (q := 39) X dX12_keepsTold_95 fl_X12_128 sm_0 rfl <|
z_iload_n X 1 dX12_keepsTold_98 rfl <|
z_iald X dX12_keepsTold_99 sm_39 r3 o fun v34 r35 o =>
z_callvI X dX12_keepsTold_100 q_2351 wX12_keeps sm_0 rfl (by decide) [.int (pI v34)] [.int (pI x1), .ref (G.2.2.1 39)] rfl rfl (Nat.le_of_ble_eq_true rfl) (fun r σ1 e => ct_X12_keeps v34 r35 G _ r σ1 e) o fun r36 s37 h38 o =>
z_iast X dX12_keepsTold_103 sm_39 r3 h38 o fun s39 o =>
z_iinc (L1 := [(1, .int (pI (w32 (x1 + 1)))), (0, .ref (G.2.2.1 0))]) X 1 dX12_keepsTold_104 rfl (by decide) rfl <|
z_goto (tgt := 2) X dX12_keepsTold_107 (by decide) <|
z_sub (L1 := [(0, .ref (G.2.2.1 0)), (1, .int (pI (w32 (x1 + 1))))]) X [1, 0] rfl <|
ok_some o (w32_rg _)) kc_0 : At E s0 0 [(0, .ref (G.2.2.1 0))] [])
