set_option maxHeartbeats 4000000 in
set_option maxRecDepth 100000 in
theorem ct_X4_waysToSit (p1 : Int) (p2 : Int) (hp1 : rg p1) (hp2 : r01 p2) (G : Gw) (s0 : St) (r : Int) (σ1 : St) (e : fX4_waysToSit p1 p2 s0 = some (r, σ1)) : Ct yX4_waysToSit cX4_waysToSit 7 (some .int) 2 47 SX G [.ref (G.2.2.1 157), .int (pI p1), .int (pI p2)] s0 (QI SX G r rg σ1) :=
  Ct.of (by decide +kernel) (Nat.le_of_ble_eq_true rfl) fun E X Y => by
    have o : Ok (fX4_waysToSit p1 p2 s0) (fun x σ' => x = r ∧ σ' = σ1) := ⟨r, σ1, e, rfl, rfl⟩
    unfold fX4_waysToSit at o
    exact (
z_iload_n X 1 dX4_waysToSit_0 rfl <|
z_iconst X dX4_waysToSit_1 <|
z_bipush X dX4_waysToSit_2 bi_8 <|
z_callsIN X dX4_waysToSit_4 q_1288 wX11_within  (by decide) [.int (pI p1), .int (pI 1), .int (pI 8)] [] rfl rfl (Nat.le_of_ble_eq_true rfl) (fun r σ1 e => ct_X11_within p1 1 8 hp1 kc_1 kc_8 G _ r σ1 e) o fun r1 s2 h3 o =>
z_if_ne (tgt := 12) X dX4_waysToSit_7 (by decide) (r01_rg h3) o (fun o =>
z_aload_n X 0 dX4_waysToSit_12 rfl <|
z_iload_n X 1 dX4_waysToSit_13 rfl <|
z_callvV X dX4_waysToSit_14 q_1411 wX4_findEnemies sx_157 rfl (by decide) [.int (pI p1)] [] rfl rfl (Nat.le_of_ble_eq_true rfl) (fun r σ1 e => ct_X4_findEnemies p1 hp1 G _ r σ1 e) o fun r4 s5 o =>
z_iconst X dX4_waysToSit_17 <|
z_iload_n X 1 dX4_waysToSit_18 rfl <|
z_ishl X dX4_waysToSit_19 <|
z_iconst X dX4_waysToSit_20 <|
z_isub X dX4_waysToSit_21 <|
z_istoreL_n (L1 := fun v7 => [(3, .int (pI v7)), (0, .ref (G.2.2.1 157)), (1, .int (pI p1)), (2, .int (pI p2))]) (R := rg) X dX4_waysToSit_22 rfl (by decide) (fun _ => rfl) o (w32_rg _) fun v7 r8 o =>
z_iconst X dX4_waysToSit_23 <|
z_istore (L1 := [(4, .int (pI 1)), (3, .int (pI v7)), (0, .ref (G.2.2.1 157)), (1, .int (pI p1)), (2, .int (pI p2))]) X dX4_waysToSit_24 (by decide) rfl <|
z_join o (fun (y22 : Unit) s23 => True → At E s23 76 [(0, .ref (G.2.2.1 157)), (1, .int (pI p1)), (2, .int (pI p2)), (3, .int (pI v7))] []) (fun y22 s23 o r24 =>
z_iconst X dX4_waysToSit_76 <|
z_istore (L1 := [(4, .int (pI 0)), (0, .ref (G.2.2.1 157)), (1, .int (pI p1)), (2, .int (pI p2)), (3, .int (pI v7))]) X dX4_waysToSit_77 (by decide) rfl <|
z_iconst X dX4_waysToSit_79 <|
z_istore (L1 := [(5, .int (pI 0)), (4, .int (pI 0)), (0, .ref (G.2.2.1 157)), (1, .int (pI p1)), (2, .int (pI p2)), (3, .int (pI v7))]) X dX4_waysToSit_80 (by decide) rfl <|
z_join o (fun (y37 : Int) s38 => rg y37 → At E s38 142 [(4, .int (pI y37))] []) (fun y37 s38 o r39 =>
z_iload X 0 dX4_waysToSit_142 rfl <|
z_iret X Y dX4_waysToSit_144 o r39) fun o =>
z_sub (L1 := [(0, .ref (G.2.2.1 157)), (1, .int (pI p1)), (2, .int (pI p2)), (3, .int (pI v7)), (4, .int (pI 0)), (5, .int (pI 0))]) X [2, 3, 4, 5, 1, 0] rfl <|
z_iter (fun (x25 : Int × Int) s26 => rg x25.1 ∧ rg x25.2 → At E s26 82 [(0, .ref (G.2.2.1 157)), (1, .int (pI p1)), (2, .int (pI p2)), (3, .int (pI v7)), (4, .int (pI x25.1)), (5, .int (pI x25.2))] []) o (fun x25 s26 o r27 =>
z_iload X 5 dX4_waysToSit_82 rfl <|
z_iload_n X 1 dX4_waysToSit_84 rfl <|
z_icmp_ge (tgt := 142) X dX4_waysToSit_85 (by decide) r27.2 hp1 o (fun o =>
z_sub (L1 := [(4, .int (pI x25.1))]) X [4] rfl <|
ok_some o r27.1) fun o =>
z_iload_n X 2 dX4_waysToSit_88 rfl <|
z_join o (fun (y30 : Int) s31 => r01 y30 → At E s31 112 [(0, .ref (G.2.2.1 157)), (1, .int (pI p1)), (2, .int (pI p2)), (3, .int (pI v7)), (4, .int (pI x25.1)), (5, .int (pI x25.2))] [.int (pI y30)]) (fun y30 s31 o r32 =>
z_istore (L1 := [(6, .int (pI y30)), (0, .ref (G.2.2.1 157)), (1, .int (pI p1)), (2, .int (pI p2)), (3, .int (pI v7)), (4, .int (pI x25.1)), (5, .int (pI x25.2))]) X dX4_waysToSit_112 (by decide) rfl <|
z_iload X 0 dX4_waysToSit_114 rfl <|
z_if_ne (tgt := 136) X dX4_waysToSit_116 (by decide) (r01_rg r32) o (fun o =>
z_iinc (L1 := [(5, .int (pI (w32 (x25.2 + 1)))), (6, .int (pI y30)), (0, .ref (G.2.2.1 157)), (1, .int (pI p1)), (2, .int (pI p2)), (3, .int (pI v7)), (4, .int (pI x25.1))]) X 6 dX4_waysToSit_136 rfl (by decide) rfl <|
z_goto (tgt := 82) X dX4_waysToSit_139 (by decide) <|
z_sub (L1 := [(0, .ref (G.2.2.1 157)), (1, .int (pI p1)), (2, .int (pI p2)), (3, .int (pI v7)), (4, .int (pI x25.1)), (5, .int (pI (w32 (x25.2 + 1))))]) X [2, 3, 4, 5, 6, 0] rfl <|
ok_some o ⟨r27.1, (w32_rg _)⟩) fun o =>
z_iload X 5 dX4_waysToSit_119 rfl <|
z_aload_n X 1 dX4_waysToSit_121 rfl <|
z_getR (q := 160) X dX4_waysToSit_122 fl_X4_18 sx_157 rfl <|
z_iload_n X 4 dX4_waysToSit_125 rfl <|
z_bipush X dX4_waysToSit_126 bi_8 <|
z_imul X dX4_waysToSit_128 <|
z_iload X 6 dX4_waysToSit_129 rfl <|
z_iadd X dX4_waysToSit_131 <|
z_iald X dX4_waysToSit_132 sx_160 (w32_rg _) o fun v33 r34 o =>
z_iadd X dX4_waysToSit_133 <|
z_istoreL (L1 := fun v35 => [(4, .int (pI v35)), (6, .int (pI y30)), (0, .ref (G.2.2.1 157)), (1, .int (pI p1)), (2, .int (pI p2)), (3, .int (pI v7)), (5, .int (pI x25.2))]) (R := rg) X dX4_waysToSit_134 (by decide) (fun _ => rfl) o (w32_rg _) fun v35 r36 o =>
z_iinc (L1 := [(5, .int (pI (w32 (x25.2 + 1)))), (4, .int (pI v35)), (6, .int (pI y30)), (0, .ref (G.2.2.1 157)), (1, .int (pI p1)), (2, .int (pI p2)), (3, .int (pI v7))]) X 6 dX4_waysToSit_136 rfl (by decide) rfl <|
z_goto (tgt := 82) X dX4_waysToSit_139 (by decide) <|
z_sub (L1 := [(0, .ref (G.2.2.1 157)), (1, .int (pI p1)), (2, .int (pI p2)), (3, .int (pI v7)), (4, .int (pI v35)), (5, .int (pI (w32 (x25.2 + 1))))]) X [3, 4, 5, 6, 1, 0] rfl <|
ok_some o ⟨r36, (w32_rg _)⟩) fun o =>
z_if_eq (tgt := 111) X dX4_waysToSit_89 (by decide) (r01_rg hp2) o (fun o =>
z_iconst X dX4_waysToSit_111 <|
ok_some o kb_0) fun o =>
z_aload_n X 0 dX4_waysToSit_92 rfl <|
z_getR (q := 162) X dX4_waysToSit_93 fl_X4_24 sx_157 rfl <|
z_iconst X dX4_waysToSit_96 <|
z_iald X dX4_waysToSit_97 sx_162 kc_0 o fun v28 r29 o =>
z_iload X 5 dX4_waysToSit_98 rfl <|
z_ishr X dX4_waysToSit_100 <|
z_iconst X dX4_waysToSit_101 <|
z_iand X dX4_waysToSit_102 <|
z_iconst X dX4_waysToSit_103 <|
z_icmp_ne (tgt := 111) X dX4_waysToSit_104 (by decide) (int_rg _) kc_1 o (fun o =>
z_iconst X dX4_waysToSit_111 <|
ok_some o kb_0) fun o =>
z_iconst X dX4_waysToSit_107 <|
z_goto (tgt := 112) X dX4_waysToSit_108 (by decide) <|
ok_some o kb_1) ⟨kc_0, kc_0⟩) fun o =>
z_sub (L1 := [(0, .ref (G.2.2.1 157)), (1, .int (pI p1)), (2, .int (pI p2)), (3, .int (pI v7)), (4, .int (pI 1))]) X [2, 3, 4, 1, 0] rfl <|
z_iter (fun (x9 : Int) s10 => rg x9 → At E s10 26 [(0, .ref (G.2.2.1 157)), (1, .int (pI p1)), (2, .int (pI p2)), (3, .int (pI v7)), (4, .int (pI x9))] []) o (fun x9 s10 o r11 =>
z_iload X 4 dX4_waysToSit_26 rfl <|
z_iload_n X 3 dX4_waysToSit_28 rfl <|
z_icmp_gt (tgt := 76) X dX4_waysToSit_29 (by decide) r11 r8 o (fun o =>
z_sub (L1 := [(0, .ref (G.2.2.1 157)), (1, .int (pI p1)), (2, .int (pI p2)), (3, .int (pI v7))]) X [0, 1, 2, 3] rfl <|
ok_some o trivial) fun o =>
z_iconst X dX4_waysToSit_32 <|
z_istore (L1 := [(5, .int (pI 0)), (0, .ref (G.2.2.1 157)), (1, .int (pI p1)), (2, .int (pI p2)), (3, .int (pI v7)), (4, .int (pI x9))]) X dX4_waysToSit_33 (by decide) rfl <|
z_join o (fun (y19 : Unit) s20 => True → At E s20 70 [(0, .ref (G.2.2.1 157)), (1, .int (pI p1)), (2, .int (pI p2)), (3, .int (pI v7)), (4, .int (pI x9))] []) (fun y19 s20 o r21 =>
z_iinc (L1 := [(4, .int (pI (w32 (x9 + 1)))), (0, .ref (G.2.2.1 157)), (1, .int (pI p1)), (2, .int (pI p2)), (3, .int (pI v7))]) X 4 dX4_waysToSit_70 rfl (by decide) rfl <|
z_goto (tgt := 26) X dX4_waysToSit_73 (by decide) <|
z_sub (L1 := [(0, .ref (G.2.2.1 157)), (1, .int (pI p1)), (2, .int (pI p2)), (3, .int (pI v7)), (4, .int (pI (w32 (x9 + 1))))]) X [1, 2, 3, 4, 0] rfl <|
ok_some o (w32_rg _)) fun o =>
z_sub (L1 := [(0, .ref (G.2.2.1 157)), (1, .int (pI p1)), (2, .int (pI p2)), (3, .int (pI v7)), (4, .int (pI x9)), (5, .int (pI 0))]) X [1, 2, 3, 4, 5, 0] rfl <|
z_iter (fun (x12 : Int) s13 => rg x12 → At E s13 35 [(0, .ref (G.2.2.1 157)), (1, .int (pI p1)), (2, .int (pI p2)), (3, .int (pI v7)), (4, .int (pI x9)), (5, .int (pI x12))] []) o (fun x12 s13 o r14 =>
z_iload X 5 dX4_waysToSit_35 rfl <|
z_iload_n X 1 dX4_waysToSit_37 rfl <|
z_icmp_ge (tgt := 70) X dX4_waysToSit_38 (by decide) r14 hp1 o (fun o =>
z_sub (L1 := [(0, .ref (G.2.2.1 157)), (1, .int (pI p1)), (2, .int (pI p2)), (3, .int (pI v7)), (4, .int (pI x9))]) X [0, 1, 2, 3, 4] rfl <|
ok_some o trivial) fun o =>
z_aload_n X 0 dX4_waysToSit_41 rfl <|
z_getR (q := 160) X dX4_waysToSit_42 fl_X4_18 sx_157 rfl <|
z_iload X 4 dX4_waysToSit_45 rfl <|
z_bipush X dX4_waysToSit_47 bi_8 <|
z_imul X dX4_waysToSit_49 <|
z_iload X 5 dX4_waysToSit_50 rfl <|
z_iadd X dX4_waysToSit_52 <|
z_aload_n X 0 dX4_waysToSit_53 rfl <|
z_iload X 4 dX4_waysToSit_54 rfl <|
z_iload X 5 dX4_waysToSit_56 rfl <|
z_iload_n X 1 dX4_waysToSit_58 rfl <|
z_iload_n X 2 dX4_waysToSit_59 rfl <|
z_callvI X dX4_waysToSit_60 q_1415 wX4_seatBehind sx_157 rfl (by decide) [.int (pI x9), .int (pI x12), .int (pI p1), .int (pI p2)] [.int (pI (w32 (w32 (x9 * 8) + x12))), .ref (G.2.2.1 160)] rfl rfl (Nat.le_of_ble_eq_true rfl) (fun r σ1 e => ct_X4_seatBehind x9 x12 p1 p2 r11 r14 hp1 hp2 G _ r σ1 e) o fun r15 s16 h17 o =>
z_iast X dX4_waysToSit_63 sx_160 (w32_rg _) h17 o fun s18 o =>
z_iinc (L1 := [(5, .int (pI (w32 (x12 + 1)))), (0, .ref (G.2.2.1 157)), (1, .int (pI p1)), (2, .int (pI p2)), (3, .int (pI v7)), (4, .int (pI x9))]) X 5 dX4_waysToSit_64 rfl (by decide) rfl <|
z_goto (tgt := 35) X dX4_waysToSit_67 (by decide) <|
z_sub (L1 := [(0, .ref (G.2.2.1 157)), (1, .int (pI p1)), (2, .int (pI p2)), (3, .int (pI v7)), (4, .int (pI x9)), (5, .int (pI (w32 (x12 + 1))))]) X [1, 2, 3, 4, 5, 0] rfl <|
ok_some o (w32_rg _)) kc_0) kc_1) fun o =>
z_iconst X dX4_waysToSit_10 <|
z_iret X Y dX4_waysToSit_11 o kc_m1 : At E s0 0 [(0, .ref (G.2.2.1 157)), (1, .int (pI p1)), (2, .int (pI p2))] [])
set_option maxHeartbeats 4000000 in
set_option maxRecDepth 100000 in
theorem ct_X11_seated (p1 : Int) (p2 : Int) (hp1 : rg p1) (hp2 : rg p2) (G : Gw) (s0 : St) (r : Int) (σ1 : St) (e : fX11_seated p1 p2 s0 = some (r, σ1)) : Ct yX11_seated cX11_seated 3 (some .int) 3 73 SX G [.ref (G.2.2.1 0), .int (pI p1), .int (pI p2)] s0 (QI SX G r rg σ1) :=
  Ct.of (by decide +kernel) (Nat.le_of_ble_eq_true rfl) fun E X Y => by
    have o : Ok (fX11_seated p1 p2 s0) (fun x σ' => x = r ∧ σ' = σ1) := ⟨r, σ1, e, rfl, rfl⟩
    unfold fX11_seated at o
    exact (
z_iload_n X 1 dX11_seated_0 rfl <|
z_iconst X dX11_seated_1 <|
z_bipush X dX11_seated_2 bi_8 <|
z_callsI X dX11_seated_4 q_681 wX11_within  (by decide) [.int (pI p1), .int (pI 1), .int (pI 8)] [] rfl rfl (Nat.le_of_ble_eq_true rfl) (fun r σ1 e => ct_X11_within p1 1 8 hp1 kc_1 kc_8 G _ r σ1 e) o fun r1 s2 h3 o =>
z_if_eq (tgt := 19) X dX11_seated_7 (by decide) (r01_rg h3) o (fun o =>
z_iconst X dX11_seated_19 <|
z_iret X Y dX11_seated_20 o kc_m1) fun o =>
z_iload_n X 2 dX11_seated_10 rfl <|
z_iconst X dX11_seated_11 <|
z_iconst X dX11_seated_12 <|
z_callsI X dX11_seated_13 q_681 wX11_within  (by decide) [.int (pI p2), .int (pI 0), .int (pI 1)] [] rfl rfl (Nat.le_of_ble_eq_true rfl) (fun r σ1 e => ct_X11_within p2 0 1 hp2 kc_0 kc_1 G _ r σ1 e) o fun r4 s5 h6 o =>
z_if_ne (tgt := 21) X dX11_seated_16 (by decide) (r01_rg h6) o (fun o =>
z_aload_n X 0 dX11_seated_21 rfl <|
z_getR (q := 157) X dX11_seated_22 fl_X11_90 sx_0 rfl <|
z_iload_n X 1 dX11_seated_25 rfl <|
z_iload_n X 2 dX11_seated_26 rfl <|
z_iconst X dX11_seated_27 <|
z_join o (fun (y7 : Int) s8 => r01 y7 → At E s8 36 [] [.int (pI y7), .int (pI p1), .ref (G.2.2.1 157)]) (fun y7 s8 o r9 =>
z_callvI X dX11_seated_36 q_1407 wX4_waysToSit sx_157 rfl (by decide) [.int (pI p1), .int (pI y7)] [] rfl rfl (Nat.le_of_ble_eq_true rfl) (fun r σ1 e => ct_X4_waysToSit p1 y7 hp1 r9 G _ r σ1 e) o fun r10 s11 h12 o =>
z_iret X Y dX11_seated_39 o h12) fun o =>
z_icmp_ne (tgt := 35) X dX11_seated_28 (by decide) hp2 kc_1 o (fun o =>
z_iconst X dX11_seated_35 <|
z_sub (L1 := []) X [] rfl <|
ok_some o kb_0) fun o =>
z_iconst X dX11_seated_31 <|
z_goto (tgt := 36) X dX11_seated_32 (by decide) <|
z_sub (L1 := []) X [] rfl <|
ok_some o kb_1) fun o =>
z_iconst X dX11_seated_19 <|
z_iret X Y dX11_seated_20 o kc_m1 : At E s0 0 [(0, .ref (G.2.2.1 0)), (1, .int (pI p1)), (2, .int (pI p2))] [])
set_option maxHeartbeats 4000000 in
set_option maxRecDepth 100000 in
theorem ct_X11_set (p1 : Int) (p2 : Int) (p3 : Int) (hp1 : rg p1) (hp2 : rg p2) (hp3 : rg p3) (G : Gw) (s0 : St) (r : Int) (σ1 : St) (e : fX11_set p1 p2 p3 s0 = some (r, σ1)) : Ct yX11_set cX11_set 5 (some .boolean) 2 45 SX G [.ref (G.2.2.1 0), .int (pI p1), .int (pI p2), .int (pI p3)] s0 (QI SX G r r01 σ1) :=
  Ct.of (by decide +kernel) (Nat.le_of_ble_eq_true rfl) fun E X Y => by
    have o : Ok (fX11_set p1 p2 p3 s0) (fun x σ' => x = r ∧ σ' = σ1) := ⟨r, σ1, e, rfl, rfl⟩
    unfold fX11_set at o
    exact (
z_iload_n X 1 dX11_set_0 rfl <|
z_join o (fun (y10 : Int) s11 => r01 y10 → At E s11 26 [(0, .ref (G.2.2.1 0))] [.int (pI y10)]) (fun y10 s11 o r12 =>
z_istore (L1 := [(4, .int (pI y10)), (0, .ref (G.2.2.1 0))]) X dX11_set_26 (by decide) rfl <|
z_iload X 0 dX11_set_28 rfl <|
z_if_eq (tgt := 40) X dX11_set_30 (by decide) (r01_rg r12) o (fun o =>
z_iload X 0 dX11_set_40 rfl <|
z_zret X Y dX11_set_42 o r12 r12) fun o =>
z_aload_n X 1 dX11_set_33 rfl <|
z_getR (q := 52) X dX11_set_34 fl_X11_42 sx_0 rfl <|
z_callvV X dX11_set_37 q_673 wX10_forget sx_52 rfl (by decide) [] [] rfl rfl (Nat.le_of_ble_eq_true rfl) (fun r σ1 e => ct_X10_forget G _ r σ1 e) o fun r13 s14 o =>
z_iload X 0 dX11_set_40 rfl <|
z_zret X Y dX11_set_42 o r12 r12) fun o =>
z_if_eq (tgt := 9) X dX11_set_1 (by decide) hp1 o (fun o =>
z_aload_n X 0 dX11_set_9 rfl <|
z_iload_n X 1 dX11_set_10 rfl <|
z_iload_n X 2 dX11_set_11 rfl <|
z_iload_n X 3 dX11_set_12 rfl <|
z_callvI X dX11_set_13 q_700 wX11_changePorch sx_0 rfl (by decide) [.int (pI p1), .int (pI p2), .int (pI p3)] [] rfl rfl (Nat.le_of_ble_eq_true rfl) (fun r σ1 e => ct_X11_changePorch p1 p2 p3 hp1 hp2 hp3 G _ r σ1 e) o fun r1 s2 h3 o =>
z_goto (tgt := 26) X dX11_set_16 (by decide) <|
z_sub (L1 := [(0, .ref (G.2.2.1 0))]) X [0] rfl <|
ok_some o h3) fun o =>
z_iload_n X 1 dX11_set_4 rfl <|
z_iconst X dX11_set_5 <|
z_icmp_ne (tgt := 19) X dX11_set_6 (by decide) hp1 kc_1 o (fun o =>
z_aload_n X 0 dX11_set_19 rfl <|
z_iload_n X 1 dX11_set_20 rfl <|
z_iload_n X 2 dX11_set_21 rfl <|
z_iload_n X 3 dX11_set_22 rfl <|
z_callvI X dX11_set_23 q_712 wX11_changePerson sx_0 rfl (by decide) [.int (pI p1), .int (pI p2), .int (pI p3)] [] rfl rfl (Nat.le_of_ble_eq_true rfl) (fun r σ1 e => ct_X11_changePerson p1 p2 p3 hp1 hp2 hp3 G _ r σ1 e) o fun r4 s5 h6 o =>
z_sub (L1 := [(0, .ref (G.2.2.1 0))]) X [0] rfl <|
ok_some o h6) fun o =>
z_aload_n X 0 dX11_set_9 rfl <|
z_iload_n X 1 dX11_set_10 rfl <|
z_iload_n X 2 dX11_set_11 rfl <|
z_iload_n X 3 dX11_set_12 rfl <|
z_callvI X dX11_set_13 q_700 wX11_changePorch sx_0 rfl (by decide) [.int (pI p1), .int (pI p2), .int (pI p3)] [] rfl rfl (Nat.le_of_ble_eq_true rfl) (fun r σ1 e => ct_X11_changePorch p1 p2 p3 hp1 hp2 hp3 G _ r σ1 e) o fun r7 s8 h9 o =>
z_goto (tgt := 26) X dX11_set_16 (by decide) <|
z_sub (L1 := [(0, .ref (G.2.2.1 0))]) X [0] rfl <|
ok_some o h9 : At E s0 0 [(0, .ref (G.2.2.1 0)), (1, .int (pI p1)), (2, .int (pI p2)), (3, .int (pI p3))] [])
set_option maxHeartbeats 4000000 in
set_option maxRecDepth 100000 in
theorem ct_X11_soonest (p1 : Int) (hp1 : rg p1) (G : Gw) (s0 : St) (r : Int) (σ1 : St) (e : fX11_soonest p1 s0 = some (r, σ1)) : Ct yX11_soonest cX11_soonest 4 (some .int) 6 148 SX G [.ref (G.2.2.1 0), .int (pI p1)] s0 (QI SX G r rg σ1) :=
  Ct.of (by decide +kernel) (Nat.le_of_ble_eq_true rfl) fun E X Y => by
    have o : Ok (fX11_soonest p1 s0) (fun x σ' => x = r ∧ σ' = σ1) := ⟨r, σ1, e, rfl, rfl⟩
    unfold fX11_soonest at o
    exact (
z_aload_n X 0 dX11_soonest_0 rfl <|
z_getR (q := 3) X dX11_soonest_1 fl_X11_19 sx_0 rfl <|
z_iload_n X 1 dX11_soonest_4 rfl <|
z_callvI X dX11_soonest_5 q_708 wX2_hasPerson sx_3 rfl (by decide) [.int (pI p1)] [] rfl rfl (Nat.le_of_ble_eq_true rfl) (fun r σ1 e => ct_X2_hasPerson p1 hp1 G _ r σ1 e) o fun r1 s2 h3 o =>
z_if_ne (tgt := 13) X dX11_soonest_8 (by decide) (r01_rg h3) o (fun o =>
z_aload_n X 0 dX11_soonest_13 rfl <|
z_getR (q := 171) X dX11_soonest_14 fl_X11_94 sx_0 rfl <|
z_aload_n X 0 dX11_soonest_17 rfl <|
z_getR (q := 3) X dX11_soonest_18 fl_X11_19 sx_0 rfl <|
z_callvV X dX11_soonest_21 q_1190 wX2_copyFrom sx_171 rfl (by decide) [.ref (G.2.2.1 3)] [] rfl rfl (Nat.le_of_ble_eq_true rfl) (fun r σ1 e => ct_X2_copyFrom 171 3 ish_171 ish_3 G _ r σ1 e) o fun r4 s5 o =>
z_iconst X dX11_soonest_24 <|
z_istore_n (L1 := [(2, .int (pI 0)), (0, .ref (G.2.2.1 0)), (1, .int (pI p1))]) X dX11_soonest_25 rfl (by decide) rfl <|
z_join o (fun (y15 : Int) s16 => rg y15 → At E s16 60 [(0, .ref (G.2.2.1 0)), (1, .int (pI p1)), (2, .int (pI y15))] []) (fun y15 s16 o r17 =>
z_aload_n X 0 dX11_soonest_60 rfl <|
z_getR (q := 3) X dX11_soonest_61 fl_X11_19 sx_0 rfl <|
z_getRN (q := 16) X dX11_soonest_64 fn_X11_268 sx_3 rfl <|
z_iload_n X 1 dX11_soonest_67 rfl <|
z_iald X dX11_soonest_68 sx_16 hp1 o fun v18 r19 o =>
z_iconst X dX11_soonest_69 <|
z_join o (fun (y20 : Int) s21 => r01 y20 → At E s21 78 [(0, .ref (G.2.2.1 0)), (2, .int (pI y15))] [.int (pI y20)]) (fun y20 s21 o r22 =>
z_istore_n (L1 := [(3, .int (pI y20)), (0, .ref (G.2.2.1 0)), (2, .int (pI y15))]) X dX11_soonest_78 rfl (by decide) rfl <|
z_aload_n X 1 dX11_soonest_79 rfl <|
z_getR (q := 3) X dX11_soonest_80 fl_X11_19 sx_0 rfl <|
z_aload_n X 1 dX11_soonest_83 rfl <|
z_getR (q := 171) X dX11_soonest_84 fl_X11_94 sx_0 rfl <|
z_callvV X dX11_soonest_87 q_1190 wX2_copyFrom sx_3 rfl (by decide) [.ref (G.2.2.1 171)] [] rfl rfl (Nat.le_of_ble_eq_true rfl) (fun r σ1 e => ct_X2_copyFrom 3 171 ish_3 ish_171 G _ r σ1 e) o fun r23 s24 o =>
z_iload_n X 0 dX11_soonest_90 rfl <|
z_if_eq (tgt := 98) X dX11_soonest_91 (by decide) (r01_rg r22) o (fun o =>
z_iconst X dX11_soonest_98 <|
z_iret X Y dX11_soonest_99 o kc_m1) fun o =>
z_iload_n X 2 dX11_soonest_94 rfl <|
z_goto (tgt := 99) X dX11_soonest_95 (by decide) <|
z_iret X Y dX11_soonest_99 o r17) fun o =>
z_icmp_eq (tgt := 77) X dX11_soonest_70 (by decide) r19 kc_m1 o (fun o =>
z_iconst X dX11_soonest_77 <|
z_sub (L1 := [(0, .ref (G.2.2.1 0)), (2, .int (pI y15))]) X [0, 2] rfl <|
ok_some o kb_0) fun o =>
z_iconst X dX11_soonest_73 <|
z_goto (tgt := 78) X dX11_soonest_74 (by decide) <|
z_sub (L1 := [(0, .ref (G.2.2.1 0)), (2, .int (pI y15))]) X [0, 2] rfl <|
ok_some o kb_1) fun o =>
z_sub (L1 := [(0, .ref (G.2.2.1 0)), (1, .int (pI p1)), (2, .int (pI 0))]) X [1, 2, 0] rfl <|
z_iter (fun (x7 : Int) s8 => rg x7 → At E s8 26 [(0, .ref (G.2.2.1 0)), (1, .int (pI p1)), (2, .int (pI x7))] []) o (fun x7 s8 o r9 =>
z_aload_n X 0 dX11_soonest_26 rfl <|
z_getR (q := 3) X dX11_soonest_27 fl_X11_19 sx_0 rfl <|
z_getRN (q := 16) X dX11_soonest_30 fn_X11_268 sx_3 rfl <|
z_iload_n X 1 dX11_soonest_33 rfl <|
z_iald X dX11_soonest_34 sx_16 hp1 o fun v10 r11 o =>
z_iconst X dX11_soonest_35 <|
z_icmp_ne (tgt := 60) X dX11_soonest_36 (by decide) r11 kc_m1 o (fun o =>
ok_some o r9) fun o =>
z_iload_n X 2 dX11_soonest_39 rfl <|
z_bipush X dX11_soonest_40 bi_60 <|
z_icmp_ge (tgt := 60) X dX11_soonest_42 (by decide) r9 kc_60 o (fun o =>
ok_some o r9) fun o =>
z_aload_n X 0 dX11_soonest_45 rfl <|
z_getR (q := 152) X dX11_soonest_46 fl_X11_69 sx_0 rfl <|
z_iconst X dX11_soonest_49 <|
z_callvI X dX11_soonest_50 q_783 wX1_pass sx_152 rfl (by decide) [.int (pI 1)] [] rfl rfl (Nat.le_of_ble_eq_true rfl) (fun r σ1 e => ct_X1_pass 1 kb_1 G _ r σ1 e) o fun r12 s13 h14 o =>
z_pop X dX11_soonest_53 rfl <|
z_iinc (L1 := [(2, .int (pI (w32 (x7 + 1)))), (0, .ref (G.2.2.1 0)), (1, .int (pI p1))]) X 2 dX11_soonest_54 rfl (by decide) rfl <|
z_goto (tgt := 26) X dX11_soonest_57 (by decide) <|
z_sub (L1 := [(0, .ref (G.2.2.1 0)), (1, .int (pI p1)), (2, .int (pI (w32 (x7 + 1))))]) X [1, 2, 0] rfl <|
ok_some o (w32_rg _)) kc_0) fun o =>
z_iconst X dX11_soonest_11 <|
z_iret X Y dX11_soonest_12 o kc_m1 : At E s0 0 [(0, .ref (G.2.2.1 0)), (1, .int (pI p1))] [])
set_option maxHeartbeats 4000000 in
set_option maxRecDepth 100000 in
theorem ct_X11_state (p1 : Int) (hp1 : rg p1) (G : Gw) (s0 : St) (r : Int) (σ1 : St) (e : fX11_state p1 s0 = some (r, σ1)) : Ct yX11_state cX11_state 3 (some .int) 1 20 SX G [.ref (G.2.2.1 0), .int (pI p1)] s0 (QI SX G r rg σ1) :=
  Ct.of (by decide +kernel) (Nat.le_of_ble_eq_true rfl) fun E X Y => by
    have o : Ok (fX11_state p1 s0) (fun x σ' => x = r ∧ σ' = σ1) := ⟨r, σ1, e, rfl, rfl⟩
    unfold fX11_state at o
    exact (
z_aload_n X 0 dX11_state_0 rfl <|
z_getR (q := 3) X dX11_state_1 fl_X11_19 sx_0 rfl <|
z_getIN X dX11_state_4 fn_X11_110 sx_3 rfl o fun v1 r2 o =>
z_istore_n (L1 := [(2, .int (pI v1)), (0, .ref (G.2.2.1 0)), (1, .int (pI p1))]) X dX11_state_7 rfl (by decide) rfl <|
z_aload_n X 1 dX11_state_8 rfl <|
z_getR (q := 3) X dX11_state_9 fl_X11_19 sx_0 rfl <|
z_iload_n X 2 dX11_state_12 rfl <|
z_putIN X dX11_state_13 fn_X11_110 sx_3 ft_X2_0 rfl hp1 o fun s3 o =>
z_aload_n X 1 dX11_state_16 rfl <|
z_getR (q := 52) X dX11_state_17 fl_X11_42 sx_0 rfl <|
z_callvV X dX11_state_20 q_673 wX10_forget sx_52 rfl (by decide) [] [] rfl rfl (Nat.le_of_ble_eq_true rfl) (fun r σ1 e => ct_X10_forget G _ r σ1 e) o fun r4 s5 o =>
z_iload_n X 0 dX11_state_23 rfl <|
z_iret X Y dX11_state_24 o r2 : At E s0 0 [(0, .ref (G.2.2.1 0)), (1, .int (pI p1))] [])
set_option maxHeartbeats 4000000 in
set_option maxRecDepth 100000 in
theorem ct_X4_hasPace (p1 : Int) (p2 : Int) (hp1 : rg p1) (hp2 : rg p2) (G : Gw) (s0 : St) (r : Int) (σ1 : St) (e : fX4_hasPace p1 p2 s0 = some (r, σ1)) : Ct yX4_hasPace cX4_hasPace 2 (some .boolean) 0 0 SX G [.int (pI p1), .int (pI p2)] s0 (QI SX G r r01 σ1) :=
  Ct.of (by decide +kernel) (Nat.le_of_ble_eq_true rfl) fun E X Y => by
    have o : Ok (fX4_hasPace p1 p2 s0) (fun x σ' => x = r ∧ σ' = σ1) := ⟨r, σ1, e, rfl, rfl⟩
    unfold fX4_hasPace at o
    exact (
z_iload_n X 0 dX4_hasPace_0 rfl <|
z_iload_n X 1 dX4_hasPace_1 rfl <|
z_iconst X dX4_hasPace_2 <|
z_isub X dX4_hasPace_3 <|
z_ishr X dX4_hasPace_4 <|
z_iconst X dX4_hasPace_5 <|
z_iand X dX4_hasPace_6 <|
z_iconst X dX4_hasPace_7 <|
z_icmp_ne (tgt := 15) X dX4_hasPace_8 (by decide) (int_rg _) kc_1 o (fun o =>
z_iconst X dX4_hasPace_15 <|
z_zret X Y dX4_hasPace_16 o kb_0 kb_0) fun o =>
z_iconst X dX4_hasPace_11 <|
z_goto (tgt := 16) X dX4_hasPace_12 (by decide) <|
z_zret X Y dX4_hasPace_16 o kb_1 kb_1 : At E s0 0 [(0, .int (pI p1)), (1, .int (pI p2))] [])
set_option maxHeartbeats 4000000 in
set_option maxRecDepth 100000 in
theorem ct_X4_waysUp (p1 : Int) (p2 : Int) (hp1 : rg p1) (hp2 : rg p2) (G : Gw) (s0 : St) (r : Int) (σ1 : St) (e : fX4_waysUp p1 p2 s0 = some (r, σ1)) : Ct yX4_waysUp cX4_waysUp 7 (some .int) 1 22 SX G [.ref (G.2.2.1 157), .int (pI p1), .int (pI p2)] s0 (QI SX G r rg σ1) :=
  Ct.of (by decide +kernel) (Nat.le_of_ble_eq_true rfl) fun E X Y => by
    have o : Ok (fX4_waysUp p1 p2 s0) (fun x σ' => x = r ∧ σ' = σ1) := ⟨r, σ1, e, rfl, rfl⟩
    unfold fX4_waysUp at o
    exact (
z_iload_n X 1 dX4_waysUp_0 rfl <|
z_iconst X dX4_waysUp_1 <|
z_bipush X dX4_waysUp_2 bi_40 <|
z_callsIN X dX4_waysUp_4 q_1288 wX11_within  (by decide) [.int (pI p1), .int (pI 0), .int (pI 40)] [] rfl rfl (Nat.le_of_ble_eq_true rfl) (fun r σ1 e => ct_X11_within p1 0 40 hp1 kc_0 kc_40 G _ r σ1 e) o fun r1 s2 h3 o =>
z_if_ne (tgt := 12) X dX4_waysUp_7 (by decide) (r01_rg h3) o (fun o =>
z_aload_n X 0 dX4_waysUp_12 rfl <|
z_getR (q := 163) X dX4_waysUp_13 fl_X4_27 sx_157 rfl <|
z_iconst X dX4_waysUp_16 <|
z_lconst X dX4_waysUp_17 rfl <|
z_last X dX4_waysUp_18 sx_163 kc_0 kl_1 o fun s4 o =>
z_iconst X dX4_waysUp_19 <|
z_istore_n (L1 := [(3, .int (pI 1)), (0, .ref (G.2.2.1 157)), (1, .int (pI p1)), (2, .int (pI p2))]) X dX4_waysUp_20 rfl (by decide) rfl <|
z_join o (fun (y23 : Unit) s24 => True → At E s24 91 [(0, .ref (G.2.2.1 157)), (1, .int (pI p1))] []) (fun y23 s24 o r25 =>
z_aload_n X 0 dX4_waysUp_91 rfl <|
z_getR (q := 163) X dX4_waysUp_92 fl_X4_27 sx_157 rfl <|
z_iload_n X 1 dX4_waysUp_95 rfl <|
z_lald X dX4_waysUp_96 sx_163 hp1 o fun v26 r27 o =>
z_l2i X dX4_waysUp_97 <|
z_iret X Y dX4_waysUp_98 o (w32_rg _)) fun o =>
z_sub (L1 := [(0, .ref (G.2.2.1 157)), (1, .int (pI p1)), (2, .int (pI p2)), (3, .int (pI 1))]) X [1, 2, 3, 0] rfl <|
z_iter (fun (x5 : Int) s6 => rg x5 → At E s6 21 [(0, .ref (G.2.2.1 157)), (1, .int (pI p1)), (2, .int (pI p2)), (3, .int (pI x5))] []) o (fun x5 s6 o r7 =>
z_iload_n X 3 dX4_waysUp_21 rfl <|
z_iload_n X 1 dX4_waysUp_22 rfl <|
z_icmp_gt (tgt := 91) X dX4_waysUp_23 (by decide) r7 hp1 o (fun o =>
z_sub (L1 := [(0, .ref (G.2.2.1 157)), (1, .int (pI p1))]) X [0, 1] rfl <|
ok_some o trivial) fun o =>
z_lconst X dX4_waysUp_26 rfl <|
z_lstore (L1 := [(4, .long (pJ 0)), (0, .ref (G.2.2.1 157)), (1, .int (pI p1)), (2, .int (pI p2)), (3, .int (pI x5))]) X dX4_waysUp_27 (by decide) rfl <|
z_iconst X dX4_waysUp_29 <|
z_istore (L1 := [(6, .int (pI 1)), (4, .long (pJ 0)), (0, .ref (G.2.2.1 157)), (1, .int (pI p1)), (2, .int (pI p2)), (3, .int (pI x5))]) X dX4_waysUp_30 (by decide) rfl <|
z_join o (fun (y18 : Int) s19 => rl y18 → At E s19 73 [(0, .ref (G.2.2.1 157)), (1, .int (pI p1)), (2, .int (pI p2)), (3, .int (pI x5)), (4, .long (pJ y18))] []) (fun y18 s19 o r20 =>
z_aload_n X 0 dX4_waysUp_73 rfl <|
z_getR (q := 163) X dX4_waysUp_74 fl_X4_27 sx_157 rfl <|
z_iload_n X 3 dX4_waysUp_77 rfl <|
z_lload X 4 dX4_waysUp_78 rfl <|
z_ldc2 X dX4_waysUp_80 q_1319 kj_1000000007 <|
z_lrem X dX4_waysUp_83 r20 kl_1000000007 o fun z21 o =>
z_last X dX4_waysUp_84 sx_163 r7 (lrm_rl kl_1000000007 z21) o fun s22 o =>
z_iinc (L1 := [(3, .int (pI (w32 (x5 + 1)))), (0, .ref (G.2.2.1 157)), (1, .int (pI p1)), (2, .int (pI p2)), (4, .long (pJ y18))]) X 3 dX4_waysUp_85 rfl (by decide) rfl <|
z_goto (tgt := 21) X dX4_waysUp_88 (by decide) <|
z_sub (L1 := [(0, .ref (G.2.2.1 157)), (1, .int (pI p1)), (2, .int (pI p2)), (3, .int (pI (w32 (x5 + 1))))]) X [1, 2, 3, 0] rfl <|
ok_some o (w32_rg _)) fun o =>
z_sub (L1 := [(0, .ref (G.2.2.1 157)), (1, .int (pI p1)), (2, .int (pI p2)), (3, .int (pI x5)), (4, .long (pJ 0)), (6, .int (pI 1))]) X [2, 3, 4, 5, 1, 0] rfl <|
z_iter (fun (x8 : Int × Int) s9 => rl x8.1 ∧ rg x8.2 → At E s9 32 [(0, .ref (G.2.2.1 157)), (1, .int (pI p1)), (2, .int (pI p2)), (3, .int (pI x5)), (4, .long (pJ x8.1)), (6, .int (pI x8.2))] []) o (fun x8 s9 o r10 =>
z_iload X 5 dX4_waysUp_32 rfl <|
z_iconst X dX4_waysUp_34 <|
z_icmp_gt (tgt := 73) X dX4_waysUp_35 (by decide) r10.2 kc_5 o (fun o =>
z_sub (L1 := [(0, .ref (G.2.2.1 157)), (1, .int (pI p1)), (2, .int (pI p2)), (3, .int (pI x5)), (4, .long (pJ x8.1))]) X [0, 1, 2, 3, 4] rfl <|
ok_some o r10.1) fun o =>
z_iload_n X 3 dX4_waysUp_38 rfl <|
z_iload X 5 dX4_waysUp_39 rfl <|
z_icmp_lt (tgt := 67) X dX4_waysUp_41 (by decide) r7 r10.2 o (fun o =>
z_iinc (L1 := [(6, .int (pI (w32 (x8.2 + 1)))), (0, .ref (G.2.2.1 157)), (1, .int (pI p1)), (2, .int (pI p2)), (3, .int (pI x5)), (4, .long (pJ x8.1))]) X 5 dX4_waysUp_67 rfl (by decide) rfl <|
z_goto (tgt := 32) X dX4_waysUp_70 (by decide) <|
z_sub (L1 := [(0, .ref (G.2.2.1 157)), (1, .int (pI p1)), (2, .int (pI p2)), (3, .int (pI x5)), (4, .long (pJ x8.1)), (6, .int (pI (w32 (x8.2 + 1))))]) X [1, 2, 3, 4, 5, 0] rfl <|
ok_some o ⟨r10.1, (w32_rg _)⟩) fun o =>
z_iload_n X 2 dX4_waysUp_44 rfl <|
z_iload X 5 dX4_waysUp_45 rfl <|
z_callsI X dX4_waysUp_47 q_1439 wX4_hasPace  (by decide) [.int (pI p2), .int (pI x8.2)] [] rfl rfl (Nat.le_of_ble_eq_true rfl) (fun r σ1 e => ct_X4_hasPace p2 x8.2 hp2 r10.2 G _ r σ1 e) o fun r11 s12 h13 o =>
z_if_eq (tgt := 67) X dX4_waysUp_50 (by decide) (r01_rg h13) o (fun o =>
z_iinc (L1 := [(6, .int (pI (w32 (x8.2 + 1)))), (0, .ref (G.2.2.1 157)), (1, .int (pI p1)), (2, .int (pI p2)), (3, .int (pI x5)), (4, .long (pJ x8.1))]) X 5 dX4_waysUp_67 rfl (by decide) rfl <|
z_goto (tgt := 32) X dX4_waysUp_70 (by decide) <|
z_sub (L1 := [(0, .ref (G.2.2.1 157)), (1, .int (pI p1)), (2, .int (pI p2)), (3, .int (pI x5)), (4, .long (pJ x8.1)), (6, .int (pI (w32 (x8.2 + 1))))]) X [1, 2, 3, 4, 5, 0] rfl <|
ok_some o ⟨r10.1, (w32_rg _)⟩) fun o =>
z_lload X 4 dX4_waysUp_53 rfl <|
z_aload_n X 0 dX4_waysUp_55 rfl <|
z_getR (q := 163) X dX4_waysUp_56 fl_X4_27 sx_157 rfl <|
z_iload_n X 3 dX4_waysUp_59 rfl <|
z_iload X 5 dX4_waysUp_60 rfl <|
z_isub X dX4_waysUp_62 <|
z_lald X dX4_waysUp_63 sx_163 (w32_rg _) o fun v14 r15 o =>
z_ladd X dX4_waysUp_64 <|
z_lstoreL (L1 := fun v16 => [(4, .long (pJ v16)), (0, .ref (G.2.2.1 157)), (1, .int (pI p1)), (2, .int (pI p2)), (3, .int (pI x5)), (6, .int (pI x8.2))]) (R := rl) X dX4_waysUp_65 (by decide) (fun _ => rfl) o (w64_rl _) fun v16 r17 o =>
z_iinc (L1 := [(6, .int (pI (w32 (x8.2 + 1)))), (4, .long (pJ v16)), (0, .ref (G.2.2.1 157)), (1, .int (pI p1)), (2, .int (pI p2)), (3, .int (pI x5))]) X 5 dX4_waysUp_67 rfl (by decide) rfl <|
z_goto (tgt := 32) X dX4_waysUp_70 (by decide) <|
z_sub (L1 := [(0, .ref (G.2.2.1 157)), (1, .int (pI p1)), (2, .int (pI p2)), (3, .int (pI x5)), (4, .long (pJ v16)), (6, .int (pI (w32 (x8.2 + 1))))]) X [2, 3, 4, 5, 1, 0] rfl <|
ok_some o ⟨r17, (w32_rg _)⟩) ⟨kl_0, kc_1⟩) kc_1) fun o =>
z_iconst X dX4_waysUp_10 <|
z_iret X Y dX4_waysUp_11 o kc_m1 : At E s0 0 [(0, .ref (G.2.2.1 157)), (1, .int (pI p1)), (2, .int (pI p2))] [])
set_option maxHeartbeats 4000000 in
set_option maxRecDepth 100000 in
theorem ct_X4_waysUpAlike (p1 : Int) (p2 : Int) (hp1 : rg p1) (hp2 : rg p2) (G : Gw) (s0 : St) (r : Int) (σ1 : St) (e : fX4_waysUpAlike p1 p2 s0 = some (r, σ1)) : Ct yX4_waysUpAlike cX4_waysUpAlike 7 (some .int) 2 48 SX G [.ref (G.2.2.1 157), .int (pI p1), .int (pI p2)] s0 (QI SX G r rg σ1) :=
  Ct.of (by decide +kernel) (Nat.le_of_ble_eq_true rfl) fun E X Y => by
    have o : Ok (fX4_waysUpAlike p1 p2 s0) (fun x σ' => x = r ∧ σ' = σ1) := ⟨r, σ1, e, rfl, rfl⟩
    unfold fX4_waysUpAlike at o
    exact (
z_aload_n X 0 dX4_waysUpAlike_0 rfl <|
z_iload_n X 1 dX4_waysUpAlike_1 rfl <|
z_iload_n X 2 dX4_waysUpAlike_2 rfl <|
z_callvI X dX4_waysUpAlike_3 q_1446 wX4_waysUp sx_157 rfl (by decide) [.int (pI p1), .int (pI p2)] [] rfl rfl (Nat.le_of_ble_eq_true rfl) (fun r σ1 e => ct_X4_waysUp p1 p2 hp1 hp2 G _ r σ1 e) o fun r1 s2 h3 o =>
z_istore_n (L1 := [(3, .int (pI r1)), (0, .ref (G.2.2.1 157)), (1, .int (pI p1)), (2, .int (pI p2))]) X dX4_waysUpAlike_6 rfl (by decide) rfl <|
z_iload_n X 2 dX4_waysUpAlike_7 rfl <|
z_if_le (tgt := 17) X dX4_waysUpAlike_8 (by decide) hp1 o (fun o =>
z_iload_n X 0 dX4_waysUpAlike_17 rfl <|
z_iret X Y dX4_waysUpAlike_18 o h3) fun o =>
z_iload_n X 2 dX4_waysUpAlike_11 rfl <|
z_bipush X dX4_waysUpAlike_12 bi_40 <|
z_icmp_le (tgt := 19) X dX4_waysUpAlike_14 (by decide) hp1 kc_40 o (fun o =>
z_lconst X dX4_waysUpAlike_19 rfl <|
z_lstore (L1 := [(4, .long (pJ 0)), (3, .int (pI r1)), (0, .ref (G.2.2.1 157)), (1, .int (pI p1)), (2, .int (pI p2))]) X dX4_waysUpAlike_20 (by decide) rfl <|
z_iconst X dX4_waysUpAlike_22 <|
z_istore (L1 := [(6, .int (pI 1)), (4, .long (pJ 0)), (3, .int (pI r1)), (0, .ref (G.2.2.1 157)), (1, .int (pI p1)), (2, .int (pI p2))]) X dX4_waysUpAlike_23 (by decide) rfl <|
z_join o (fun (y19 : Int) s20 => rl y19 → At E s20 85 [(4, .long (pJ y19))] []) (fun y19 s20 o r21 =>
z_lload X 0 dX4_waysUpAlike_85 rfl <|
z_ldc2 X dX4_waysUpAlike_87 q_1319 kj_1000000007 <|
z_lrem X dX4_waysUpAlike_90 r21 kl_1000000007 o fun z22 o =>
z_l2i X dX4_waysUpAlike_91 <|
z_iret X Y dX4_waysUpAlike_92 o (w32_rg _)) fun o =>
z_sub (L1 := [(0, .ref (G.2.2.1 157)), (1, .int (pI p1)), (2, .int (pI p2)), (4, .long (pJ 0)), (6, .int (pI 1))]) X [3, 4, 5, 1, 0] rfl <|
z_iter (fun (x4 : Int × Int) s5 => rl x4.1 ∧ rg x4.2 → At E s5 25 [(0, .ref (G.2.2.1 157)), (1, .int (pI p1)), (2, .int (pI p2)), (4, .long (pJ x4.1)), (6, .int (pI x4.2))] []) o (fun x4 s5 o r6 =>
z_iload X 4 dX4_waysUpAlike_25 rfl <|
z_iconst X dX4_waysUpAlike_27 <|
z_icmp_gt (tgt := 85) X dX4_waysUpAlike_28 (by decide) r6.2 kc_5 o (fun o =>
z_sub (L1 := [(4, .long (pJ x4.1))]) X [3] rfl <|
ok_some o r6.1) fun o =>
z_iload_n X 2 dX4_waysUpAlike_31 rfl <|
z_iload X 4 dX4_waysUpAlike_32 rfl <|
z_callsI X dX4_waysUpAlike_34 q_1439 wX4_hasPace  (by decide) [.int (pI p2), .int (pI x4.2)] [] rfl rfl (Nat.le_of_ble_eq_true rfl) (fun r σ1 e => ct_X4_hasPace p2 x4.2 hp2 r6.2 G _ r σ1 e) o fun r7 s8 h9 o =>
z_if_ne (tgt := 43) X dX4_waysUpAlike_37 (by decide) (r01_rg h9) o (fun o =>
z_iload_n X 1 dX4_waysUpAlike_43 rfl <|
z_iload X 4 dX4_waysUpAlike_44 rfl <|
z_join o (fun (y12 : Int) s13 => rl y12 → At E s13 55 [(0, .ref (G.2.2.1 157)), (1, .int (pI p1)), (2, .int (pI p2)), (4, .long (pJ y12)), (6, .int (pI x4.2))] []) (fun y12 s13 o r14 =>
z_iload_n X 1 dX4_waysUpAlike_55 rfl <|
z_iconst X dX4_waysUpAlike_56 <|
z_iload X 4 dX4_waysUpAlike_57 rfl <|
z_imul X dX4_waysUpAlike_59 <|
z_icmp_lt (tgt := 79) X dX4_waysUpAlike_60 (by decide) hp1 (w32_rg _) o (fun o =>
z_iinc (L1 := [(6, .int (pI (w32 (x4.2 + 1)))), (0, .ref (G.2.2.1 157)), (1, .int (pI p1)), (2, .int (pI p2)), (4, .long (pJ y12))]) X 4 dX4_waysUpAlike_79 rfl (by decide) rfl <|
z_goto (tgt := 25) X dX4_waysUpAlike_82 (by decide) <|
z_sub (L1 := [(0, .ref (G.2.2.1 157)), (1, .int (pI p1)), (2, .int (pI p2)), (4, .long (pJ y12)), (6, .int (pI (w32 (x4.2 + 1))))]) X [1, 2, 3, 4, 0] rfl <|
ok_some o ⟨r14, (w32_rg _)⟩) fun o =>
z_lload X 3 dX4_waysUpAlike_63 rfl <|
z_aload_n X 0 dX4_waysUpAlike_65 rfl <|
z_getR (q := 163) X dX4_waysUpAlike_66 fl_X4_27 sx_157 rfl <|
z_iload_n X 1 dX4_waysUpAlike_69 rfl <|
z_iconst X dX4_waysUpAlike_70 <|
z_iload X 4 dX4_waysUpAlike_71 rfl <|
z_imul X dX4_waysUpAlike_73 <|
z_isub X dX4_waysUpAlike_74 <|
z_lald X dX4_waysUpAlike_75 sx_163 (w32_rg _) o fun v15 r16 o =>
z_ladd X dX4_waysUpAlike_76 <|
z_lstoreL (L1 := fun v17 => [(4, .long (pJ v17)), (0, .ref (G.2.2.1 157)), (1, .int (pI p1)), (2, .int (pI p2)), (6, .int (pI x4.2))]) (R := rl) X dX4_waysUpAlike_77 (by decide) (fun _ => rfl) o (w64_rl _) fun v17 r18 o =>
z_iinc (L1 := [(6, .int (pI (w32 (x4.2 + 1)))), (4, .long (pJ v17)), (0, .ref (G.2.2.1 157)), (1, .int (pI p1)), (2, .int (pI p2))]) X 4 dX4_waysUpAlike_79 rfl (by decide) rfl <|
z_goto (tgt := 25) X dX4_waysUpAlike_82 (by decide) <|
z_sub (L1 := [(0, .ref (G.2.2.1 157)), (1, .int (pI p1)), (2, .int (pI p2)), (4, .long (pJ v17)), (6, .int (pI (w32 (x4.2 + 1))))]) X [2, 3, 4, 1, 0] rfl <|
ok_some o ⟨r18, (w32_rg _)⟩) fun o =>
z_icmp_ne (tgt := 55) X dX4_waysUpAlike_46 (by decide) hp1 r6.2 o (fun o =>
ok_some o r6.1) fun o =>
z_lload X 3 dX4_waysUpAlike_49 rfl <|
z_lconst X dX4_waysUpAlike_51 rfl <|
z_ladd X dX4_waysUpAlike_52 <|
z_lstoreL (L1 := fun v10 => [(4, .long (pJ v10)), (0, .ref (G.2.2.1 157)), (1, .int (pI p1)), (2, .int (pI p2)), (6, .int (pI x4.2))]) (R := rl) X dX4_waysUpAlike_53 (by decide) (fun _ => rfl) o (w64_rl _) fun v10 r11 o =>
z_sub (L1 := [(0, .ref (G.2.2.1 157)), (1, .int (pI p1)), (2, .int (pI p2)), (4, .long (pJ v10)), (6, .int (pI x4.2))]) X [1, 2, 3, 0, 4] rfl <|
ok_some o r11) fun o =>
z_goto (tgt := 79) X dX4_waysUpAlike_40 (by decide) <|
z_iinc (L1 := [(6, .int (pI (w32 (x4.2 + 1)))), (0, .ref (G.2.2.1 157)), (1, .int (pI p1)), (2, .int (pI p2)), (4, .long (pJ x4.1))]) X 4 dX4_waysUpAlike_79 rfl (by decide) rfl <|
z_goto (tgt := 25) X dX4_waysUpAlike_82 (by decide) <|
z_sub (L1 := [(0, .ref (G.2.2.1 157)), (1, .int (pI p1)), (2, .int (pI p2)), (4, .long (pJ x4.1)), (6, .int (pI (w32 (x4.2 + 1))))]) X [1, 2, 3, 4, 0] rfl <|
ok_some o ⟨r6.1, (w32_rg _)⟩) ⟨kl_0, kc_1⟩) fun o =>
z_iload_n X 0 dX4_waysUpAlike_17 rfl <|
z_iret X Y dX4_waysUpAlike_18 o h3 : At E s0 0 [(0, .ref (G.2.2.1 157)), (1, .int (pI p1)), (2, .int (pI p2))] [])
set_option maxHeartbeats 4000000 in
set_option maxRecDepth 100000 in
theorem ct_X11_steps (p1 : Int) (p2 : Int) (p3 : Int) (hp1 : rg p1) (hp2 : rg p2) (hp3 : rg p3) (G : Gw) (s0 : St) (r : Int) (σ1 : St) (e : fX11_steps p1 p2 p3 s0 = some (r, σ1)) : Ct yX11_steps cX11_steps 4 (some .int) 3 74 SX G [.ref (G.2.2.1 0), .int (pI p1), .int (pI p2), .int (pI p3)] s0 (QI SX G r rg σ1) :=
  Ct.of (by decide +kernel) (Nat.le_of_ble_eq_true rfl) fun E X Y => by
    have o : Ok (fX11_steps p1 p2 p3 s0) (fun x σ' => x = r ∧ σ' = σ1) := ⟨r, σ1, e, rfl, rfl⟩
    unfold fX11_steps at o
    exact (
z_iload_n X 1 dX11_steps_0 rfl <|
z_iconst X dX11_steps_1 <|
z_bipush X dX11_steps_2 bi_40 <|
z_callsI X dX11_steps_4 q_681 wX11_within  (by decide) [.int (pI p1), .int (pI 0), .int (pI 40)] [] rfl rfl (Nat.le_of_ble_eq_true rfl) (fun r σ1 e => ct_X11_within p1 0 40 hp1 kc_0 kc_40 G _ r σ1 e) o fun r1 s2 h3 o =>
z_if_eq (tgt := 20) X dX11_steps_7 (by decide) (r01_rg h3) o (fun o =>
z_iconst X dX11_steps_20 <|
z_iret X Y dX11_steps_21 o kc_m1) fun o =>
z_iload_n X 2 dX11_steps_10 rfl <|
z_iconst X dX11_steps_11 <|
z_bipush X dX11_steps_12 bi_31 <|
z_callsI X dX11_steps_14 q_681 wX11_within  (by decide) [.int (pI p2), .int (pI 0), .int (pI 31)] [] rfl rfl (Nat.le_of_ble_eq_true rfl) (fun r σ1 e => ct_X11_within p2 0 31 hp2 kc_0 kc_31 G _ r σ1 e) o fun r4 s5 h6 o =>
z_if_ne (tgt := 22) X dX11_steps_17 (by decide) (r01_rg h6) o (fun o =>
z_iload_n X 3 dX11_steps_22 rfl <|
z_if_ne (tgt := 36) X dX11_steps_23 (by decide) hp3 o (fun o =>
z_iload_n X 3 dX11_steps_36 rfl <|
z_iconst X dX11_steps_37 <|
z_icmp_ne (tgt := 53) X dX11_steps_38 (by decide) hp3 kc_1 o (fun o =>
z_iconst X dX11_steps_53 <|
z_iret X Y dX11_steps_54 o kc_m1) fun o =>
z_aload_n X 0 dX11_steps_41 rfl <|
z_getR (q := 157) X dX11_steps_42 fl_X11_90 sx_0 rfl <|
z_iload_n X 1 dX11_steps_45 rfl <|
z_iload_n X 2 dX11_steps_46 rfl <|
z_callvI X dX11_steps_47 q_1442 wX4_waysUpAlike sx_157 rfl (by decide) [.int (pI p1), .int (pI p2)] [] rfl rfl (Nat.le_of_ble_eq_true rfl) (fun r σ1 e => ct_X4_waysUpAlike p1 p2 hp1 hp2 G _ r σ1 e) o fun r7 s8 h9 o =>
z_goto (tgt := 54) X dX11_steps_50 (by decide) <|
z_iret X Y dX11_steps_54 o h9) fun o =>
z_aload_n X 0 dX11_steps_26 rfl <|
z_getR (q := 157) X dX11_steps_27 fl_X11_90 sx_0 rfl <|
z_iload_n X 1 dX11_steps_30 rfl <|
z_iload_n X 2 dX11_steps_31 rfl <|
z_callvI X dX11_steps_32 q_1435 wX4_waysUp sx_157 rfl (by decide) [.int (pI p1), .int (pI p2)] [] rfl rfl (Nat.le_of_ble_eq_true rfl) (fun r σ1 e => ct_X4_waysUp p1 p2 hp1 hp2 G _ r σ1 e) o fun r10 s11 h12 o =>
z_iret X Y dX11_steps_35 o h12) fun o =>
z_iconst X dX11_steps_20 <|
z_iret X Y dX11_steps_21 o kc_m1 : At E s0 0 [(0, .ref (G.2.2.1 0)), (1, .int (pI p1)), (2, .int (pI p2)), (3, .int (pI p3))] [])
set_option maxHeartbeats 4000000 in
set_option maxRecDepth 100000 in
theorem ct_X4_countFamilies   (G : Gw) (s0 : St) (r : Int) (σ1 : St) (e : fX4_countFamilies s0 = some (r, σ1)) : Ct yX4_countFamilies cX4_countFamilies 5 (some .int) 1 22 SX G [.ref (G.2.2.1 157)] s0 (QI SX G r rg σ1) :=
  Ct.of (by decide +kernel) (Nat.le_of_ble_eq_true rfl) fun E X Y => by
    have o : Ok (fX4_countFamilies s0) (fun x σ' => x = r ∧ σ' = σ1) := ⟨r, σ1, e, rfl, rfl⟩
    unfold fX4_countFamilies at o
    exact (
z_aload_n X 0 dX4_countFamilies_0 rfl <|
z_getR (q := 158) X dX4_countFamilies_1 fl_X4_11 sx_157 rfl <|
z_iconst X dX4_countFamilies_4 <|
z_iconst X dX4_countFamilies_5 <|
z_iast X dX4_countFamilies_6 sx_158 kc_0 kc_0 o fun s1 o =>
z_bipush X dX4_countFamilies_7 bi_8 <|
z_aload_n X 0 dX4_countFamilies_9 rfl <|
z_getR (q := 17) X dX4_countFamilies_10 fl_X4_56 sx_157 rfl <|
z_getRN (q := 34) X dX4_countFamilies_13 fn_X4_101 sx_17 rfl <|
z_callvI X dX4_countFamilies_16 q_1265 wX6_size sx_34 rfl (by decide) [] [.int (pI 8)] rfl rfl (Nat.le_of_ble_eq_true rfl) (fun r σ1 e => ct_X6_size SX 34 35 8 ⟨sx_34, sx_35, (by decide)⟩ G _ r σ1 e) o fun r2 s3 h4 o =>
z_mmin X dX4_countFamilies_19 q_1310 q_837 q_174 q_838 (by decide) (Nat.le_of_ble_eq_true rfl) kc_8 h4 <|
z_istoreL_n (L1 := fun v5 => [(1, .int (pI v5)), (0, .ref (G.2.2.1 157))]) (R := rg) X dX4_countFamilies_22 rfl (by decide) (fun _ => rfl) o (imn_rg kc_8 h4) fun v5 r6 o =>
z_iconst X dX4_countFamilies_23 <|
z_istore_n (L1 := [(2, .int (pI 0)), (1, .int (pI v5)), (0, .ref (G.2.2.1 157))]) X dX4_countFamilies_24 rfl (by decide) rfl <|
z_join o (fun (y24 : Unit) s25 => True → At E s25 86 [(1, .int (pI v5))] []) (fun y24 s25 o r26 =>
z_iconst X dX4_countFamilies_86 <|
z_iload_n X 0 dX4_countFamilies_87 rfl <|
z_ishl X dX4_countFamilies_88 <|
z_iconst X dX4_countFamilies_89 <|
z_isub X dX4_countFamilies_90 <|
z_iret X Y dX4_countFamilies_91 o (w32_rg _)) fun o =>
z_sub (L1 := [(0, .ref (G.2.2.1 157)), (1, .int (pI v5)), (2, .int (pI 0))]) X [2, 1, 0] rfl <|
z_iter (fun (x7 : Int) s8 => rg x7 → At E s8 25 [(0, .ref (G.2.2.1 157)), (1, .int (pI v5)), (2, .int (pI x7))] []) o (fun x7 s8 o r9 =>
z_iload_n X 2 dX4_countFamilies_25 rfl <|
z_iload_n X 1 dX4_countFamilies_26 rfl <|
z_icmp_ge (tgt := 86) X dX4_countFamilies_27 (by decide) r9 r6 o (fun o =>
z_sub (L1 := [(1, .int (pI v5))]) X [1] rfl <|
ok_some o trivial) fun o =>
z_iconst X dX4_countFamilies_30 <|
z_iload_n X 2 dX4_countFamilies_31 rfl <|
z_ishl X dX4_countFamilies_32 <|
z_istoreL_n (L1 := fun v10 => [(3, .int (pI v10)), (0, .ref (G.2.2.1 157)), (1, .int (pI v5)), (2, .int (pI x7))]) (R := rg) X dX4_countFamilies_33 rfl (by decide) (fun _ => rfl) o (int_rg _) fun v10 r11 o =>
z_iload_n X 0 dX4_countFamilies_34 rfl <|
z_istore (L1 := [(4, .int (pI v10)), (3, .int (pI v10)), (0, .ref (G.2.2.1 157)), (1, .int (pI v5)), (2, .int (pI x7))]) X dX4_countFamilies_35 (by decide) rfl <|
z_join o (fun (y21 : Unit) s22 => True → At E s22 80 [(0, .ref (G.2.2.1 157)), (1, .int (pI v5)), (2, .int (pI x7))] []) (fun y21 s22 o r23 =>
z_iinc (L1 := [(2, .int (pI (w32 (x7 + 1)))), (0, .ref (G.2.2.1 157)), (1, .int (pI v5))]) X 2 dX4_countFamilies_80 rfl (by decide) rfl <|
z_goto (tgt := 25) X dX4_countFamilies_83 (by decide) <|
z_sub (L1 := [(0, .ref (G.2.2.1 157)), (1, .int (pI v5)), (2, .int (pI (w32 (x7 + 1))))]) X [1, 2, 0] rfl <|
ok_some o (w32_rg _)) fun o =>
z_sub (L1 := [(0, .ref (G.2.2.1 157)), (1, .int (pI v5)), (2, .int (pI x7)), (3, .int (pI v10)), (4, .int (pI v10))]) X [2, 3, 4, 1, 0] rfl <|
z_iter (fun (x12 : Int) s13 => rg x12 → At E s13 37 [(0, .ref (G.2.2.1 157)), (1, .int (pI v5)), (2, .int (pI x7)), (3, .int (pI v10)), (4, .int (pI x12))] []) o (fun x12 s13 o r14 =>
z_iload X 4 dX4_countFamilies_37 rfl <|
z_iconst X dX4_countFamilies_39 <|
z_iload_n X 3 dX4_countFamilies_40 rfl <|
z_imul X dX4_countFamilies_41 <|
z_icmp_ge (tgt := 80) X dX4_countFamilies_42 (by decide) r14 (w32_rg _) o (fun o =>
z_sub (L1 := [(0, .ref (G.2.2.1 157)), (1, .int (pI v5)), (2, .int (pI x7))]) X [0, 1, 2] rfl <|
ok_some o trivial) fun o =>
z_aload_n X 0 dX4_countFamilies_45 rfl <|
z_getR (q := 158) X dX4_countFamilies_46 fl_X4_11 sx_157 rfl <|
z_iload X 4 dX4_countFamilies_49 rfl <|
z_aload_n X 0 dX4_countFamilies_51 rfl <|
z_getR (q := 158) X dX4_countFamilies_52 fl_X4_11 sx_157 rfl <|
z_iload X 4 dX4_countFamilies_55 rfl <|
z_iload_n X 3 dX4_countFamilies_57 rfl <|
z_isub X dX4_countFamilies_58 <|
z_iald X dX4_countFamilies_59 sx_158 (w32_rg _) o fun v15 r16 o =>
z_aload_n X 0 dX4_countFamilies_60 rfl <|
z_getR (q := 17) X dX4_countFamilies_61 fl_X4_56 sx_157 rfl <|
z_getRN (q := 34) X dX4_countFamilies_64 fn_X4_101 sx_17 rfl <|
z_iload_n X 2 dX4_countFamilies_67 rfl <|
z_iconst X dX4_countFamilies_68 <|
z_callvI X dX4_countFamilies_69 q_1266 wX6_get sx_34 rfl (by decide) [.int (pI x7), .int (pI 0)] [.int (pI v15), .int (pI x12), .ref (G.2.2.1 158)] rfl rfl (Nat.le_of_ble_eq_true rfl) (fun r σ1 e => ct_X6_get SX 34 35 8 x7 0 ⟨sx_34, sx_35, (by decide)⟩ r9 kc_0 G _ r σ1 e) o fun r17 s18 h19 o =>
z_iadd X dX4_countFamilies_72 <|
z_iast X dX4_countFamilies_73 sx_158 r14 (w32_rg _) o fun s20 o =>
z_iinc (L1 := [(4, .int (pI (w32 (x12 + 1)))), (0, .ref (G.2.2.1 157)), (1, .int (pI v5)), (2, .int (pI x7)), (3, .int (pI v10))]) X 4 dX4_countFamilies_74 rfl (by decide) rfl <|
z_goto (tgt := 37) X dX4_countFamilies_77 (by decide) <|
z_sub (L1 := [(0, .ref (G.2.2.1 157)), (1, .int (pI v5)), (2, .int (pI x7)), (3, .int (pI v10)), (4, .int (pI (w32 (x12 + 1))))]) X [1, 2, 3, 4, 0] rfl <|
ok_some o (w32_rg _)) r11) kc_0 : At E s0 0 [(0, .ref (G.2.2.1 157))] [])
set_option maxHeartbeats 4000000 in
set_option maxRecDepth 100000 in
theorem ct_X4_shelterOneMore (p1 : Int) (p2 : Int) (hp1 : rg p1) (hp2 : rg p2) (G : Gw) (s0 : St) (r : Int) (σ1 : St) (e : fX4_shelterOneMore p1 p2 s0 = some (r, σ1)) : Ct yX4_shelterOneMore cX4_shelterOneMore 6 (some .int) 0 0 SX G [.ref (G.2.2.1 157), .int (pI p1), .int (pI p2)] s0 (QI SX G r rg σ1) :=
  Ct.of (by decide +kernel) (Nat.le_of_ble_eq_true rfl) fun E X Y => by
    have o : Ok (fX4_shelterOneMore p1 p2 s0) (fun x σ' => x = r ∧ σ' = σ1) := ⟨r, σ1, e, rfl, rfl⟩
    unfold fX4_shelterOneMore at o
    exact (
z_aload_n X 0 dX4_shelterOneMore_0 rfl <|
z_getR (q := 159) X dX4_shelterOneMore_1 fl_X4_15 sx_157 rfl <|
z_iload_n X 1 dX4_shelterOneMore_4 rfl <|
z_iald X dX4_shelterOneMore_5 sx_159 hp1 o fun v1 r2 o =>
z_i2l X dX4_shelterOneMore_6 r2 <|
z_lstore_n (L1 := [(3, .long (pJ v1)), (0, .ref (G.2.2.1 157)), (1, .int (pI p1)), (2, .int (pI p2))]) X dX4_shelterOneMore_7 rfl (by decide) rfl <|
z_iload_n X 2 dX4_shelterOneMore_8 rfl <|
z_istore (L1 := [(5, .int (pI p1)), (3, .long (pJ v1)), (0, .ref (G.2.2.1 157)), (1, .int (pI p1)), (2, .int (pI p2))]) X dX4_shelterOneMore_9 (by decide) rfl <|
z_join o (fun (y16 : Int) s17 => rl y16 → At E s17 51 [(3, .long (pJ y16))] []) (fun y16 s17 o r18 =>
z_lload_n X 0 dX4_shelterOneMore_51 rfl <|
z_ldc2 X dX4_shelterOneMore_52 q_1319 kj_1000000007 <|
z_lrem X dX4_shelterOneMore_55 r18 kl_1000000007 o fun z19 o =>
z_l2i X dX4_shelterOneMore_56 <|
z_iret X Y dX4_shelterOneMore_57 o (w32_rg _)) fun o =>
z_sub (L1 := [(0, .ref (G.2.2.1 157)), (1, .int (pI p1)), (2, .int (pI p2)), (3, .long (pJ v1)), (5, .int (pI p1))]) X [2, 3, 4, 1, 0] rfl <|
z_iter (fun (x3 : Int × Int) s4 => rl x3.1 ∧ rg x3.2 → At E s4 11 [(0, .ref (G.2.2.1 157)), (1, .int (pI p1)), (2, .int (pI p2)), (3, .long (pJ x3.1)), (5, .int (pI x3.2))] []) o (fun x3 s4 o r5 =>
z_iload X 4 dX4_shelterOneMore_11 rfl <|
z_if_le (tgt := 51) X dX4_shelterOneMore_13 (by decide) r5.2 o (fun o =>
z_sub (L1 := [(3, .long (pJ x3.1))]) X [3] rfl <|
ok_some o r5.1) fun o =>
z_aload_n X 0 dX4_shelterOneMore_16 rfl <|
z_getR (q := 158) X dX4_shelterOneMore_17 fl_X4_11 sx_157 rfl <|
z_iload X 4 dX4_shelterOneMore_20 rfl <|
z_iald X dX4_shelterOneMore_22 sx_158 r5.2 o fun v6 r7 o =>
z_iload_n X 2 dX4_shelterOneMore_23 rfl <|
z_icmp_gt (tgt := 40) X dX4_shelterOneMore_24 (by decide) r7 hp2 o (fun o =>
z_iload X 4 dX4_shelterOneMore_40 rfl <|
z_iconst X dX4_shelterOneMore_42 <|
z_isub X dX4_shelterOneMore_43 <|
z_iload_n X 1 dX4_shelterOneMore_44 rfl <|
z_iand X dX4_shelterOneMore_45 <|
z_istoreL (L1 := fun v8 => [(5, .int (pI v8)), (0, .ref (G.2.2.1 157)), (1, .int (pI p1)), (2, .int (pI p2)), (3, .long (pJ x3.1))]) (R := rg) X dX4_shelterOneMore_46 (by decide) (fun _ => rfl) o (int_rg _) fun v8 r9 o =>
z_goto (tgt := 11) X dX4_shelterOneMore_48 (by decide) <|
z_sub (L1 := [(0, .ref (G.2.2.1 157)), (1, .int (pI p1)), (2, .int (pI p2)), (3, .long (pJ x3.1)), (5, .int (pI v8))]) X [1, 2, 3, 4, 0] rfl <|
ok_some o ⟨r5.1, r9⟩) fun o =>
z_lload_n X 3 dX4_shelterOneMore_27 rfl <|
z_aload_n X 0 dX4_shelterOneMore_28 rfl <|
z_getR (q := 159) X dX4_shelterOneMore_29 fl_X4_15 sx_157 rfl <|
z_iload_n X 1 dX4_shelterOneMore_32 rfl <|
z_iload X 4 dX4_shelterOneMore_33 rfl <|
z_isub X dX4_shelterOneMore_35 <|
z_iald X dX4_shelterOneMore_36 sx_159 (w32_rg _) o fun v10 r11 o =>
z_i2l X dX4_shelterOneMore_37 r11 <|
z_ladd X dX4_shelterOneMore_38 <|
z_lstoreL_n (L1 := fun v12 => [(3, .long (pJ v12)), (0, .ref (G.2.2.1 157)), (1, .int (pI p1)), (2, .int (pI p2)), (5, .int (pI x3.2))]) (R := rl) X dX4_shelterOneMore_39 rfl (by decide) (fun _ => rfl) o (w64_rl _) fun v12 r13 o =>
z_iload X 4 dX4_shelterOneMore_40 rfl <|
z_iconst X dX4_shelterOneMore_42 <|
z_isub X dX4_shelterOneMore_43 <|
z_iload_n X 2 dX4_shelterOneMore_44 rfl <|
z_iand X dX4_shelterOneMore_45 <|
z_istoreL (L1 := fun v14 => [(5, .int (pI v14)), (3, .long (pJ v12)), (0, .ref (G.2.2.1 157)), (1, .int (pI p1)), (2, .int (pI p2))]) (R := rg) X dX4_shelterOneMore_46 (by decide) (fun _ => rfl) o (int_rg _) fun v14 r15 o =>
z_goto (tgt := 11) X dX4_shelterOneMore_48 (by decide) <|
z_sub (L1 := [(0, .ref (G.2.2.1 157)), (1, .int (pI p1)), (2, .int (pI p2)), (3, .long (pJ v12)), (5, .int (pI v14))]) X [2, 3, 4, 1, 0] rfl <|
ok_some o ⟨r13, r15⟩) ⟨(rg_rl r2), hp1⟩ : At E s0 0 [(0, .ref (G.2.2.1 157)), (1, .int (pI p1)), (2, .int (pI p2))] [])
set_option maxHeartbeats 4000000 in
set_option maxRecDepth 100000 in
theorem ct_X4_waysToShelter (p1 : Int) (p2 : Int) (hp1 : rg p1) (hp2 : rg p2) (G : Gw) (s0 : St) (r : Int) (σ1 : St) (e : fX4_waysToShelter p1 p2 s0 = some (r, σ1)) : Ct yX4_waysToShelter cX4_waysToShelter 6 (some .int) 2 46 SX G [.ref (G.2.2.1 157), .int (pI p1), .int (pI p2)] s0 (QI SX G r rg σ1) :=
  Ct.of (by decide +kernel) (Nat.le_of_ble_eq_true rfl) fun E X Y => by
    have o : Ok (fX4_waysToShelter p1 p2 s0) (fun x σ' => x = r ∧ σ' = σ1) := ⟨r, σ1, e, rfl, rfl⟩
    unfold fX4_waysToShelter at o
    exact (
z_aload_n X 0 dX4_waysToShelter_0 rfl <|
z_callvI X dX4_waysToShelter_1 q_1306 wX4_countFamilies sx_157 rfl (by decide) [] [] rfl rfl (Nat.le_of_ble_eq_true rfl) (fun r σ1 e => ct_X4_countFamilies G _ r σ1 e) o fun r1 s2 h3 o =>
z_istore_n (L1 := [(3, .int (pI r1)), (0, .ref (G.2.2.1 157)), (1, .int (pI p1)), (2, .int (pI p2))]) X dX4_waysToShelter_4 rfl (by decide) rfl <|
z_aload_n X 1 dX4_waysToShelter_5 rfl <|
z_getR (q := 159) X dX4_waysToShelter_6 fl_X4_15 sx_157 rfl <|
z_iconst X dX4_waysToShelter_9 <|
z_callsV X dX4_waysToShelter_10 q_1287 wJ7_fill_53178  (by decide) [.ref (G.2.2.1 159), .int (pI 0)] [] rfl rfl (Nat.le_of_ble_eq_true rfl) (fun r σ1 e => ct_J7_fill_53178 SX 159 256 0 sx_159 (by decide) kc_0 G _ r σ1 e) o fun r4 s5 o =>
z_aload_n X 1 dX4_waysToShelter_13 rfl <|
z_getR (q := 159) X dX4_waysToShelter_14 fl_X4_15 sx_157 rfl <|
z_iconst X dX4_waysToShelter_17 <|
z_iconst X dX4_waysToShelter_18 <|
z_iast X dX4_waysToShelter_19 sx_159 kc_0 kc_1 o fun s7 o =>
z_iconst X dX4_waysToShelter_20 <|
z_istore (L1 := [(4, .int (pI 0)), (3, .int (pI r1)), (0, .ref (G.2.2.1 157)), (1, .int (pI p1)), (2, .int (pI p2))]) X dX4_waysToShelter_21 (by decide) rfl <|
z_join o (fun (y21 : Unit) s22 => True → At E s22 63 [(0, .ref (G.2.2.1 157)), (3, .int (pI r1))] []) (fun y21 s22 o r23 =>
z_aload_n X 0 dX4_waysToShelter_63 rfl <|
z_getR (q := 159) X dX4_waysToShelter_64 fl_X4_15 sx_157 rfl <|
z_iload_n X 1 dX4_waysToShelter_67 rfl <|
z_iald X dX4_waysToShelter_68 sx_159 h3 o fun v24 r25 o =>
z_iret X Y dX4_waysToShelter_69 o r25) fun o =>
z_sub (L1 := [(0, .ref (G.2.2.1 157)), (1, .int (pI p1)), (2, .int (pI p2)), (3, .int (pI r1)), (4, .int (pI 0))]) X [2, 3, 4, 1, 0] rfl <|
z_iter (fun (x8 : Int) s9 => rg x8 → At E s9 23 [(0, .ref (G.2.2.1 157)), (1, .int (pI p1)), (2, .int (pI p2)), (3, .int (pI r1)), (4, .int (pI x8))] []) o (fun x8 s9 o r10 =>
z_iload X 4 dX4_waysToShelter_23 rfl <|
z_iload_n X 2 dX4_waysToShelter_25 rfl <|
z_icmp_ge (tgt := 63) X dX4_waysToShelter_26 (by decide) r10 hp2 o (fun o =>
z_sub (L1 := [(0, .ref (G.2.2.1 157)), (3, .int (pI r1))]) X [0, 3] rfl <|
ok_some o trivial) fun o =>
z_iload_n X 3 dX4_waysToShelter_29 rfl <|
z_istore (L1 := [(5, .int (pI r1)), (0, .ref (G.2.2.1 157)), (1, .int (pI p1)), (2, .int (pI p2)), (3, .int (pI r1)), (4, .int (pI x8))]) X dX4_waysToShelter_30 (by decide) rfl <|
z_join o (fun (y18 : Unit) s19 => True → At E s19 57 [(0, .ref (G.2.2.1 157)), (1, .int (pI p1)), (2, .int (pI p2)), (3, .int (pI r1)), (4, .int (pI x8))] []) (fun y18 s19 o r20 =>
z_iinc (L1 := [(4, .int (pI (w32 (x8 + 1)))), (0, .ref (G.2.2.1 157)), (1, .int (pI p1)), (2, .int (pI p2)), (3, .int (pI r1))]) X 4 dX4_waysToShelter_57 rfl (by decide) rfl <|
z_goto (tgt := 23) X dX4_waysToShelter_60 (by decide) <|
z_sub (L1 := [(0, .ref (G.2.2.1 157)), (1, .int (pI p1)), (2, .int (pI p2)), (3, .int (pI r1)), (4, .int (pI (w32 (x8 + 1))))]) X [1, 2, 3, 4, 0] rfl <|
ok_some o (w32_rg _)) fun o =>
z_sub (L1 := [(0, .ref (G.2.2.1 157)), (1, .int (pI p1)), (2, .int (pI p2)), (3, .int (pI r1)), (4, .int (pI x8)), (5, .int (pI r1))]) X [1, 2, 3, 4, 5, 0] rfl <|
z_iter (fun (x11 : Int) s12 => rg x11 → At E s12 32 [(0, .ref (G.2.2.1 157)), (1, .int (pI p1)), (2, .int (pI p2)), (3, .int (pI r1)), (4, .int (pI x8)), (5, .int (pI x11))] []) o (fun x11 s12 o r13 =>
z_iload X 5 dX4_waysToShelter_32 rfl <|
z_if_lt (tgt := 57) X dX4_waysToShelter_34 (by decide) r13 o (fun o =>
z_sub (L1 := [(0, .ref (G.2.2.1 157)), (1, .int (pI p1)), (2, .int (pI p2)), (3, .int (pI r1)), (4, .int (pI x8))]) X [0, 1, 2, 3, 4] rfl <|
ok_some o trivial) fun o =>
z_aload_n X 0 dX4_waysToShelter_37 rfl <|
z_getR (q := 159) X dX4_waysToShelter_38 fl_X4_15 sx_157 rfl <|
z_iload X 5 dX4_waysToShelter_41 rfl <|
z_aload_n X 0 dX4_waysToShelter_43 rfl <|
z_iload X 5 dX4_waysToShelter_44 rfl <|
z_iload_n X 1 dX4_waysToShelter_46 rfl <|
z_callvI X dX4_waysToShelter_47 q_1315 wX4_shelterOneMore sx_157 rfl (by decide) [.int (pI x11), .int (pI p1)] [.int (pI x11), .ref (G.2.2.1 159)] rfl rfl (Nat.le_of_ble_eq_true rfl) (fun r σ1 e => ct_X4_shelterOneMore x11 p1 r13 hp1 G _ r σ1 e) o fun r14 s15 h16 o =>
z_iast X dX4_waysToShelter_50 sx_159 r13 h16 o fun s17 o =>
z_iinc (L1 := [(5, .int (pI (w32 (x11 + (-1))))), (0, .ref (G.2.2.1 157)), (1, .int (pI p1)), (2, .int (pI p2)), (3, .int (pI r1)), (4, .int (pI x8))]) X 5 dX4_waysToShelter_51 rfl (by decide) rfl <|
z_goto (tgt := 32) X dX4_waysToShelter_54 (by decide) <|
z_sub (L1 := [(0, .ref (G.2.2.1 157)), (1, .int (pI p1)), (2, .int (pI p2)), (3, .int (pI r1)), (4, .int (pI x8)), (5, .int (pI (w32 (x11 + (-1)))))]) X [1, 2, 3, 4, 5, 0] rfl <|
ok_some o (w32_rg _)) h3) kc_0 : At E s0 0 [(0, .ref (G.2.2.1 157)), (1, .int (pI p1)), (2, .int (pI p2))] [])
set_option maxHeartbeats 4000000 in
set_option maxRecDepth 100000 in
theorem ct_X4_fewestShelters (p1 : Int) (hp1 : rg p1) (G : Gw) (s0 : St) (r : Int) (σ1 : St) (e : fX4_fewestShelters p1 s0 = some (r, σ1)) : Ct yX4_fewestShelters cX4_fewestShelters 7 (some .int) 2 46 SX G [.ref (G.2.2.1 157), .int (pI p1)] s0 (QI SX G r rg σ1) :=
  Ct.of (by decide +kernel) (Nat.le_of_ble_eq_true rfl) fun E X Y => by
    have o : Ok (fX4_fewestShelters p1 s0) (fun x σ' => x = r ∧ σ' = σ1) := ⟨r, σ1, e, rfl, rfl⟩
    unfold fX4_fewestShelters at o
    exact (
z_aload_n X 0 dX4_fewestShelters_0 rfl <|
z_callvI X dX4_fewestShelters_1 q_1306 wX4_countFamilies sx_157 rfl (by decide) [] [] rfl rfl (Nat.le_of_ble_eq_true rfl) (fun r σ1 e => ct_X4_countFamilies G _ r σ1 e) o fun r1 s2 h3 o =>
z_istore_n (L1 := [(2, .int (pI r1)), (0, .ref (G.2.2.1 157)), (1, .int (pI p1))]) X dX4_fewestShelters_4 rfl (by decide) rfl <|
z_aload_n X 1 dX4_fewestShelters_5 rfl <|
z_getR (q := 159) X dX4_fewestShelters_6 fl_X4_15 sx_157 rfl <|
z_iconst X dX4_fewestShelters_9 <|
z_iconst X dX4_fewestShelters_10 <|
z_iast X dX4_fewestShelters_11 sx_159 kc_0 kc_0 o fun s4 o =>
z_iconst X dX4_fewestShelters_12 <|
z_istore_n (L1 := [(3, .int (pI 1)), (2, .int (pI r1)), (0, .ref (G.2.2.1 157)), (1, .int (pI p1))]) X dX4_fewestShelters_13 rfl (by decide) rfl <|
z_join o (fun (y32 : Unit) s33 => True → At E s33 107 [(0, .ref (G.2.2.1 157)), (2, .int (pI r1))] []) (fun y32 s33 o r34 =>
z_aload_n X 0 dX4_fewestShelters_107 rfl <|
z_getR (q := 159) X dX4_fewestShelters_108 fl_X4_15 sx_157 rfl <|
z_iload_n X 1 dX4_fewestShelters_111 rfl <|
z_iald X dX4_fewestShelters_112 sx_159 h3 o fun v35 r36 o =>
z_iret X Y dX4_fewestShelters_113 o r36) fun o =>
z_sub (L1 := [(0, .ref (G.2.2.1 157)), (1, .int (pI p1)), (2, .int (pI r1)), (3, .int (pI 1))]) X [2, 3, 1, 0] rfl <|
z_iter (fun (x5 : Int) s6 => rg x5 → At E s6 14 [(0, .ref (G.2.2.1 157)), (1, .int (pI p1)), (2, .int (pI r1)), (3, .int (pI x5))] []) o (fun x5 s6 o r7 =>
z_iload_n X 3 dX4_fewestShelters_14 rfl <|
z_iload_n X 2 dX4_fewestShelters_15 rfl <|
z_icmp_gt (tgt := 107) X dX4_fewestShelters_16 (by decide) r7 h3 o (fun o =>
z_sub (L1 := [(0, .ref (G.2.2.1 157)), (2, .int (pI r1))]) X [0, 2] rfl <|
ok_some o trivial) fun o =>
z_iconst X dX4_fewestShelters_19 <|
z_istore (L1 := [(4, .int (pI (-1))), (0, .ref (G.2.2.1 157)), (1, .int (pI p1)), (2, .int (pI r1)), (3, .int (pI x5))]) X dX4_fewestShelters_20 (by decide) rfl <|
z_iload_n X 4 dX4_fewestShelters_22 rfl <|
z_istore (L1 := [(5, .int (pI x5)), (4, .int (pI (-1))), (0, .ref (G.2.2.1 157)), (1, .int (pI p1)), (2, .int (pI r1)), (3, .int (pI x5))]) X dX4_fewestShelters_23 (by decide) rfl <|
z_join o (fun (y28 : Int) s29 => rg y28 → At E s29 93 [(0, .ref (G.2.2.1 157)), (1, .int (pI p1)), (2, .int (pI r1)), (3, .int (pI x5)), (4, .int (pI y28))] []) (fun y28 s29 o r30 =>
z_aload_n X 0 dX4_fewestShelters_93 rfl <|
z_getR (q := 159) X dX4_fewestShelters_94 fl_X4_15 sx_157 rfl <|
z_iload_n X 3 dX4_fewestShelters_97 rfl <|
z_iload X 4 dX4_fewestShelters_98 rfl <|
z_iast X dX4_fewestShelters_100 sx_159 r7 r30 o fun s31 o =>
z_iinc (L1 := [(3, .int (pI (w32 (x5 + 1)))), (0, .ref (G.2.2.1 157)), (1, .int (pI p1)), (2, .int (pI r1)), (4, .int (pI y28))]) X 3 dX4_fewestShelters_101 rfl (by decide) rfl <|
z_goto (tgt := 14) X dX4_fewestShelters_104 (by decide) <|
z_sub (L1 := [(0, .ref (G.2.2.1 157)), (1, .int (pI p1)), (2, .int (pI r1)), (3, .int (pI (w32 (x5 + 1))))]) X [1, 2, 3, 0] rfl <|
ok_some o (w32_rg _)) fun o =>
z_sub (L1 := [(0, .ref (G.2.2.1 157)), (1, .int (pI p1)), (2, .int (pI r1)), (3, .int (pI x5)), (4, .int (pI (-1))), (5, .int (pI x5))]) X [2, 3, 4, 5, 1, 0] rfl <|
z_iter (fun (x8 : Int × Int) s9 => rg x8.1 ∧ rg x8.2 → At E s9 25 [(0, .ref (G.2.2.1 157)), (1, .int (pI p1)), (2, .int (pI r1)), (3, .int (pI x5)), (4, .int (pI x8.1)), (5, .int (pI x8.2))] []) o (fun x8 s9 o r10 =>
z_iload X 5 dX4_fewestShelters_25 rfl <|
z_if_le (tgt := 93) X dX4_fewestShelters_27 (by decide) r10.2 o (fun o =>
z_sub (L1 := [(0, .ref (G.2.2.1 157)), (1, .int (pI p1)), (2, .int (pI r1)), (3, .int (pI x5)), (4, .int (pI x8.1))]) X [0, 1, 2, 3, 4] rfl <|
ok_some o r10.1) fun o =>
z_aload_n X 0 dX4_fewestShelters_30 rfl <|
z_getR (q := 159) X dX4_fewestShelters_31 fl_X4_15 sx_157 rfl <|
z_iload_n X 3 dX4_fewestShelters_34 rfl <|
z_iload X 5 dX4_fewestShelters_35 rfl <|
z_isub X dX4_fewestShelters_37 <|
z_iald X dX4_fewestShelters_38 sx_159 (w32_rg _) o fun v11 r12 o =>
z_istore (L1 := [(6, .int (pI v11)), (0, .ref (G.2.2.1 157)), (1, .int (pI p1)), (2, .int (pI r1)), (3, .int (pI x5)), (4, .int (pI x8.1)), (5, .int (pI x8.2))]) X dX4_fewestShelters_39 (by decide) rfl <|
z_aload_n X 1 dX4_fewestShelters_41 rfl <|
z_getR (q := 158) X dX4_fewestShelters_42 fl_X4_11 sx_157 rfl <|
z_iload X 6 dX4_fewestShelters_45 rfl <|
z_iald X dX4_fewestShelters_47 sx_158 r10.2 o fun v13 r14 o =>
z_iload_n X 2 dX4_fewestShelters_48 rfl <|
z_icmp_gt (tgt := 82) X dX4_fewestShelters_49 (by decide) r14 hp1 o (fun o =>
z_iload X 6 dX4_fewestShelters_82 rfl <|
z_iconst X dX4_fewestShelters_84 <|
z_isub X dX4_fewestShelters_85 <|
z_iload_n X 4 dX4_fewestShelters_86 rfl <|
z_iand X dX4_fewestShelters_87 <|
z_istoreL (L1 := fun v15 => [(5, .int (pI v15)), (6, .int (pI v11)), (0, .ref (G.2.2.1 157)), (1, .int (pI p1)), (2, .int (pI r1)), (3, .int (pI x5)), (4, .int (pI x8.1))]) (R := rg) X dX4_fewestShelters_88 (by decide) (fun _ => rfl) o (int_rg _) fun v15 r16 o =>
z_goto (tgt := 25) X dX4_fewestShelters_90 (by decide) <|
z_sub (L1 := [(0, .ref (G.2.2.1 157)), (1, .int (pI p1)), (2, .int (pI r1)), (3, .int (pI x5)), (4, .int (pI x8.1)), (5, .int (pI v15))]) X [2, 3, 4, 5, 6, 0] rfl <|
ok_some o ⟨r10.1, r16⟩) fun o =>
z_iload X 0 dX4_fewestShelters_52 rfl <|
z_iconst X dX4_fewestShelters_54 <|
z_icmp_ne (tgt := 61) X dX4_fewestShelters_55 (by decide) r12 kc_m1 o (fun o =>
z_iload X 5 dX4_fewestShelters_61 rfl <|
z_iconst X dX4_fewestShelters_63 <|
z_joix o (fun (y19 : Int) s20 => rg y19 → At E s20 76 [(0, .ref (G.2.2.1 157)), (1, .int (pI p1)), (2, .int (pI r1)), (3, .int (pI x5)), (5, .int (pI y19)), (6, .int (pI v11))] []) (fun y19 s20 o r21 =>
z_iload X 5 dX4_fewestShelters_76 rfl <|
z_iconst X dX4_fewestShelters_78 <|
z_iadd X dX4_fewestShelters_79 <|
z_istoreL (L1 := fun v22 => [(4, .int (pI v22)), (0, .ref (G.2.2.1 157)), (1, .int (pI p1)), (2, .int (pI r1)), (3, .int (pI x5)), (5, .int (pI y19)), (6, .int (pI v11))]) (R := rg) X dX4_fewestShelters_80 (by decide) (fun _ => rfl) o (w32_rg _) fun v22 r23 o =>
z_iload X 5 dX4_fewestShelters_82 rfl <|
z_iconst X dX4_fewestShelters_84 <|
z_isub X dX4_fewestShelters_85 <|
z_iload_n X 4 dX4_fewestShelters_86 rfl <|
z_iand X dX4_fewestShelters_87 <|
z_istoreL (L1 := fun v24 => [(5, .int (pI v24)), (4, .int (pI v22)), (0, .ref (G.2.2.1 157)), (1, .int (pI p1)), (2, .int (pI r1)), (3, .int (pI x5)), (6, .int (pI v11))]) (R := rg) X dX4_fewestShelters_88 (by decide) (fun _ => rfl) o (int_rg _) fun v24 r25 o =>
z_goto (tgt := 25) X dX4_fewestShelters_90 (by decide) <|
z_sub (L1 := [(0, .ref (G.2.2.1 157)), (1, .int (pI p1)), (2, .int (pI r1)), (3, .int (pI x5)), (4, .int (pI v22)), (5, .int (pI v24))]) X [2, 3, 4, 5, 1, 0] rfl <|
ok_some o ⟨r23, r25⟩) fun o =>
z_icmp_eq (tgt := 76) X dX4_fewestShelters_64 (by decide) r10.1 kc_m1 o (fun o =>
z_sub (L1 := [(0, .ref (G.2.2.1 157)), (1, .int (pI p1)), (2, .int (pI r1)), (3, .int (pI x5)), (5, .int (pI x8.2)), (6, .int (pI v11))]) X [1, 2, 3, 4, 6, 0] rfl <|
ok_some o r10.2) fun o =>
z_iload X 0 dX4_fewestShelters_67 rfl <|
z_iconst X dX4_fewestShelters_69 <|
z_iadd X dX4_fewestShelters_70 <|
z_iload X 5 dX4_fewestShelters_71 rfl <|
z_icmp_ge (tgt := 82) X dX4_fewestShelters_73 (by decide) (w32_rg _) r10.1 o (fun o =>
z_iload X 6 dX4_fewestShelters_82 rfl <|
z_iconst X dX4_fewestShelters_84 <|
z_isub X dX4_fewestShelters_85 <|
z_iload_n X 4 dX4_fewestShelters_86 rfl <|
z_iand X dX4_fewestShelters_87 <|
z_istoreL (L1 := fun v17 => [(5, .int (pI v17)), (6, .int (pI v11)), (0, .ref (G.2.2.1 157)), (1, .int (pI p1)), (2, .int (pI r1)), (3, .int (pI x5)), (4, .int (pI x8.1))]) (R := rg) X dX4_fewestShelters_88 (by decide) (fun _ => rfl) o (int_rg _) fun v17 r18 o =>
z_goto (tgt := 25) X dX4_fewestShelters_90 (by decide) <|
z_sub (L1 := [(0, .ref (G.2.2.1 157)), (1, .int (pI p1)), (2, .int (pI r1)), (3, .int (pI x5)), (4, .int (pI x8.1)), (5, .int (pI v17))]) X [2, 3, 4, 5, 6, 0] rfl <|
ok_some o ⟨r10.1, r18⟩) fun o =>
z_sub (L1 := [(0, .ref (G.2.2.1 157)), (1, .int (pI p1)), (2, .int (pI r1)), (3, .int (pI x5)), (5, .int (pI x8.2)), (6, .int (pI v11))]) X [1, 2, 3, 4, 6, 0] rfl <|
ok_some o r10.2) fun o =>
z_goto (tgt := 82) X dX4_fewestShelters_58 (by decide) <|
z_iload X 6 dX4_fewestShelters_82 rfl <|
z_iconst X dX4_fewestShelters_84 <|
z_isub X dX4_fewestShelters_85 <|
z_iload_n X 4 dX4_fewestShelters_86 rfl <|
z_iand X dX4_fewestShelters_87 <|
z_istoreL (L1 := fun v26 => [(5, .int (pI v26)), (6, .int (pI v11)), (0, .ref (G.2.2.1 157)), (1, .int (pI p1)), (2, .int (pI r1)), (3, .int (pI x5)), (4, .int (pI x8.1))]) (R := rg) X dX4_fewestShelters_88 (by decide) (fun _ => rfl) o (int_rg _) fun v26 r27 o =>
z_goto (tgt := 25) X dX4_fewestShelters_90 (by decide) <|
z_sub (L1 := [(0, .ref (G.2.2.1 157)), (1, .int (pI p1)), (2, .int (pI r1)), (3, .int (pI x5)), (4, .int (pI x8.1)), (5, .int (pI v26))]) X [2, 3, 4, 5, 6, 0] rfl <|
ok_some o ⟨r10.1, r27⟩) ⟨kc_m1, r7⟩) kc_1 : At E s0 0 [(0, .ref (G.2.2.1 157)), (1, .int (pI p1))] [])
set_option maxHeartbeats 4000000 in
set_option maxRecDepth 100000 in
theorem ct_X11_storm (p1 : Int) (p2 : Int) (hp1 : rg p1) (hp2 : rg p2) (G : Gw) (s0 : St) (r : Int) (σ1 : St) (e : fX11_storm p1 p2 s0 = some (r, σ1)) : Ct yX11_storm cX11_storm 3 (some .int) 3 72 SX G [.ref (G.2.2.1 0), .int (pI p1), .int (pI p2)] s0 (QI SX G r rg σ1) :=
  Ct.of (by decide +kernel) (Nat.le_of_ble_eq_true rfl) fun E X Y => by
    have o : Ok (fX11_storm p1 p2 s0) (fun x σ' => x = r ∧ σ' = σ1) := ⟨r, σ1, e, rfl, rfl⟩
    unfold fX11_storm at o
    exact (
z_iload_n X 1 dX11_storm_0 rfl <|
z_iconst X dX11_storm_1 <|
z_bipush X dX11_storm_2 bi_30 <|
z_callsI X dX11_storm_4 q_681 wX11_within  (by decide) [.int (pI p1), .int (pI 1), .int (pI 30)] [] rfl rfl (Nat.le_of_ble_eq_true rfl) (fun r σ1 e => ct_X11_within p1 1 30 hp1 kc_1 kc_30 G _ r σ1 e) o fun r1 s2 h3 o =>
z_if_ne (tgt := 12) X dX11_storm_7 (by decide) (r01_rg h3) o (fun o =>
z_iload_n X 2 dX11_storm_12 rfl <|
z_iconst X dX11_storm_13 <|
z_icmp_ne (tgt := 26) X dX11_storm_14 (by decide) hp2 kc_m1 o (fun o =>
z_iload_n X 2 dX11_storm_26 rfl <|
z_iconst X dX11_storm_27 <|
z_iconst X dX11_storm_28 <|
z_callsI X dX11_storm_29 q_681 wX11_within  (by decide) [.int (pI p2), .int (pI 1), .int (pI 4)] [] rfl rfl (Nat.le_of_ble_eq_true rfl) (fun r σ1 e => ct_X11_within p2 1 4 hp2 kc_1 kc_4 G _ r σ1 e) o fun r4 s5 h6 o =>
z_if_eq (tgt := 47) X dX11_storm_32 (by decide) (r01_rg h6) o (fun o =>
z_iconst X dX11_storm_47 <|
z_iret X Y dX11_storm_48 o kc_m1) fun o =>
z_aload_n X 0 dX11_storm_35 rfl <|
z_getR (q := 157) X dX11_storm_36 fl_X11_90 sx_0 rfl <|
z_iload_n X 1 dX11_storm_39 rfl <|
z_iload_n X 2 dX11_storm_40 rfl <|
z_callvI X dX11_storm_41 q_1311 wX4_waysToShelter sx_157 rfl (by decide) [.int (pI p1), .int (pI p2)] [] rfl rfl (Nat.le_of_ble_eq_true rfl) (fun r σ1 e => ct_X4_waysToShelter p1 p2 hp1 hp2 G _ r σ1 e) o fun r7 s8 h9 o =>
z_goto (tgt := 48) X dX11_storm_44 (by decide) <|
z_iret X Y dX11_storm_48 o h9) fun o =>
z_aload_n X 0 dX11_storm_17 rfl <|
z_getR (q := 157) X dX11_storm_18 fl_X11_90 sx_0 rfl <|
z_iload_n X 1 dX11_storm_21 rfl <|
z_callvI X dX11_storm_22 q_1302 wX4_fewestShelters sx_157 rfl (by decide) [.int (pI p1)] [] rfl rfl (Nat.le_of_ble_eq_true rfl) (fun r σ1 e => ct_X4_fewestShelters p1 hp1 G _ r σ1 e) o fun r10 s11 h12 o =>
z_iret X Y dX11_storm_25 o h12) fun o =>
z_iconst X dX11_storm_10 <|
z_iret X Y dX11_storm_11 o kc_m1 : At E s0 0 [(0, .ref (G.2.2.1 0)), (1, .int (pI p1)), (2, .int (pI p2))] [])
set_option maxHeartbeats 4000000 in
set_option maxRecDepth 100000 in
theorem ct_X11_swing (p1 : Int) (hp1 : rg p1) (G : Gw) (s0 : St) (r : Int) (σ1 : St) (e : fX11_swing p1 s0 = some (r, σ1)) : Ct yX11_swing cX11_swing 2 (some .int) 1 22 SX G [.ref (G.2.2.1 0), .int (pI p1)] s0 (QI SX G r rg σ1) :=
  Ct.of (by decide +kernel) (Nat.le_of_ble_eq_true rfl) fun E X Y => by
    have o : Ok (fX11_swing p1 s0) (fun x σ' => x = r ∧ σ' = σ1) := ⟨r, σ1, e, rfl, rfl⟩
    unfold fX11_swing at o
    exact (
z_iload_n X 1 dX11_swing_0 rfl <|
z_iconst X dX11_swing_1 <|
z_icmp_ne (tgt := 16) X dX11_swing_2 (by decide) hp1 kc_m1 o (fun o =>
z_iload_n X 1 dX11_swing_16 rfl <|
z_iconst X dX11_swing_17 <|
z_bipush X dX11_swing_18 bi_60 <|
z_callsI X dX11_swing_20 q_681 wX11_within  (by decide) [.int (pI p1), .int (pI 1), .int (pI 60)] [] rfl rfl (Nat.le_of_ble_eq_true rfl) (fun r σ1 e => ct_X11_within p1 1 60 hp1 kc_1 kc_60 G _ r σ1 e) o fun r1 s2 h3 o =>
z_if_eq (tgt := 40) X dX11_swing_23 (by decide) (r01_rg h3) o (fun o =>
z_iconst X dX11_swing_40 <|
z_iret X Y dX11_swing_41 o kc_m1) fun o =>
z_aload_n X 0 dX11_swing_26 rfl <|
z_getR (q := 17) X dX11_swing_27 fl_X11_26 sx_0 rfl <|
z_getRN (q := 46) X dX11_swing_30 fn_X11_349 sx_17 rfl <|
z_iload_n X 1 dX11_swing_33 rfl <|
z_callvI X dX11_swing_34 q_1297 wX6_add sx_46 rfl (by decide) [.int (pI p1)] [] rfl rfl (Nat.le_of_ble_eq_true rfl) (fun r σ1 e => ct_X6_add SX 46 47 8 p1 ⟨sx_46, sx_47, (by decide)⟩ hp1 G _ r σ1 e) o fun r4 s5 h6 o =>
z_goto (tgt := 41) X dX11_swing_37 (by decide) <|
z_iret X Y dX11_swing_41 o h6) fun o =>
z_aload_n X 0 dX11_swing_5 rfl <|
z_getR (q := 17) X dX11_swing_6 fl_X11_26 sx_0 rfl <|
z_getRN (q := 46) X dX11_swing_9 fn_X11_349 sx_17 rfl <|
z_callvI X dX11_swing_12 q_1255 wX6_clear sx_46 rfl (by decide) [] [] rfl rfl (Nat.le_of_ble_eq_true rfl) (fun r σ1 e => ct_X6_clear SX 46 47 8 ⟨sx_46, sx_47, (by decide)⟩ G _ r σ1 e) o fun r7 s8 h9 o =>
z_iret X Y dX11_swing_15 o h9 : At E s0 0 [(0, .ref (G.2.2.1 0)), (1, .int (pI p1))] [])
set_option maxHeartbeats 4000000 in
set_option maxRecDepth 100000 in
theorem ct_J6_bitCount_0f7a4 (S : List Kd) (p1 : Int) (hp1 : rg p1) (G : Gw) (s0 : St) (r : Int) (σ1 : St) (e : fJ6_bitCount_0f7a4 p1 s0 = some (r, σ1)) : Ct yJ6_bitCount_0f7a4 cJ6_bitCount_0f7a4 1 (some .int) 0 0 S G [.int (pI p1)] s0 (QI S G r rg σ1) :=
  Ct.of (by decide +kernel) (Nat.le_of_ble_eq_true rfl) fun E X Y => by
    have o : Ok (fJ6_bitCount_0f7a4 p1 s0) (fun x σ' => x = r ∧ σ' = σ1) := ⟨r, σ1, e, rfl, rfl⟩
    unfold fJ6_bitCount_0f7a4 at o
    exact (
z_iload_n X 0 dJ6_bitCount_0f7a4_0 rfl <|
z_iload_n X 0 dJ6_bitCount_0f7a4_1 rfl <|
z_iconst X dJ6_bitCount_0f7a4_2 <|
z_iushr X dJ6_bitCount_0f7a4_3 <|
z_ldcw X dJ6_bitCount_0f7a4_4 q_1391 ki_1431655765 <|
z_iand X dJ6_bitCount_0f7a4_7 <|
z_isub X dJ6_bitCount_0f7a4_8 <|
z_istoreL_n (L1 := fun v1 => [(0, .int (pI v1))]) (R := rg) X dJ6_bitCount_0f7a4_9 rfl (by decide) (fun _ => rfl) o (w32_rg _) fun v1 r2 o =>
z_iload_n X 0 dJ6_bitCount_0f7a4_10 rfl <|
z_ldcw X dJ6_bitCount_0f7a4_11 q_1392 ki_858993459 <|
z_iand X dJ6_bitCount_0f7a4_14 <|
z_iload_n X 0 dJ6_bitCount_0f7a4_15 rfl <|
z_iconst X dJ6_bitCount_0f7a4_16 <|
z_iushr X dJ6_bitCount_0f7a4_17 <|
z_ldcw X dJ6_bitCount_0f7a4_18 q_1392 ki_858993459 <|
z_iand X dJ6_bitCount_0f7a4_21 <|
z_iadd X dJ6_bitCount_0f7a4_22 <|
z_istoreL_n (L1 := fun v3 => [(0, .int (pI v3))]) (R := rg) X dJ6_bitCount_0f7a4_23 rfl (by decide) (fun _ => rfl) o (w32_rg _) fun v3 r4 o =>
z_iload_n X 0 dJ6_bitCount_0f7a4_24 rfl <|
z_iload_n X 0 dJ6_bitCount_0f7a4_25 rfl <|
z_iconst X dJ6_bitCount_0f7a4_26 <|
z_iushr X dJ6_bitCount_0f7a4_27 <|
z_iadd X dJ6_bitCount_0f7a4_28 <|
z_ldcw X dJ6_bitCount_0f7a4_29 q_1393 ki_252645135 <|
z_iand X dJ6_bitCount_0f7a4_32 <|
z_istoreL_n (L1 := fun v5 => [(0, .int (pI v5))]) (R := rg) X dJ6_bitCount_0f7a4_33 rfl (by decide) (fun _ => rfl) o (int_rg _) fun v5 r6 o =>
z_iload_n X 0 dJ6_bitCount_0f7a4_34 rfl <|
z_iload_n X 0 dJ6_bitCount_0f7a4_35 rfl <|
z_bipush X dJ6_bitCount_0f7a4_36 bi_8 <|
z_iushr X dJ6_bitCount_0f7a4_38 <|
z_iadd X dJ6_bitCount_0f7a4_39 <|
z_istoreL_n (L1 := fun v7 => [(0, .int (pI v7))]) (R := rg) X dJ6_bitCount_0f7a4_40 rfl (by decide) (fun _ => rfl) o (w32_rg _) fun v7 r8 o =>
z_iload_n X 0 dJ6_bitCount_0f7a4_41 rfl <|
z_iload_n X 0 dJ6_bitCount_0f7a4_42 rfl <|
z_bipush X dJ6_bitCount_0f7a4_43 bi_16 <|
z_iushr X dJ6_bitCount_0f7a4_45 <|
z_iadd X dJ6_bitCount_0f7a4_46 <|
z_istoreL_n (L1 := fun v9 => [(0, .int (pI v9))]) (R := rg) X dJ6_bitCount_0f7a4_47 rfl (by decide) (fun _ => rfl) o (w32_rg _) fun v9 r10 o =>
z_iload_n X 0 dJ6_bitCount_0f7a4_48 rfl <|
z_bipush X dJ6_bitCount_0f7a4_49 bi_63 <|
z_iand X dJ6_bitCount_0f7a4_51 <|
z_iret X Y dJ6_bitCount_0f7a4_52 o (int_rg _) : At E s0 0 [(0, .int (pI p1))] [])
set_option maxHeartbeats 4000000 in
set_option maxRecDepth 100000 in
theorem ct_X4_heavierBy (p1 : Int) (hp1 : rg p1) (G : Gw) (s0 : St) (r : Int) (σ1 : St) (e : fX4_heavierBy p1 s0 = some (r, σ1)) : Ct yX4_heavierBy cX4_heavierBy 5 (some .int) 1 22 SX G [.ref (G.2.2.1 157), .int (pI p1)] s0 (QI SX G r rg σ1) :=
  Ct.of (by decide +kernel) (Nat.le_of_ble_eq_true rfl) fun E X Y => by
    have o : Ok (fX4_heavierBy p1 s0) (fun x σ' => x = r ∧ σ' = σ1) := ⟨r, σ1, e, rfl, rfl⟩
    unfold fX4_heavierBy at o
    exact (
z_iconst X dX4_heavierBy_0 <|
z_istore_n (L1 := [(2, .int (pI 0)), (0, .ref (G.2.2.1 157)), (1, .int (pI p1))]) X dX4_heavierBy_1 rfl (by decide) rfl <|
z_iconst X dX4_heavierBy_2 <|
z_istore_n (L1 := [(3, .int (pI 0)), (2, .int (pI 0)), (0, .ref (G.2.2.1 157)), (1, .int (pI p1))]) X dX4_heavierBy_3 rfl (by decide) rfl <|
z_join o (fun (y14 : Int) s15 => rg y14 → At E s15 58 [(2, .int (pI y14))] []) (fun y14 s15 o r16 =>
z_iload_n X 0 dX4_heavierBy_58 rfl <|
z_mabs X dX4_heavierBy_59 q_1332 q_1333 q_174 q_1334 (by decide) (Nat.le_of_ble_eq_true rfl) r16 <|
z_iret X Y dX4_heavierBy_62 o (iab_rg r16)) fun o =>
z_sub (L1 := [(0, .ref (G.2.2.1 157)), (1, .int (pI p1)), (2, .int (pI 0)), (3, .int (pI 0))]) X [2, 3, 1, 0] rfl <|
z_iter (fun (x1 : Int × Int) s2 => rg x1.1 ∧ rg x1.2 → At E s2 4 [(0, .ref (G.2.2.1 157)), (1, .int (pI p1)), (2, .int (pI x1.1)), (3, .int (pI x1.2))] []) o (fun x1 s2 o r3 =>
z_iload_n X 3 dX4_heavierBy_4 rfl <|
z_aload_n X 0 dX4_heavierBy_5 rfl <|
z_getR (q := 17) X dX4_heavierBy_6 fl_X4_56 sx_157 rfl <|
z_getRN (q := 46) X dX4_heavierBy_9 fn_X4_136 sx_17 rfl <|
z_callvI X dX4_heavierBy_12 q_1265 wX6_size sx_46 rfl (by decide) [] [.int (pI x1.2)] rfl rfl (Nat.le_of_ble_eq_true rfl) (fun r σ1 e => ct_X6_size SX 46 47 8 ⟨sx_46, sx_47, (by decide)⟩ G _ r σ1 e) o fun r4 s5 h6 o =>
z_icmp_ge (tgt := 58) X dX4_heavierBy_15 (by decide) r3.2 h6 o (fun o =>
z_sub (L1 := [(2, .int (pI x1.1))]) X [2] rfl <|
ok_some o r3.1) fun o =>
z_aload_n X 0 dX4_heavierBy_18 rfl <|
z_getR (q := 17) X dX4_heavierBy_19 fl_X4_56 sx_157 rfl <|
z_getRN (q := 46) X dX4_heavierBy_22 fn_X4_136 sx_17 rfl <|
z_iload_n X 3 dX4_heavierBy_25 rfl <|
z_iconst X dX4_heavierBy_26 <|
z_callvI X dX4_heavierBy_27 q_1266 wX6_get sx_46 rfl (by decide) [.int (pI x1.2), .int (pI 0)] [] rfl rfl (Nat.le_of_ble_eq_true rfl) (fun r σ1 e => ct_X6_get SX 46 47 8 x1.2 0 ⟨sx_46, sx_47, (by decide)⟩ r3.2 kc_0 G _ r σ1 e) o fun r7 s8 h9 o =>
z_istore (L1 := [(4, .int (pI r7)), (0, .ref (G.2.2.1 157)), (1, .int (pI p1)), (2, .int (pI x1.1)), (3, .int (pI x1.2))]) X dX4_heavierBy_30 (by decide) rfl <|
z_iload_n X 3 dX4_heavierBy_32 rfl <|
z_iload_n X 2 dX4_heavierBy_33 rfl <|
z_iload_n X 4 dX4_heavierBy_34 rfl <|
z_ishr X dX4_heavierBy_35 <|
z_iconst X dX4_heavierBy_36 <|
z_iand X dX4_heavierBy_37 <|
z_iconst X dX4_heavierBy_38 <|
z_icmp_ne (tgt := 47) X dX4_heavierBy_39 (by decide) (int_rg _) kc_1 o (fun o =>
z_iload X 0 dX4_heavierBy_47 rfl <|
z_ineg X dX4_heavierBy_49 <|
z_iadd X dX4_heavierBy_50 <|
z_istoreL_n (L1 := fun v10 => [(2, .int (pI v10)), (4, .int (pI r7)), (0, .ref (G.2.2.1 157)), (1, .int (pI p1)), (3, .int (pI x1.2))]) (R := rg) X dX4_heavierBy_51 rfl (by decide) (fun _ => rfl) o (w32_rg _) fun v10 r11 o =>
z_iinc (L1 := [(3, .int (pI (w32 (x1.2 + 1)))), (2, .int (pI v10)), (4, .int (pI r7)), (0, .ref (G.2.2.1 157)), (1, .int (pI p1))]) X 4 dX4_heavierBy_52 rfl (by decide) rfl <|
z_goto (tgt := 4) X dX4_heavierBy_55 (by decide) <|
z_sub (L1 := [(0, .ref (G.2.2.1 157)), (1, .int (pI p1)), (2, .int (pI v10)), (3, .int (pI (w32 (x1.2 + 1))))]) X [3, 4, 1, 0] rfl <|
ok_some o ⟨r11, (w32_rg _)⟩) fun o =>
z_iload X 0 dX4_heavierBy_42 rfl <|
z_goto (tgt := 50) X dX4_heavierBy_44 (by decide) <|
z_iadd X dX4_heavierBy_50 <|
z_istoreL_n (L1 := fun v12 => [(2, .int (pI v12)), (4, .int (pI r7)), (0, .ref (G.2.2.1 157)), (1, .int (pI p1)), (3, .int (pI x1.2))]) (R := rg) X dX4_heavierBy_51 rfl (by decide) (fun _ => rfl) o (w32_rg _) fun v12 r13 o =>
z_iinc (L1 := [(3, .int (pI (w32 (x1.2 + 1)))), (2, .int (pI v12)), (4, .int (pI r7)), (0, .ref (G.2.2.1 157)), (1, .int (pI p1))]) X 4 dX4_heavierBy_52 rfl (by decide) rfl <|
z_goto (tgt := 4) X dX4_heavierBy_55 (by decide) <|
z_sub (L1 := [(0, .ref (G.2.2.1 157)), (1, .int (pI p1)), (2, .int (pI v12)), (3, .int (pI (w32 (x1.2 + 1))))]) X [3, 4, 1, 0] rfl <|
ok_some o ⟨r13, (w32_rg _)⟩) ⟨kc_0, kc_0⟩ : At E s0 0 [(0, .ref (G.2.2.1 157)), (1, .int (pI p1))] [])
set_option maxHeartbeats 4000000 in
set_option maxRecDepth 100000 in
theorem ct_X4_fairestSeat   (G : Gw) (s0 : St) (r : Int) (σ1 : St) (e : fX4_fairestSeat s0 = some (r, σ1)) : Ct yX4_fairestSeat cX4_fairestSeat 4 (some .int) 2 46 SX G [.ref (G.2.2.1 157)] s0 (QI SX G r rg σ1) :=
  Ct.of (by decide +kernel) (Nat.le_of_ble_eq_true rfl) fun E X Y => by
    have o : Ok (fX4_fairestSeat s0) (fun x σ' => x = r ∧ σ' = σ1) := ⟨r, σ1, e, rfl, rfl⟩
    unfold fX4_fairestSeat at o
    exact (
z_aload_n X 0 dX4_fairestSeat_0 rfl <|
z_getR (q := 17) X dX4_fairestSeat_1 fl_X4_56 sx_157 rfl <|
z_getRN (q := 46) X dX4_fairestSeat_4 fn_X4_136 sx_17 rfl <|
z_callvI X dX4_fairestSeat_7 q_1265 wX6_size sx_46 rfl (by decide) [] [] rfl rfl (Nat.le_of_ble_eq_true rfl) (fun r σ1 e => ct_X6_size SX 46 47 8 ⟨sx_46, sx_47, (by decide)⟩ G _ r σ1 e) o fun r1 s2 h3 o =>
z_istore_n (L1 := [(1, .int (pI r1)), (0, .ref (G.2.2.1 157))]) X dX4_fairestSeat_10 rfl (by decide) rfl <|
z_iconst X dX4_fairestSeat_11 <|
z_istore_n (L1 := [(2, .int (pI 0)), (1, .int (pI r1)), (0, .ref (G.2.2.1 157))]) X dX4_fairestSeat_12 rfl (by decide) rfl <|
z_iconst X dX4_fairestSeat_13 <|
z_istore_n (L1 := [(3, .int (pI 1)), (2, .int (pI 0)), (1, .int (pI r1)), (0, .ref (G.2.2.1 157))]) X dX4_fairestSeat_14 rfl (by decide) rfl <|
z_join o (fun (y16 : Int) s17 => rg y16 → At E s17 60 [(2, .int (pI y16))] []) (fun y16 s17 o r18 =>
z_iload_n X 0 dX4_fairestSeat_60 rfl <|
z_iret X Y dX4_fairestSeat_61 o r18) fun o =>
z_sub (L1 := [(0, .ref (G.2.2.1 157)), (1, .int (pI r1)), (2, .int (pI 0)), (3, .int (pI 1))]) X [3, 2, 1, 0] rfl <|
z_iter (fun (x4 : Int × Int) s5 => rg x4.1 ∧ rg x4.2 → At E s5 15 [(0, .ref (G.2.2.1 157)), (1, .int (pI r1)), (2, .int (pI x4.1)), (3, .int (pI x4.2))] []) o (fun x4 s5 o r6 =>
z_iload_n X 3 dX4_fairestSeat_15 rfl <|
z_iconst X dX4_fairestSeat_16 <|
z_iload_n X 1 dX4_fairestSeat_17 rfl <|
z_ishl X dX4_fairestSeat_18 <|
z_icmp_ge (tgt := 60) X dX4_fairestSeat_19 (by decide) r6.2 (int_rg _) o (fun o =>
z_sub (L1 := [(2, .int (pI x4.1))]) X [2] rfl <|
ok_some o r6.1) fun o =>
z_iconst X dX4_fairestSeat_22 <|
z_iload_n X 3 dX4_fairestSeat_23 rfl <|
z_callsI X dX4_fairestSeat_24 q_1388 wJ6_bitCount_0f7a4  (by decide) [.int (pI x4.2)] [.int (pI 2)] rfl rfl (Nat.le_of_ble_eq_true rfl) (fun r σ1 e => ct_J6_bitCount_0f7a4 SX x4.2 r6.2 G _ r σ1 e) o fun r7 s8 h9 o =>
z_imul X dX4_fairestSeat_27 <|
z_iload_n X 1 dX4_fairestSeat_28 rfl <|
z_icmp_eq (tgt := 35) X dX4_fairestSeat_29 (by decide) (w32_rg _) h3 o (fun o =>
z_iload_n X 2 dX4_fairestSeat_35 rfl <|
z_if_eq (tgt := 52) X dX4_fairestSeat_36 (by decide) r6.1 o (fun o =>
z_iload_n X 3 dX4_fairestSeat_52 rfl <|
z_istore_n (L1 := [(2, .int (pI x4.2)), (0, .ref (G.2.2.1 157)), (1, .int (pI r1)), (3, .int (pI x4.2))]) X dX4_fairestSeat_53 rfl (by decide) rfl <|
z_iinc (L1 := [(3, .int (pI (w32 (x4.2 + 2)))), (2, .int (pI x4.2)), (0, .ref (G.2.2.1 157)), (1, .int (pI r1))]) X 3 dX4_fairestSeat_54 rfl (by decide) rfl <|
z_goto (tgt := 15) X dX4_fairestSeat_57 (by decide) <|
z_sub (L1 := [(0, .ref (G.2.2.1 157)), (1, .int (pI r1)), (2, .int (pI x4.2)), (3, .int (pI (w32 (x4.2 + 2))))]) X [2, 3, 1, 0] rfl <|
ok_some o ⟨r6.2, (w32_rg _)⟩) fun o =>
z_aload_n X 0 dX4_fairestSeat_39 rfl <|
z_iload_n X 3 dX4_fairestSeat_40 rfl <|
z_callvI X dX4_fairestSeat_41 q_1394 wX4_heavierBy sx_157 rfl (by decide) [.int (pI x4.2)] [] rfl rfl (Nat.le_of_ble_eq_true rfl) (fun r σ1 e => ct_X4_heavierBy x4.2 r6.2 G _ r σ1 e) o fun r10 s11 h12 o =>
z_aload_n X 0 dX4_fairestSeat_44 rfl <|
z_iload_n X 2 dX4_fairestSeat_45 rfl <|
z_callvI X dX4_fairestSeat_46 q_1394 wX4_heavierBy sx_157 rfl (by decide) [.int (pI x4.1)] [.int (pI r10)] rfl rfl (Nat.le_of_ble_eq_true rfl) (fun r σ1 e => ct_X4_heavierBy x4.1 r6.1 G _ r σ1 e) o fun r13 s14 h15 o =>
z_icmp_ge (tgt := 54) X dX4_fairestSeat_49 (by decide) h12 h15 o (fun o =>
z_iinc (L1 := [(3, .int (pI (w32 (x4.2 + 2)))), (0, .ref (G.2.2.1 157)), (1, .int (pI r1)), (2, .int (pI x4.1))]) X 3 dX4_fairestSeat_54 rfl (by decide) rfl <|
z_goto (tgt := 15) X dX4_fairestSeat_57 (by decide) <|
z_sub (L1 := [(0, .ref (G.2.2.1 157)), (1, .int (pI r1)), (2, .int (pI x4.1)), (3, .int (pI (w32 (x4.2 + 2))))]) X [1, 2, 3, 0] rfl <|
ok_some o ⟨r6.1, (w32_rg _)⟩) fun o =>
z_iload_n X 3 dX4_fairestSeat_52 rfl <|
z_istore_n (L1 := [(2, .int (pI x4.2)), (0, .ref (G.2.2.1 157)), (1, .int (pI r1)), (3, .int (pI x4.2))]) X dX4_fairestSeat_53 rfl (by decide) rfl <|
z_iinc (L1 := [(3, .int (pI (w32 (x4.2 + 2)))), (2, .int (pI x4.2)), (0, .ref (G.2.2.1 157)), (1, .int (pI r1))]) X 3 dX4_fairestSeat_54 rfl (by decide) rfl <|
z_goto (tgt := 15) X dX4_fairestSeat_57 (by decide) <|
z_sub (L1 := [(0, .ref (G.2.2.1 157)), (1, .int (pI r1)), (2, .int (pI x4.2)), (3, .int (pI (w32 (x4.2 + 2))))]) X [2, 3, 1, 0] rfl <|
ok_some o ⟨r6.2, (w32_rg _)⟩) fun o =>
z_goto (tgt := 54) X dX4_fairestSeat_32 (by decide) <|
z_iinc (L1 := [(3, .int (pI (w32 (x4.2 + 2)))), (0, .ref (G.2.2.1 157)), (1, .int (pI r1)), (2, .int (pI x4.1))]) X 3 dX4_fairestSeat_54 rfl (by decide) rfl <|
z_goto (tgt := 15) X dX4_fairestSeat_57 (by decide) <|
z_sub (L1 := [(0, .ref (G.2.2.1 157)), (1, .int (pI r1)), (2, .int (pI x4.1)), (3, .int (pI (w32 (x4.2 + 2))))]) X [1, 2, 3, 0] rfl <|
ok_some o ⟨r6.1, (w32_rg _)⟩) ⟨kc_0, kc_1⟩ : At E s0 0 [(0, .ref (G.2.2.1 157))] [])
set_option maxHeartbeats 4000000 in
set_option maxRecDepth 100000 in
theorem ct_X11_swings (p1 : Int) (hp1 : rg p1) (G : Gw) (s0 : St) (r : Int) (σ1 : St) (e : fX11_swings p1 s0 = some (r, σ1)) : Ct yX11_swings cX11_swings 3 (some .int) 3 69 SX G [.ref (G.2.2.1 0), .int (pI p1)] s0 (QI SX G r rg σ1) :=
  Ct.of (by decide +kernel) (Nat.le_of_ble_eq_true rfl) fun E X Y => by
    have o : Ok (fX11_swings p1 s0) (fun x σ' => x = r ∧ σ' = σ1) := ⟨r, σ1, e, rfl, rfl⟩
    unfold fX11_swings at o
    exact (
z_iload_n X 1 dX11_swings_0 rfl <|
z_iconst X dX11_swings_1 <|
z_iconst X dX11_swings_2 <|
z_callsI X dX11_swings_3 q_681 wX11_within  (by decide) [.int (pI p1), .int (pI 0), .int (pI 1)] [] rfl rfl (Nat.le_of_ble_eq_true rfl) (fun r σ1 e => ct_X11_within p1 0 1 hp1 kc_0 kc_1 G _ r σ1 e) o fun r1 s2 h3 o =>
z_if_eq (tgt := 24) X dX11_swings_6 (by decide) (r01_rg h3) o (fun o =>
z_iconst X dX11_swings_24 <|
z_iret X Y dX11_swings_25 o kc_m1) fun o =>
z_aload_n X 0 dX11_swings_9 rfl <|
z_getR (q := 17) X dX11_swings_10 fl_X11_26 sx_0 rfl <|
z_getRN (q := 46) X dX11_swings_13 fn_X11_349 sx_17 rfl <|
z_callvI X dX11_swings_16 q_729 wX6_size sx_46 rfl (by decide) [] [] rfl rfl (Nat.le_of_ble_eq_true rfl) (fun r σ1 e => ct_X6_size SX 46 47 8 ⟨sx_46, sx_47, (by decide)⟩ G _ r σ1 e) o fun r4 s5 h6 o =>
z_iconst X dX11_swings_19 <|
z_irem X dX11_swings_20 h6 kc_2 o fun z7 o =>
z_if_eq (tgt := 26) X dX11_swings_21 (by decide) (irm_rg kc_2 z7) o (fun o =>
z_aload_n X 0 dX11_swings_26 rfl <|
z_getR (q := 157) X dX11_swings_27 fl_X11_90 sx_0 rfl <|
z_callvI X dX11_swings_30 q_1384 wX4_fairestSeat sx_157 rfl (by decide) [] [] rfl rfl (Nat.le_of_ble_eq_true rfl) (fun r σ1 e => ct_X4_fairestSeat G _ r σ1 e) o fun r8 s9 h10 o =>
z_istore_n (L1 := [(2, .int (pI r8)), (0, .ref (G.2.2.1 0)), (1, .int (pI p1))]) X dX11_swings_33 rfl (by decide) rfl <|
z_iload_n X 2 dX11_swings_34 rfl <|
z_iconst X dX11_swings_35 <|
z_icmp_ne (tgt := 43) X dX11_swings_36 (by decide) hp1 kc_1 o (fun o =>
z_aload_n X 1 dX11_swings_43 rfl <|
z_getR (q := 157) X dX11_swings_44 fl_X11_90 sx_0 rfl <|
z_iload_n X 0 dX11_swings_47 rfl <|
z_callvI X dX11_swings_48 q_1398 wX4_heavierBy sx_157 rfl (by decide) [.int (pI r8)] [] rfl rfl (Nat.le_of_ble_eq_true rfl) (fun r σ1 e => ct_X4_heavierBy r8 h10 G _ r σ1 e) o fun r11 s12 h13 o =>
z_iret X Y dX11_swings_51 o h13) fun o =>
z_iload_n X 0 dX11_swings_39 rfl <|
z_goto (tgt := 51) X dX11_swings_40 (by decide) <|
z_iret X Y dX11_swings_51 o h10) fun o =>
z_iconst X dX11_swings_24 <|
z_iret X Y dX11_swings_25 o kc_m1 : At E s0 0 [(0, .ref (G.2.2.1 0)), (1, .int (pI p1))] [])
set_option maxHeartbeats 4000000 in
set_option maxRecDepth 100000 in
theorem ct_X11_talk (p1 : Int) (hp1 : rg p1) (G : Gw) (s0 : St) (r : Int) (σ1 : St) (e : fX11_talk p1 s0 = some (r, σ1)) : Ct yX11_talk cX11_talk 2 (some .int) 1 22 SX G [.ref (G.2.2.1 0), .int (pI p1)] s0 (QI SX G r rg σ1) :=
  Ct.of (by decide +kernel) (Nat.le_of_ble_eq_true rfl) fun E X Y => by
    have o : Ok (fX11_talk p1 s0) (fun x σ' => x = r ∧ σ' = σ1) := ⟨r, σ1, e, rfl, rfl⟩
    unfold fX11_talk at o
    exact (
z_iload_n X 1 dX11_talk_0 rfl <|
z_iconst X dX11_talk_1 <|
z_icmp_ne (tgt := 16) X dX11_talk_2 (by decide) hp1 kc_m1 o (fun o =>
z_iload_n X 1 dX11_talk_16 rfl <|
z_iconst X dX11_talk_17 <|
z_iconst X dX11_talk_18 <|
z_callsI X dX11_talk_19 q_681 wX11_within  (by decide) [.int (pI p1), .int (pI 0), .int (pI 2)] [] rfl rfl (Nat.le_of_ble_eq_true rfl) (fun r σ1 e => ct_X11_within p1 0 2 hp1 kc_0 kc_2 G _ r σ1 e) o fun r1 s2 h3 o =>
z_if_eq (tgt := 39) X dX11_talk_22 (by decide) (r01_rg h3) o (fun o =>
z_iconst X dX11_talk_39 <|
z_iret X Y dX11_talk_40 o kc_m1) fun o =>
z_aload_n X 0 dX11_talk_25 rfl <|
z_getR (q := 17) X dX11_talk_26 fl_X11_26 sx_0 rfl <|
z_getRN (q := 38) X dX11_talk_29 fn_X11_331 sx_17 rfl <|
z_iload_n X 1 dX11_talk_32 rfl <|
z_callvI X dX11_talk_33 q_1297 wX6_add sx_38 rfl (by decide) [.int (pI p1)] [] rfl rfl (Nat.le_of_ble_eq_true rfl) (fun r σ1 e => ct_X6_add SX 38 39 24 p1 ⟨sx_38, sx_39, (by decide)⟩ hp1 G _ r σ1 e) o fun r4 s5 h6 o =>
z_goto (tgt := 40) X dX11_talk_36 (by decide) <|
z_iret X Y dX11_talk_40 o h6) fun o =>
z_aload_n X 0 dX11_talk_5 rfl <|
z_getR (q := 17) X dX11_talk_6 fl_X11_26 sx_0 rfl <|
z_getRN (q := 38) X dX11_talk_9 fn_X11_331 sx_17 rfl <|
z_callvI X dX11_talk_12 q_1255 wX6_clear sx_38 rfl (by decide) [] [] rfl rfl (Nat.le_of_ble_eq_true rfl) (fun r σ1 e => ct_X6_clear SX 38 39 24 ⟨sx_38, sx_39, (by decide)⟩ G _ r σ1 e) o fun r7 s8 h9 o =>
z_iret X Y dX11_talk_15 o h9 : At E s0 0 [(0, .ref (G.2.2.1 0)), (1, .int (pI p1))] [])
set_option maxHeartbeats 4000000 in
set_option maxRecDepth 100000 in
theorem ct_X4_waysOfMatters (p1 : Int) (hp1 : rg p1) (G : Gw) (s0 : St) (r : Int) (σ1 : St) (e : fX4_waysOfMatters p1 s0 = some (r, σ1)) : Ct yX4_waysOfMatters cX4_waysOfMatters 5 (some .int) 0 0 SX G [.ref (G.2.2.1 157), .int (pI p1)] s0 (QI SX G r rg σ1) :=
  Ct.of (by decide +kernel) (Nat.le_of_ble_eq_true rfl) fun E X Y => by
    have o : Ok (fX4_waysOfMatters p1 s0) (fun x σ' => x = r ∧ σ' = σ1) := ⟨r, σ1, e, rfl, rfl⟩
    unfold fX4_waysOfMatters at o
    exact (
z_lconst X dX4_waysOfMatters_0 rfl <|
z_lstore_n (L1 := [(2, .long (pJ 1)), (0, .ref (G.2.2.1 157)), (1, .int (pI p1))]) X dX4_waysOfMatters_1 rfl (by decide) rfl <|
z_iconst X dX4_waysOfMatters_2 <|
z_istore (L1 := [(4, .int (pI 0)), (2, .long (pJ 1)), (0, .ref (G.2.2.1 157)), (1, .int (pI p1))]) X dX4_waysOfMatters_3 (by decide) rfl <|
z_join o (fun (y7 : Int) s8 => rl y7 → At E s8 37 [(2, .long (pJ y7))] []) (fun y7 s8 o r9 =>
z_lload_n X 0 dX4_waysOfMatters_37 rfl <|
z_l2i X dX4_waysOfMatters_38 <|
z_iret X Y dX4_waysOfMatters_39 o (w32_rg _)) fun o =>
z_sub (L1 := [(1, .int (pI p1)), (2, .long (pJ 1)), (4, .int (pI 0))]) X [3, 1, 0] rfl <|
z_iter (fun (x1 : Int × Int) s2 => rl x1.1 ∧ rg x1.2 → At E s2 5 [(1, .int (pI p1)), (2, .long (pJ x1.1)), (4, .int (pI x1.2))] []) o (fun x1 s2 o r3 =>
z_iload X 2 dX4_waysOfMatters_5 rfl <|
z_iload_n X 0 dX4_waysOfMatters_7 rfl <|
z_icmp_ge (tgt := 37) X dX4_waysOfMatters_8 (by decide) r3.2 hp1 o (fun o =>
z_sub (L1 := [(2, .long (pJ x1.1))]) X [1] rfl <|
ok_some o r3.1) fun o =>
z_lload_n X 1 dX4_waysOfMatters_11 rfl <|
z_ldc2 X dX4_waysOfMatters_12 q_1359 kj_2 <|
z_lmul X dX4_waysOfMatters_15 <|
z_iconst X dX4_waysOfMatters_16 <|
z_iload X 2 dX4_waysOfMatters_17 rfl <|
z_imul X dX4_waysOfMatters_19 <|
z_iconst X dX4_waysOfMatters_20 <|
z_iadd X dX4_waysOfMatters_21 <|
z_i2l X dX4_waysOfMatters_22 (w32_rg _) <|
z_lmul X dX4_waysOfMatters_23 <|
z_iload X 2 dX4_waysOfMatters_24 rfl <|
z_iconst X dX4_waysOfMatters_26 <|
z_iadd X dX4_waysOfMatters_27 <|
z_i2l X dX4_waysOfMatters_28 (w32_rg _) <|
z_ldiv X dX4_waysOfMatters_29 (w64_rl _) (rg_rl (w32_rg _)) o fun z4 o =>
z_lstoreL_n (L1 := fun v5 => [(2, .long (pJ v5)), (1, .int (pI p1)), (4, .int (pI x1.2))]) (R := rl) X dX4_waysOfMatters_30 rfl (by decide) (fun _ => rfl) o (w64_rl _) fun v5 r6 o =>
z_iinc (L1 := [(4, .int (pI (w32 (x1.2 + 1)))), (2, .long (pJ v5)), (1, .int (pI p1))]) X 2 dX4_waysOfMatters_31 rfl (by decide) rfl <|
z_goto (tgt := 5) X dX4_waysOfMatters_34 (by decide) <|
z_sub (L1 := [(1, .int (pI p1)), (2, .long (pJ v5)), (4, .int (pI (w32 (x1.2 + 1))))]) X [2, 1, 0] rfl <|
ok_some o ⟨r6, (w32_rg _)⟩) ⟨kl_1, kc_0⟩ : At E s0 0 [(0, .ref (G.2.2.1 157)), (1, .int (pI p1))] [])
set_option maxHeartbeats 4000000 in
set_option maxRecDepth 100000 in
theorem ct_X4_firstUnbegun   (G : Gw) (s0 : St) (r : Int) (σ1 : St) (e : fX4_firstUnbegun s0 = some (r, σ1)) : Ct yX4_firstUnbegun cX4_firstUnbegun 4 (some .int) 1 22 SX G [.ref (G.2.2.1 157)] s0 (QI SX G r rg σ1) :=
  Ct.of (by decide +kernel) (Nat.le_of_ble_eq_true rfl) fun E X Y => by
    have o : Ok (fX4_firstUnbegun s0) (fun x σ' => x = r ∧ σ' = σ1) := ⟨r, σ1, e, rfl, rfl⟩
    unfold fX4_firstUnbegun at o
    exact (
z_iconst X dX4_firstUnbegun_0 <|
z_istore_n (L1 := [(1, .int (pI 0)), (0, .ref (G.2.2.1 157))]) X dX4_firstUnbegun_1 rfl (by decide) rfl <|
z_iconst X dX4_firstUnbegun_2 <|
z_istore_n (L1 := [(2, .int (pI 0)), (1, .int (pI 0)), (0, .ref (G.2.2.1 157))]) X dX4_firstUnbegun_3 rfl (by decide) rfl <|
z_joix o (fun (y13 : Int) s14 => rg y13 → At E s14 40 [(2, .int (pI y13))] []) (fun y13 s14 o r15 =>
z_iload_n X 0 dX4_firstUnbegun_40 rfl <|
z_iret X Y dX4_firstUnbegun_41 o r15) fun o =>
z_sub (L1 := [(0, .ref (G.2.2.1 157)), (1, .int (pI 0)), (2, .int (pI 0))]) X [2, 1, 0] rfl <|
z_iter (fun (x1 : Int × Int) s2 => rg x1.1 ∧ rg x1.2 → At E s2 4 [(0, .ref (G.2.2.1 157)), (1, .int (pI x1.1)), (2, .int (pI x1.2))] []) o (fun x1 s2 o r3 =>
z_iload_n X 2 dX4_firstUnbegun_4 rfl <|
z_aload_n X 0 dX4_firstUnbegun_5 rfl <|
z_getR (q := 17) X dX4_firstUnbegun_6 fl_X4_56 sx_157 rfl <|
z_getRN (q := 38) X dX4_firstUnbegun_9 fn_X4_122 sx_17 rfl <|
z_callvI X dX4_firstUnbegun_12 q_1265 wX6_size sx_38 rfl (by decide) [] [.int (pI x1.2)] rfl rfl (Nat.le_of_ble_eq_true rfl) (fun r σ1 e => ct_X6_size SX 38 39 24 ⟨sx_38, sx_39, (by decide)⟩ G _ r σ1 e) o fun r4 s5 h6 o =>
z_icmp_ge (tgt := 64) X dX4_firstUnbegun_15 (by decide) r3.2 h6 o (fun o =>
z_iconst X dX4_firstUnbegun_64 <|
z_iret X Y dX4_firstUnbegun_65 (ok_ret (ok_some o)) kc_m1) fun o =>
z_aload_n X 0 dX4_firstUnbegun_18 rfl <|
z_getR (q := 17) X dX4_firstUnbegun_19 fl_X4_56 sx_157 rfl <|
z_getRN (q := 38) X dX4_firstUnbegun_22 fn_X4_122 sx_17 rfl <|
z_iload_n X 2 dX4_firstUnbegun_25 rfl <|
z_iconst X dX4_firstUnbegun_26 <|
z_callvI X dX4_firstUnbegun_27 q_1266 wX6_get sx_38 rfl (by decide) [.int (pI x1.2), .int (pI 0)] [] rfl rfl (Nat.le_of_ble_eq_true rfl) (fun r σ1 e => ct_X6_get SX 38 39 24 x1.2 0 ⟨sx_38, sx_39, (by decide)⟩ r3.2 kc_0 G _ r σ1 e) o fun r7 s8 h9 o =>
z_istore_n (L1 := [(3, .int (pI r7)), (0, .ref (G.2.2.1 157)), (1, .int (pI x1.1)), (2, .int (pI x1.2))]) X dX4_firstUnbegun_30 rfl (by decide) rfl <|
z_iload_n X 0 dX4_firstUnbegun_31 rfl <|
z_iconst X dX4_firstUnbegun_32 <|
z_joix o (fun (y10 : Unit) s11 => True → At E s11 42 [(0, .ref (G.2.2.1 157)), (1, .int (pI x1.1)), (2, .int (pI x1.2)), (3, .int (pI r7))] []) (fun y10 s11 o r12 =>
z_iload_n X 3 dX4_firstUnbegun_42 rfl <|
z_iconst X dX4_firstUnbegun_43 <|
z_icmp_ne (tgt := 50) X dX4_firstUnbegun_44 (by decide) h9 kc_1 o (fun o =>
z_iload_n X 3 dX4_firstUnbegun_50 rfl <|
z_iconst X dX4_firstUnbegun_51 <|
z_icmp_ne (tgt := 58) X dX4_firstUnbegun_52 (by decide) h9 kc_2 o (fun o =>
z_iinc (L1 := [(2, .int (pI (w32 (x1.2 + 1)))), (0, .ref (G.2.2.1 157)), (1, .int (pI x1.1)), (3, .int (pI r7))]) X 2 dX4_firstUnbegun_58 rfl (by decide) rfl <|
z_goto (tgt := 4) X dX4_firstUnbegun_61 (by decide) <|
z_sub (L1 := [(0, .ref (G.2.2.1 157)), (1, .int (pI x1.1)), (2, .int (pI (w32 (x1.2 + 1))))]) X [1, 2, 0] rfl <|
ok_some o ⟨r3.1, (w32_rg _)⟩) fun o =>
z_iinc (L1 := [(1, .int (pI (w32 (x1.1 + (-1))))), (0, .ref (G.2.2.1 157)), (2, .int (pI x1.2)), (3, .int (pI r7))]) X 1 dX4_firstUnbegun_55 rfl (by decide) rfl <|
z_iinc (L1 := [(2, .int (pI (w32 (x1.2 + 1)))), (1, .int (pI (w32 (x1.1 + (-1))))), (0, .ref (G.2.2.1 157)), (3, .int (pI r7))]) X 2 dX4_firstUnbegun_58 rfl (by decide) rfl <|
z_goto (tgt := 4) X dX4_firstUnbegun_61 (by decide) <|
z_sub (L1 := [(0, .ref (G.2.2.1 157)), (1, .int (pI (w32 (x1.1 + (-1))))), (2, .int (pI (w32 (x1.2 + 1))))]) X [2, 1, 0] rfl <|
ok_some o ⟨(w32_rg _), (w32_rg _)⟩) fun o =>
z_iinc (L1 := [(1, .int (pI (w32 (x1.1 + 1)))), (0, .ref (G.2.2.1 157)), (2, .int (pI x1.2)), (3, .int (pI r7))]) X 1 dX4_firstUnbegun_47 rfl (by decide) rfl <|
z_iload_n X 3 dX4_firstUnbegun_50 rfl <|
z_iconst X dX4_firstUnbegun_51 <|
z_icmp_ne (tgt := 58) X dX4_firstUnbegun_52 (by decide) h9 kc_2 o (fun o =>
z_iinc (L1 := [(2, .int (pI (w32 (x1.2 + 1)))), (1, .int (pI (w32 (x1.1 + 1)))), (0, .ref (G.2.2.1 157)), (3, .int (pI r7))]) X 2 dX4_firstUnbegun_58 rfl (by decide) rfl <|
z_goto (tgt := 4) X dX4_firstUnbegun_61 (by decide) <|
z_sub (L1 := [(0, .ref (G.2.2.1 157)), (1, .int (pI (w32 (x1.1 + 1)))), (2, .int (pI (w32 (x1.2 + 1))))]) X [2, 1, 0] rfl <|
ok_some o ⟨(w32_rg _), (w32_rg _)⟩) fun o =>
z_iinc (L1 := [(1, .int (pI (w32 (w32 (x1.1 + 1) + (-1))))), (0, .ref (G.2.2.1 157)), (2, .int (pI x1.2)), (3, .int (pI r7))]) X 0 dX4_firstUnbegun_55 rfl (by decide) rfl <|
z_iinc (L1 := [(2, .int (pI (w32 (x1.2 + 1)))), (1, .int (pI (w32 (w32 (x1.1 + 1) + (-1))))), (0, .ref (G.2.2.1 157)), (3, .int (pI r7))]) X 2 dX4_firstUnbegun_58 rfl (by decide) rfl <|
z_goto (tgt := 4) X dX4_firstUnbegun_61 (by decide) <|
z_sub (L1 := [(0, .ref (G.2.2.1 157)), (1, .int (pI (w32 (w32 (x1.1 + 1) + (-1))))), (2, .int (pI (w32 (x1.2 + 1))))]) X [2, 1, 0] rfl <|
ok_some o ⟨(w32_rg _), (w32_rg _)⟩) fun o =>
z_icmp_ne (tgt := 42) X dX4_firstUnbegun_33 (by decide) h9 kc_2 o (fun o =>
z_sub (L1 := [(0, .ref (G.2.2.1 157)), (1, .int (pI x1.1)), (2, .int (pI x1.2)), (3, .int (pI r7))]) X [1, 2, 3, 0] rfl <|
ok_some o trivial) fun o =>
z_iload_n X 2 dX4_firstUnbegun_36 rfl <|
z_if_ne (tgt := 42) X dX4_firstUnbegun_37 (by decide) r3.1 o (fun o =>
z_sub (L1 := [(0, .ref (G.2.2.1 157)), (1, .int (pI x1.1)), (2, .int (pI x1.2)), (3, .int (pI r7))]) X [1, 2, 3, 0] rfl <|
ok_some o trivial) fun o =>
z_sub (L1 := [(2, .int (pI x1.2))]) X [3] rfl <|
ok_some o r3.2) ⟨kc_0, kc_0⟩ : At E s0 0 [(0, .ref (G.2.2.1 157))] [])
