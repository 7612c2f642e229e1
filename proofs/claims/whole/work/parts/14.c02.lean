set_option maxHeartbeats 4000000 in
set_option maxRecDepth 100000 in
theorem ct_X3_tells (p1 : Int) (p2 : Int) (p3 : Int) (hp1 : rg p1) (hp2 : rg p2) (hp3 : rg p3) (G : Gw) (s0 : St) (r : Int) (σ1 : St) (e : fX3_tells p1 p2 p3 s0 = some (r, σ1)) : Ct yX3_tells cX3_tells 8 (some .int) 2 49 SX G [.ref (G.2.2.1 149), .int (pI p1), .int (pI p2), .int (pI p3)] s0 (QI SX G r rg σ1) :=
  Ct.of (by decide +kernel) (Nat.le_of_ble_eq_true rfl) fun E X Y => by
    have o : Ok (fX3_tells p1 p2 p3 s0) (fun x σ' => x = r ∧ σ' = σ1) := ⟨r, σ1, e, rfl, rfl⟩
    unfold fX3_tells at o
    exact (
z_aload_n X 0 dX3_tells_0 rfl <|
z_iload_n X 2 dX3_tells_1 rfl <|
z_iload_n X 3 dX3_tells_2 rfl <|
z_callvV X dX3_tells_3 q_817 wX3_lookAt sx_149 rfl (by decide) [.int (pI p2), .int (pI p3)] [] rfl rfl (Nat.le_of_ble_eq_true rfl) (fun r σ1 e => ct_X3_lookAt p2 p3 hp2 hp3 G _ r σ1 e) o fun r1 s2 o =>
z_iconst X dX3_tells_6 <|
z_istore (L1 := [(4, .int (pI 0)), (0, .ref (G.2.2.1 149)), (1, .int (pI p1)), (2, .int (pI p2)), (3, .int (pI p3))]) X dX3_tells_7 (by decide) rfl <|
z_joix o (fun (y34 : Unit) s35 => True → At E s35 132 [(0, .ref (G.2.2.1 149)), (1, .int (pI p1))] []) (fun y34 s35 o r36 =>
z_iload_n X 1 dX3_tells_132 rfl <|
z_sipush X dX3_tells_133 si_260 <|
z_icmp_ne (tgt := 149) X dX3_tells_136 (by decide) hp1 kc_260 o (fun o =>
z_iload_n X 1 dX3_tells_149 rfl <|
z_sipush X dX3_tells_150 si_261 <|
z_icmp_ne (tgt := 168) X dX3_tells_153 (by decide) hp1 kc_261 o (fun o =>
z_iconst X dX3_tells_168 <|
z_iret X Y dX3_tells_169 o kc_1) fun o =>
z_bipush X dX3_tells_156 bi_100 <|
z_aload_n X 0 dX3_tells_158 rfl <|
z_getR (q := 150) X dX3_tells_159 fl_X3_9 sx_149 rfl <|
z_iconst X dX3_tells_162 <|
z_iald X dX3_tells_163 sx_150 kc_1 o fun v37 r38 o =>
z_imul X dX3_tells_164 <|
z_goto (tgt := 169) X dX3_tells_165 (by decide) <|
z_iret X Y dX3_tells_169 o (w32_rg _)) fun o =>
z_bipush X dX3_tells_139 bi_60 <|
z_aload_n X 0 dX3_tells_141 rfl <|
z_getR (q := 150) X dX3_tells_142 fl_X3_9 sx_149 rfl <|
z_iconst X dX3_tells_145 <|
z_iald X dX3_tells_146 sx_150 kc_0 o fun v39 r40 o =>
z_imul X dX3_tells_147 <|
z_iret X Y dX3_tells_148 o (w32_rg _)) fun o =>
z_sub (L1 := [(0, .ref (G.2.2.1 149)), (1, .int (pI p1)), (4, .int (pI 0))]) X [1, 2, 0] rfl <|
z_iter (fun (x4 : Int) s5 => rg x4 → At E s5 9 [(0, .ref (G.2.2.1 149)), (1, .int (pI p1)), (4, .int (pI x4))] []) o (fun x4 s5 o r6 =>
z_iload X 2 dX3_tells_9 rfl <|
z_aload_n X 0 dX3_tells_11 rfl <|
z_getR (q := 18) X dX3_tells_12 fl_X3_26 sx_149 rfl <|
z_callvI X dX3_tells_15 q_826 wX6_size sx_18 rfl (by decide) [] [.int (pI x4)] rfl rfl (Nat.le_of_ble_eq_true rfl) (fun r σ1 e => ct_X6_size SX 18 19 64 ⟨sx_18, sx_19, (by decide)⟩ G _ r σ1 e) o fun r7 s8 h9 o =>
z_icmp_ge (tgt := 132) X dX3_tells_18 (by decide) r6 h9 o (fun o =>
z_sub (L1 := [(0, .ref (G.2.2.1 149)), (1, .int (pI p1))]) X [0, 1] rfl <|
ok_some o trivial) fun o =>
z_aload_n X 0 dX3_tells_21 rfl <|
z_getR (q := 18) X dX3_tells_22 fl_X3_26 sx_149 rfl <|
z_iload X 2 dX3_tells_25 rfl <|
z_iconst X dX3_tells_27 <|
z_callvI X dX3_tells_28 q_827 wX6_get sx_18 rfl (by decide) [.int (pI x4), .int (pI 0)] [] rfl rfl (Nat.le_of_ble_eq_true rfl) (fun r σ1 e => ct_X6_get SX 18 19 64 x4 0 ⟨sx_18, sx_19, (by decide)⟩ r6 kc_0 G _ r σ1 e) o fun r10 s11 h12 o =>
z_iload_n X 1 dX3_tells_31 rfl <|
z_icmp_eq (tgt := 38) X dX3_tells_32 (by decide) h12 hp1 o (fun o =>
z_aload_n X 0 dX3_tells_38 rfl <|
z_getR (q := 18) X dX3_tells_39 fl_X3_26 sx_149 rfl <|
z_iload X 2 dX3_tells_42 rfl <|
z_iconst X dX3_tells_44 <|
z_callvI X dX3_tells_45 q_827 wX6_get sx_18 rfl (by decide) [.int (pI x4), .int (pI 2)] [] rfl rfl (Nat.le_of_ble_eq_true rfl) (fun r σ1 e => ct_X6_get SX 18 19 64 x4 2 ⟨sx_18, sx_19, (by decide)⟩ r6 kc_2 G _ r σ1 e) o fun r13 s14 h15 o =>
z_istore (L1 := [(5, .int (pI r13)), (0, .ref (G.2.2.1 149)), (1, .int (pI p1)), (4, .int (pI x4))]) X dX3_tells_48 (by decide) rfl <|
z_aload_n X 1 dX3_tells_50 rfl <|
z_getR (q := 18) X dX3_tells_51 fl_X3_26 sx_149 rfl <|
z_iload X 3 dX3_tells_54 rfl <|
z_iconst X dX3_tells_56 <|
z_callvI X dX3_tells_57 q_827 wX6_get sx_18 rfl (by decide) [.int (pI x4), .int (pI 3)] [] rfl rfl (Nat.le_of_ble_eq_true rfl) (fun r σ1 e => ct_X6_get SX 18 19 64 x4 3 ⟨sx_18, sx_19, (by decide)⟩ r6 kc_3 G _ r σ1 e) o fun r16 s17 h18 o =>
z_istore (L1 := [(6, .int (pI r16)), (5, .int (pI r13)), (0, .ref (G.2.2.1 149)), (1, .int (pI p1)), (4, .int (pI x4))]) X dX3_tells_60 (by decide) rfl <|
z_iload X 1 dX3_tells_62 rfl <|
z_iload X 0 dX3_tells_64 rfl <|
z_joix o (fun (y22 : Int) s23 => rg y22 → At E s23 83 [(0, .ref (G.2.2.1 149)), (1, .int (pI p1)), (4, .int (pI y22)), (5, .int (pI r13))] []) (fun y22 s23 o r24 =>
z_iload_n X 1 dX3_tells_83 rfl <|
z_sipush X dX3_tells_84 si_262 <|
z_join o (fun (y25 : Int) s26 => rg y25 → At E s26 98 [(0, .ref (G.2.2.1 149)), (4, .int (pI y22)), (5, .int (pI r13))] [.int (pI y25)]) (fun y25 s26 o r27 =>
z_istore (L1 := [(7, .int (pI y25)), (0, .ref (G.2.2.1 149)), (4, .int (pI y22)), (5, .int (pI r13))]) X dX3_tells_98 (by decide) rfl <|
z_iconst X dX3_tells_100 <|
z_iload X 0 dX3_tells_101 rfl <|
z_aload_n X 1 dX3_tells_103 rfl <|
z_aload_n X 1 dX3_tells_104 rfl <|
z_getR (q := 18) X dX3_tells_105 fl_X3_26 sx_149 rfl <|
z_iload X 2 dX3_tells_108 rfl <|
z_iconst X dX3_tells_110 <|
z_callvI X dX3_tells_111 q_827 wX6_get sx_18 rfl (by decide) [.int (pI y22), .int (pI 1)] [.ref (G.2.2.1 149), .int (pI y25), .int (pI 0)] rfl rfl (Nat.le_of_ble_eq_true rfl) (fun r σ1 e => ct_X6_get SX 18 19 64 y22 1 ⟨sx_18, sx_19, (by decide)⟩ r24 kc_1 G _ r σ1 e) o fun r28 s29 h30 o =>
z_iload X 3 dX3_tells_114 rfl <|
z_callvI X dX3_tells_116 q_828 wX3_value sx_149 rfl (by decide) [.int (pI r28), .int (pI r13)] [.int (pI y25), .int (pI 0)] rfl rfl (Nat.le_of_ble_eq_true rfl) (fun r σ1 e => ct_X3_value r28 r13 h30 h15 G _ r σ1 e) o fun r31 s32 h33 o =>
z_mmin X dX3_tells_119 q_836 q_837 q_174 q_838 (by decide) (Nat.le_of_ble_eq_true rfl) r27 h33 <|
z_mmax X dX3_tells_122 q_839 q_840 q_174 q_841 (by decide) (Nat.le_of_ble_eq_true rfl) kc_0 (imn_rg r27 h33) <|
z_iret X Y dX3_tells_125 (ok_ret (ok_some o)) (imx_rg kc_0 (imn_rg r27 h33))) fun o =>
z_icmp_ne (tgt := 95) X dX3_tells_87 (by decide) hp1 kc_262 o (fun o =>
z_sipush X dX3_tells_95 si_1000 <|
z_sub (L1 := [(0, .ref (G.2.2.1 149)), (4, .int (pI y22)), (5, .int (pI r13))]) X [0, 2, 3] rfl <|
ok_some o kc_1000) fun o =>
z_bipush X dX3_tells_90 bi_9 <|
z_goto (tgt := 98) X dX3_tells_92 (by decide) <|
z_sub (L1 := [(0, .ref (G.2.2.1 149)), (4, .int (pI y22)), (5, .int (pI r13))]) X [0, 2, 3] rfl <|
ok_some o kc_9) fun o =>
z_icmp_ge (tgt := 83) X dX3_tells_66 (by decide) h15 h18 o (fun o =>
z_sub (L1 := [(0, .ref (G.2.2.1 149)), (1, .int (pI p1)), (4, .int (pI x4)), (5, .int (pI r13))]) X [2, 3, 4, 1] rfl <|
ok_some o r6) fun o =>
z_aload_n X 2 dX3_tells_69 rfl <|
z_iload X 1 dX3_tells_70 rfl <|
z_iload X 0 dX3_tells_72 rfl <|
z_callvI X dX3_tells_74 q_828 wX3_value sx_149 rfl (by decide) [.int (pI r13), .int (pI r16)] [] rfl rfl (Nat.le_of_ble_eq_true rfl) (fun r σ1 e => ct_X3_value r13 r16 h15 h18 G _ r σ1 e) o fun r19 s20 h21 o =>
z_if_ne (tgt := 83) X dX3_tells_77 (by decide) h21 o (fun o =>
z_sub (L1 := [(0, .ref (G.2.2.1 149)), (1, .int (pI p1)), (4, .int (pI x4)), (5, .int (pI r13))]) X [2, 3, 4, 1] rfl <|
ok_some o r6) fun o =>
z_goto (tgt := 126) X dX3_tells_80 (by decide) <|
z_iinc (L1 := [(4, .int (pI (w32 (x4 + 1)))), (6, .int (pI r16)), (5, .int (pI r13)), (0, .ref (G.2.2.1 149)), (1, .int (pI p1))]) X 4 dX3_tells_126 rfl (by decide) rfl <|
z_goto (tgt := 9) X dX3_tells_129 (by decide) <|
z_sub (L1 := [(0, .ref (G.2.2.1 149)), (1, .int (pI p1)), (4, .int (pI (w32 (x4 + 1))))]) X [3, 4, 0] rfl <|
ok_some o (w32_rg _)) fun o =>
z_goto (tgt := 126) X dX3_tells_35 (by decide) <|
z_iinc (L1 := [(4, .int (pI (w32 (x4 + 1)))), (0, .ref (G.2.2.1 149)), (1, .int (pI p1))]) X 2 dX3_tells_126 rfl (by decide) rfl <|
z_goto (tgt := 9) X dX3_tells_129 (by decide) <|
z_sub (L1 := [(0, .ref (G.2.2.1 149)), (1, .int (pI p1)), (4, .int (pI (w32 (x4 + 1))))]) X [1, 2, 0] rfl <|
ok_some o (w32_rg _)) kc_0 : At E s0 0 [(0, .ref (G.2.2.1 149)), (1, .int (pI p1)), (2, .int (pI p2)), (3, .int (pI p3))] [])
set_option maxHeartbeats 4000000 in
set_option maxRecDepth 100000 in
theorem ct_X2_draw (p1 : Int) (hp1 : rg p1) (G : Gw) (s0 : St) (r : Int) (σ1 : St) (e : fX2_draw p1 s0 = some (r, σ1)) : Ct yX2_draw cX2_draw 2 (some .int) 0 0 SX G [.ref (G.2.2.1 3), .int (pI p1)] s0 (QI SX G r rg σ1) :=
  Ct.of (by decide +kernel) (Nat.le_of_ble_eq_true rfl) fun E X Y => by
    have o : Ok (fX2_draw p1 s0) (fun x σ' => x = r ∧ σ' = σ1) := ⟨r, σ1, e, rfl, rfl⟩
    unfold fX2_draw at o
    exact (
z_aload_n X 0 dX2_draw_0 rfl <|
z_ldc X dX2_draw_1 q_850 ki_1664525 <|
z_aload_n X 0 dX2_draw_3 rfl <|
z_getI X dX2_draw_4 fl_X2_9 sx_3 rfl o fun v1 r2 o =>
z_imul X dX2_draw_7 <|
z_ldc X dX2_draw_8 q_851 ki_1013904223 <|
z_iadd X dX2_draw_10 <|
z_putI X dX2_draw_11 fl_X2_9 sx_3 ft_X2_0 rfl (w32_rg _) o fun s3 o =>
z_iload_n X 1 dX2_draw_14 rfl <|
z_if_le (tgt := 30) X dX2_draw_15 (by decide) hp1 o (fun o =>
z_iconst X dX2_draw_30 <|
z_iret X Y dX2_draw_31 o kc_0) fun o =>
z_aload_n X 0 dX2_draw_18 rfl <|
z_getI X dX2_draw_19 fl_X2_9 sx_3 rfl o fun v4 r5 o =>
z_bipush X dX2_draw_22 bi_8 <|
z_iushr X dX2_draw_24 <|
z_iload_n X 1 dX2_draw_25 rfl <|
z_irem X dX2_draw_26 (int_rg _) hp1 o fun z6 o =>
z_goto (tgt := 31) X dX2_draw_27 (by decide) <|
z_iret X Y dX2_draw_31 o (irm_rg hp1 z6) : At E s0 0 [(0, .ref (G.2.2.1 3)), (1, .int (pI p1))] [])
set_option maxHeartbeats 4000000 in
set_option maxRecDepth 100000 in
theorem ct_X1_happens (p1 : Int) (hp1 : rg p1) (G : Gw) (s0 : St) (r : Int) (σ1 : St) (e : fX1_happens p1 s0 = some (r, σ1)) : Ct yX1_happens cX1_happens 2 (some .boolean) 1 21 SX G [.ref (G.2.2.1 152), .int (pI p1)] s0 (QI SX G r r01 σ1) :=
  Ct.of (by decide +kernel) (Nat.le_of_ble_eq_true rfl) fun E X Y => by
    have o : Ok (fX1_happens p1 s0) (fun x σ' => x = r ∧ σ' = σ1) := ⟨r, σ1, e, rfl, rfl⟩
    unfold fX1_happens at o
    exact (
z_iload_n X 1 dX1_happens_0 rfl <|
z_if_gt (tgt := 6) X dX1_happens_1 (by decide) hp1 o (fun o =>
z_aload_n X 0 dX1_happens_6 rfl <|
z_getI X dX1_happens_7 fl_X1_9 sx_152 rfl o fun v1 r2 o =>
z_if_eq (tgt := 28) X dX1_happens_10 (by decide) r2 o (fun o =>
z_aload_n X 0 dX1_happens_28 rfl <|
z_getR (q := 3) X dX1_happens_29 fl_X1_15 sx_152 rfl <|
z_sipush X dX1_happens_32 si_1000 <|
z_callvI X dX1_happens_35 q_846 wX2_draw sx_3 rfl (by decide) [.int (pI 1000)] [] rfl rfl (Nat.le_of_ble_eq_true rfl) (fun r σ1 e => ct_X2_draw 1000 kc_1000 G _ r σ1 e) o fun r3 s4 h5 o =>
z_iload_n X 1 dX1_happens_38 rfl <|
z_icmp_ge (tgt := 46) X dX1_happens_39 (by decide) h5 hp1 o (fun o =>
z_iconst X dX1_happens_46 <|
z_zret X Y dX1_happens_47 o kb_0 kb_0) fun o =>
z_iconst X dX1_happens_42 <|
z_goto (tgt := 47) X dX1_happens_43 (by decide) <|
z_zret X Y dX1_happens_47 o kb_1 kb_1) fun o =>
z_iload_n X 1 dX1_happens_13 rfl <|
z_sipush X dX1_happens_14 si_500 <|
z_icmp_lt (tgt := 24) X dX1_happens_17 (by decide) hp1 kc_500 o (fun o =>
z_iconst X dX1_happens_24 <|
z_goto (tgt := 47) X dX1_happens_25 (by decide) <|
z_zret X Y dX1_happens_47 o kb_0 kb_0) fun o =>
z_iconst X dX1_happens_20 <|
z_goto (tgt := 47) X dX1_happens_21 (by decide) <|
z_zret X Y dX1_happens_47 o kb_1 kb_1) fun o =>
z_iconst X dX1_happens_4 <|
z_zret X Y dX1_happens_5 o kb_0 kb_0 : At E s0 0 [(0, .ref (G.2.2.1 152)), (1, .int (pI p1))] [])
set_option maxHeartbeats 4000000 in
set_option maxRecDepth 100000 in
theorem ct_X9_feet (p1 : Int) (p2 : Int) (hp1 : rg p1) (hp2 : rg p2) (G : Gw) (s0 : St) (r : Int) (σ1 : St) (e : fX9_feet p1 p2 s0 = some (r, σ1)) : Ct yX9_feet cX9_feet 9 (some .int) 1 22 SX G [.ref (G.2.2.1 17), .int (pI p1), .int (pI p2)] s0 (QI SX G r rg σ1) :=
  Ct.of (by decide +kernel) (Nat.le_of_ble_eq_true rfl) fun E X Y => by
    have o : Ok (fX9_feet p1 p2 s0) (fun x σ' => x = r ∧ σ' = σ1) := ⟨r, σ1, e, rfl, rfl⟩
    unfold fX9_feet at o
    exact (
z_iconst X dX9_feet_0 <|
z_istore_n (L1 := [(3, .int (pI (-1))), (0, .ref (G.2.2.1 17)), (1, .int (pI p1)), (2, .int (pI p2))]) X dX9_feet_1 rfl (by decide) rfl <|
z_iconst X dX9_feet_2 <|
z_istore (L1 := [(4, .int (pI 0)), (3, .int (pI (-1))), (0, .ref (G.2.2.1 17)), (1, .int (pI p1)), (2, .int (pI p2))]) X dX9_feet_3 (by decide) rfl <|
z_join o (fun (y19 : Int) s20 => rg y19 → At E s20 109 [(3, .int (pI y19))] []) (fun y19 s20 o r21 =>
z_iload_n X 0 dX9_feet_109 rfl <|
z_iret X Y dX9_feet_110 o r21) fun o =>
z_sub (L1 := [(0, .ref (G.2.2.1 17)), (1, .int (pI p1)), (2, .int (pI p2)), (3, .int (pI (-1))), (4, .int (pI 0))]) X [2, 3, 4, 1, 0] rfl <|
z_iter (fun (x1 : Int × Int) s2 => rg x1.1 ∧ rg x1.2 → At E s2 5 [(0, .ref (G.2.2.1 17)), (1, .int (pI p1)), (2, .int (pI p2)), (3, .int (pI x1.1)), (4, .int (pI x1.2))] []) o (fun x1 s2 o r3 =>
z_iload X 4 dX9_feet_5 rfl <|
z_aload_n X 0 dX9_feet_7 rfl <|
z_getR (q := 26) X dX9_feet_8 fl_X9_29 sx_17 rfl <|
z_callvI X dX9_feet_11 q_860 wX6_size sx_26 rfl (by decide) [] [.int (pI x1.2)] rfl rfl (Nat.le_of_ble_eq_true rfl) (fun r σ1 e => ct_X6_size SX 26 27 64 ⟨sx_26, sx_27, (by decide)⟩ G _ r σ1 e) o fun r4 s5 h6 o =>
z_icmp_ge (tgt := 109) X dX9_feet_14 (by decide) r3.2 h6 o (fun o =>
z_sub (L1 := [(3, .int (pI x1.1))]) X [3] rfl <|
ok_some o r3.1) fun o =>
z_aload_n X 0 dX9_feet_17 rfl <|
z_getR (q := 26) X dX9_feet_18 fl_X9_29 sx_17 rfl <|
z_iload X 4 dX9_feet_21 rfl <|
z_iconst X dX9_feet_23 <|
z_callvI X dX9_feet_24 q_861 wX6_get sx_26 rfl (by decide) [.int (pI x1.2), .int (pI 0)] [] rfl rfl (Nat.le_of_ble_eq_true rfl) (fun r σ1 e => ct_X6_get SX 26 27 64 x1.2 0 ⟨sx_26, sx_27, (by decide)⟩ r3.2 kc_0 G _ r σ1 e) o fun r7 s8 h9 o =>
z_istore (L1 := [(5, .int (pI r7)), (0, .ref (G.2.2.1 17)), (1, .int (pI p1)), (2, .int (pI p2)), (3, .int (pI x1.1)), (4, .int (pI x1.2))]) X dX9_feet_27 (by decide) rfl <|
z_aload_n X 1 dX9_feet_29 rfl <|
z_getR (q := 26) X dX9_feet_30 fl_X9_29 sx_17 rfl <|
z_iload X 5 dX9_feet_33 rfl <|
z_iconst X dX9_feet_35 <|
z_callvI X dX9_feet_36 q_861 wX6_get sx_26 rfl (by decide) [.int (pI x1.2), .int (pI 1)] [] rfl rfl (Nat.le_of_ble_eq_true rfl) (fun r σ1 e => ct_X6_get SX 26 27 64 x1.2 1 ⟨sx_26, sx_27, (by decide)⟩ r3.2 kc_1 G _ r σ1 e) o fun r10 s11 h12 o =>
z_istore (L1 := [(6, .int (pI r10)), (5, .int (pI r7)), (0, .ref (G.2.2.1 17)), (1, .int (pI p1)), (2, .int (pI p2)), (3, .int (pI x1.1)), (4, .int (pI x1.2))]) X dX9_feet_39 (by decide) rfl <|
z_iload X 1 dX9_feet_41 rfl <|
z_iload_n X 3 dX9_feet_43 rfl <|
z_join o (fun (y13 : Int) s14 => r01 y13 → At E s14 70 [(0, .ref (G.2.2.1 17)), (1, .int (pI p1)), (2, .int (pI p2)), (3, .int (pI x1.1)), (4, .int (pI x1.2))] [.int (pI y13)]) (fun y13 s14 o r15 =>
z_istore (L1 := [(7, .int (pI y13)), (0, .ref (G.2.2.1 17)), (1, .int (pI p1)), (2, .int (pI p2)), (3, .int (pI x1.1)), (4, .int (pI x1.2))]) X dX9_feet_70 (by decide) rfl <|
z_aload_n X 1 dX9_feet_72 rfl <|
z_getR (q := 26) X dX9_feet_73 fl_X9_29 sx_17 rfl <|
z_iload X 5 dX9_feet_76 rfl <|
z_iconst X dX9_feet_78 <|
z_callvI X dX9_feet_79 q_861 wX6_get sx_26 rfl (by decide) [.int (pI x1.2), .int (pI 2)] [] rfl rfl (Nat.le_of_ble_eq_true rfl) (fun r σ1 e => ct_X6_get SX 26 27 64 x1.2 2 ⟨sx_26, sx_27, (by decide)⟩ r3.2 kc_2 G _ r σ1 e) o fun r16 s17 h18 o =>
z_istore (L1 := [(8, .int (pI r16)), (7, .int (pI y13)), (0, .ref (G.2.2.1 17)), (1, .int (pI p1)), (2, .int (pI p2)), (3, .int (pI x1.1)), (4, .int (pI x1.2))]) X dX9_feet_82 (by decide) rfl <|
z_iload X 1 dX9_feet_84 rfl <|
z_if_eq (tgt := 103) X dX9_feet_86 (by decide) (r01_rg r15) o (fun o =>
z_iinc (L1 := [(4, .int (pI (w32 (x1.2 + 1)))), (8, .int (pI r16)), (7, .int (pI y13)), (0, .ref (G.2.2.1 17)), (1, .int (pI p1)), (2, .int (pI p2)), (3, .int (pI x1.1))]) X 6 dX9_feet_103 rfl (by decide) rfl <|
z_goto (tgt := 5) X dX9_feet_106 (by decide) <|
z_sub (L1 := [(0, .ref (G.2.2.1 17)), (1, .int (pI p1)), (2, .int (pI p2)), (3, .int (pI x1.1)), (4, .int (pI (w32 (x1.2 + 1))))]) X [3, 4, 5, 6, 0] rfl <|
ok_some o ⟨r3.1, (w32_rg _)⟩) fun o =>
z_iload_n X 5 dX9_feet_89 rfl <|
z_iconst X dX9_feet_90 <|
z_icmp_eq (tgt := 100) X dX9_feet_91 (by decide) r3.1 kc_m1 o (fun o =>
z_iload X 0 dX9_feet_100 rfl <|
z_istore_n (L1 := [(3, .int (pI r16)), (8, .int (pI r16)), (7, .int (pI y13)), (0, .ref (G.2.2.1 17)), (1, .int (pI p1)), (2, .int (pI p2)), (4, .int (pI x1.2))]) X dX9_feet_102 rfl (by decide) rfl <|
z_iinc (L1 := [(4, .int (pI (w32 (x1.2 + 1)))), (3, .int (pI r16)), (8, .int (pI r16)), (7, .int (pI y13)), (0, .ref (G.2.2.1 17)), (1, .int (pI p1)), (2, .int (pI p2))]) X 6 dX9_feet_103 rfl (by decide) rfl <|
z_goto (tgt := 5) X dX9_feet_106 (by decide) <|
z_sub (L1 := [(0, .ref (G.2.2.1 17)), (1, .int (pI p1)), (2, .int (pI p2)), (3, .int (pI r16)), (4, .int (pI (w32 (x1.2 + 1))))]) X [4, 5, 6, 1, 0] rfl <|
ok_some o ⟨h18, (w32_rg _)⟩) fun o =>
z_iload X 0 dX9_feet_94 rfl <|
z_iload_n X 5 dX9_feet_96 rfl <|
z_icmp_ge (tgt := 103) X dX9_feet_97 (by decide) h18 r3.1 o (fun o =>
z_iinc (L1 := [(4, .int (pI (w32 (x1.2 + 1)))), (8, .int (pI r16)), (7, .int (pI y13)), (0, .ref (G.2.2.1 17)), (1, .int (pI p1)), (2, .int (pI p2)), (3, .int (pI x1.1))]) X 6 dX9_feet_103 rfl (by decide) rfl <|
z_goto (tgt := 5) X dX9_feet_106 (by decide) <|
z_sub (L1 := [(0, .ref (G.2.2.1 17)), (1, .int (pI p1)), (2, .int (pI p2)), (3, .int (pI x1.1)), (4, .int (pI (w32 (x1.2 + 1))))]) X [3, 4, 5, 6, 0] rfl <|
ok_some o ⟨r3.1, (w32_rg _)⟩) fun o =>
z_iload X 0 dX9_feet_100 rfl <|
z_istore_n (L1 := [(3, .int (pI r16)), (8, .int (pI r16)), (7, .int (pI y13)), (0, .ref (G.2.2.1 17)), (1, .int (pI p1)), (2, .int (pI p2)), (4, .int (pI x1.2))]) X dX9_feet_102 rfl (by decide) rfl <|
z_iinc (L1 := [(4, .int (pI (w32 (x1.2 + 1)))), (3, .int (pI r16)), (8, .int (pI r16)), (7, .int (pI y13)), (0, .ref (G.2.2.1 17)), (1, .int (pI p1)), (2, .int (pI p2))]) X 6 dX9_feet_103 rfl (by decide) rfl <|
z_goto (tgt := 5) X dX9_feet_106 (by decide) <|
z_sub (L1 := [(0, .ref (G.2.2.1 17)), (1, .int (pI p1)), (2, .int (pI p2)), (3, .int (pI r16)), (4, .int (pI (w32 (x1.2 + 1))))]) X [4, 5, 6, 1, 0] rfl <|
ok_some o ⟨h18, (w32_rg _)⟩) fun o =>
z_icmp_ne (tgt := 53) X dX9_feet_44 (by decide) h9 hp1 o (fun o =>
z_iload X 1 dX9_feet_53 rfl <|
z_iload_n X 4 dX9_feet_55 rfl <|
z_icmp_ne (tgt := 69) X dX9_feet_56 (by decide) h9 hp2 o (fun o =>
z_iconst X dX9_feet_69 <|
z_sub (L1 := [(0, .ref (G.2.2.1 17)), (1, .int (pI p1)), (2, .int (pI p2)), (3, .int (pI x1.1)), (4, .int (pI x1.2))]) X [2, 3, 4, 5, 6] rfl <|
ok_some o kb_0) fun o =>
z_iload X 0 dX9_feet_59 rfl <|
z_iload_n X 3 dX9_feet_61 rfl <|
z_icmp_ne (tgt := 69) X dX9_feet_62 (by decide) h12 hp1 o (fun o =>
z_iconst X dX9_feet_69 <|
z_sub (L1 := [(0, .ref (G.2.2.1 17)), (1, .int (pI p1)), (2, .int (pI p2)), (3, .int (pI x1.1)), (4, .int (pI x1.2))]) X [2, 3, 4, 5, 6] rfl <|
ok_some o kb_0) fun o =>
z_iconst X dX9_feet_65 <|
z_goto (tgt := 70) X dX9_feet_66 (by decide) <|
z_sub (L1 := [(0, .ref (G.2.2.1 17)), (1, .int (pI p1)), (2, .int (pI p2)), (3, .int (pI x1.1)), (4, .int (pI x1.2))]) X [2, 3, 4, 5, 6] rfl <|
ok_some o kb_1) fun o =>
z_iload X 0 dX9_feet_47 rfl <|
z_iload_n X 4 dX9_feet_49 rfl <|
z_icmp_eq (tgt := 65) X dX9_feet_50 (by decide) h12 hp2 o (fun o =>
z_iconst X dX9_feet_65 <|
z_goto (tgt := 70) X dX9_feet_66 (by decide) <|
z_sub (L1 := [(0, .ref (G.2.2.1 17)), (1, .int (pI p1)), (2, .int (pI p2)), (3, .int (pI x1.1)), (4, .int (pI x1.2))]) X [2, 3, 4, 5, 6] rfl <|
ok_some o kb_1) fun o =>
z_iload X 1 dX9_feet_53 rfl <|
z_iload_n X 4 dX9_feet_55 rfl <|
z_icmp_ne (tgt := 69) X dX9_feet_56 (by decide) h9 hp2 o (fun o =>
z_iconst X dX9_feet_69 <|
z_sub (L1 := [(0, .ref (G.2.2.1 17)), (1, .int (pI p1)), (2, .int (pI p2)), (3, .int (pI x1.1)), (4, .int (pI x1.2))]) X [2, 3, 4, 5, 6] rfl <|
ok_some o kb_0) fun o =>
z_iload X 0 dX9_feet_59 rfl <|
z_iload_n X 3 dX9_feet_61 rfl <|
z_icmp_ne (tgt := 69) X dX9_feet_62 (by decide) h12 hp1 o (fun o =>
z_iconst X dX9_feet_69 <|
z_sub (L1 := [(0, .ref (G.2.2.1 17)), (1, .int (pI p1)), (2, .int (pI p2)), (3, .int (pI x1.1)), (4, .int (pI x1.2))]) X [2, 3, 4, 5, 6] rfl <|
ok_some o kb_0) fun o =>
z_iconst X dX9_feet_65 <|
z_goto (tgt := 70) X dX9_feet_66 (by decide) <|
z_sub (L1 := [(0, .ref (G.2.2.1 17)), (1, .int (pI p1)), (2, .int (pI p2)), (3, .int (pI x1.1)), (4, .int (pI x1.2))]) X [2, 3, 4, 5, 6] rfl <|
ok_some o kb_1) ⟨kc_m1, kc_0⟩ : At E s0 0 [(0, .ref (G.2.2.1 17)), (1, .int (pI p1)), (2, .int (pI p2))] [])
set_option maxHeartbeats 4000000 in
set_option maxRecDepth 100000 in
theorem ct_X1_hearsNow (p1 : Int) (p2 : Int) (p3 : Int) (hp1 : rg p1) (hp2 : rg p2) (hp3 : rg p3) (G : Gw) (s0 : St) (r : Int) (σ1 : St) (e : fX1_hearsNow p1 p2 p3 s0 = some (r, σ1)) : Ct yX1_hearsNow cX1_hearsNow 6 (some .boolean) 3 76 SX G [.ref (G.2.2.1 152), .int (pI p1), .int (pI p2), .int (pI p3)] s0 (QI SX G r r01 σ1) :=
  Ct.of (by decide +kernel) (Nat.le_of_ble_eq_true rfl) fun E X Y => by
    have o : Ok (fX1_hearsNow p1 p2 p3 s0) (fun x σ' => x = r ∧ σ' = σ1) := ⟨r, σ1, e, rfl, rfl⟩
    unfold fX1_hearsNow at o
    exact (
z_aload_n X 0 dX1_hearsNow_0 rfl <|
z_getR (q := 3) X dX1_hearsNow_1 fl_X1_15 sx_152 rfl <|
z_getRN (q := 11) X dX1_hearsNow_4 fn_X1_126 sx_3 rfl <|
z_iload_n X 1 dX1_hearsNow_7 rfl <|
z_iald X dX1_hearsNow_8 sx_11 hp1 o fun v1 r2 o =>
z_istore (L1 := [(4, .int (pI v1)), (0, .ref (G.2.2.1 152)), (1, .int (pI p1)), (2, .int (pI p2)), (3, .int (pI p3))]) X dX1_hearsNow_9 (by decide) rfl <|
z_iload X 0 dX1_hearsNow_11 rfl <|
z_iconst X dX1_hearsNow_13 <|
z_icmp_ne (tgt := 19) X dX1_hearsNow_14 (by decide) r2 kc_m1 o (fun o =>
z_iload X 0 dX1_hearsNow_19 rfl <|
z_iload_n X 4 dX1_hearsNow_21 rfl <|
z_joix o (fun (y15 : Unit) s16 => True → At E s16 80 [(0, .ref (G.2.2.1 152)), (1, .int (pI p1))] []) (fun y15 s16 o r17 =>
z_aload_n X 0 dX1_hearsNow_80 rfl <|
z_getR (q := 3) X dX1_hearsNow_81 fl_X1_15 sx_152 rfl <|
z_getRN (q := 15) X dX1_hearsNow_84 fn_X1_157 sx_3 rfl <|
z_iload_n X 1 dX1_hearsNow_87 rfl <|
z_dup2 X dX1_hearsNow_88 rfl rfl <|
z_iald X dX1_hearsNow_89 sx_15 hp1 o fun v18 r19 o =>
z_iconst X dX1_hearsNow_90 <|
z_iadd X dX1_hearsNow_91 <|
z_iast X dX1_hearsNow_92 sx_15 hp1 (w32_rg _) o fun s20 o =>
z_iconst X dX1_hearsNow_93 <|
z_zret X Y dX1_hearsNow_94 o kb_1 kb_1) fun o =>
z_icmp_eq (tgt := 80) X dX1_hearsNow_22 (by decide) r2 hp3 o (fun o =>
z_sub (L1 := [(0, .ref (G.2.2.1 152)), (1, .int (pI p1))]) X [1, 2] rfl <|
ok_some o trivial) fun o =>
z_aload_n X 1 dX1_hearsNow_25 rfl <|
z_getR (q := 17) X dX1_hearsNow_26 fl_X1_19 sx_152 rfl <|
z_iload_n X 4 dX1_hearsNow_29 rfl <|
z_iload X 0 dX1_hearsNow_30 rfl <|
z_callvI X dX1_hearsNow_32 q_856 wX9_feet sx_17 rfl (by decide) [.int (pI p3), .int (pI v1)] [] rfl rfl (Nat.le_of_ble_eq_true rfl) (fun r σ1 e => ct_X9_feet p3 v1 hp3 r2 G _ r σ1 e) o fun r3 s4 h5 o =>
z_istore (L1 := [(5, .int (pI r3)), (4, .int (pI v1)), (0, .ref (G.2.2.1 152)), (1, .int (pI p1)), (2, .int (pI p2)), (3, .int (pI p3))]) X dX1_hearsNow_35 (by decide) rfl <|
z_iload X 0 dX1_hearsNow_37 rfl <|
z_iconst X dX1_hearsNow_39 <|
z_icmp_eq (tgt := 50) X dX1_hearsNow_40 (by decide) h5 kc_m1 o (fun o =>
z_iconst X dX1_hearsNow_50 <|
z_zret X Y dX1_hearsNow_51 (ok_ret (ok_some o)) kb_0 kb_0) fun o =>
z_iload X 0 dX1_hearsNow_43 rfl <|
z_bipush X dX1_hearsNow_45 bi_10 <|
z_icmp_le (tgt := 52) X dX1_hearsNow_47 (by decide) h5 kc_10 o (fun o =>
z_aload_n X 2 dX1_hearsNow_52 rfl <|
z_aload_n X 2 dX1_hearsNow_53 rfl <|
z_getR (q := 149) X dX1_hearsNow_54 fl_X1_23 sx_152 rfl <|
z_sipush X dX1_hearsNow_57 si_261 <|
z_iload_n X 3 dX1_hearsNow_60 rfl <|
z_iload_n X 5 dX1_hearsNow_61 rfl <|
z_callvI X dX1_hearsNow_62 q_813 wX3_tells sx_149 rfl (by decide) [.int (pI 261), .int (pI p1), .int (pI p3)] [.ref (G.2.2.1 152)] rfl rfl (Nat.le_of_ble_eq_true rfl) (fun r σ1 e => ct_X3_tells 261 p1 p3 kc_261 hp1 hp3 G _ r σ1 e) o fun r6 s7 h8 o =>
z_callvI X dX1_hearsNow_65 q_842 wX1_happens sx_152 rfl (by decide) [.int (pI r6)] [] rfl rfl (Nat.le_of_ble_eq_true rfl) (fun r σ1 e => ct_X1_happens r6 h8 G _ r σ1 e) o fun r9 s10 h11 o =>
z_if_ne (tgt := 73) X dX1_hearsNow_68 (by decide) (r01_rg h11) o (fun o =>
z_aload_n X 2 dX1_hearsNow_73 rfl <|
z_iconst X dX1_hearsNow_74 <|
z_iload_n X 3 dX1_hearsNow_75 rfl <|
z_iload_n X 4 dX1_hearsNow_76 rfl <|
z_callvV X dX1_hearsNow_77 q_753 wX1_write sx_152 rfl (by decide) [.int (pI 2), .int (pI p1), .int (pI p2)] [] rfl rfl (Nat.le_of_ble_eq_true rfl) (fun r σ1 e => ct_X1_write 2 p1 p2 kc_2 hp1 hp2 G _ r σ1 e) o fun r12 s13 o =>
z_sub (L1 := [(0, .ref (G.2.2.1 152)), (1, .int (pI p1))]) X [2, 3] rfl <|
ok_some o trivial) fun o =>
z_iconst X dX1_hearsNow_71 <|
z_zret X Y dX1_hearsNow_72 (ok_ret (ok_some o)) kb_0 kb_0) fun o =>
z_iconst X dX1_hearsNow_50 <|
z_zret X Y dX1_hearsNow_51 (ok_ret (ok_some o)) kb_0 kb_0) fun o =>
z_iconst X dX1_hearsNow_17 <|
z_zret X Y dX1_hearsNow_18 o kb_0 kb_0 : At E s0 0 [(0, .ref (G.2.2.1 152)), (1, .int (pI p1)), (2, .int (pI p2)), (3, .int (pI p3))] [])
set_option maxHeartbeats 4000000 in
set_option maxRecDepth 100000 in
theorem ct_X1_speaksNow (p1 : Int) (hp1 : rg p1) (G : Gw) (s0 : St) (r : Int) (σ1 : St) (e : fX1_speaksNow p1 s0 = some (r, σ1)) : Ct yX1_speaksNow cX1_speaksNow 5 (some .boolean) 4 101 SX G [.ref (G.2.2.1 152), .int (pI p1)] s0 (QI SX G r r01 σ1) :=
  Ct.of (by decide +kernel) (Nat.le_of_ble_eq_true rfl) fun E X Y => by
    have o : Ok (fX1_speaksNow p1 s0) (fun x σ' => x = r ∧ σ' = σ1) := ⟨r, σ1, e, rfl, rfl⟩
    unfold fX1_speaksNow at o
    exact (
z_aload_n X 0 dX1_speaksNow_0 rfl <|
z_getR (q := 3) X dX1_speaksNow_1 fl_X1_15 sx_152 rfl <|
z_getRN (q := 11) X dX1_speaksNow_4 fn_X1_126 sx_3 rfl <|
z_iload_n X 1 dX1_speaksNow_7 rfl <|
z_iald X dX1_speaksNow_8 sx_11 hp1 o fun v1 r2 o =>
z_istore_n (L1 := [(2, .int (pI v1)), (0, .ref (G.2.2.1 152)), (1, .int (pI p1))]) X dX1_speaksNow_9 rfl (by decide) rfl <|
z_iload_n X 0 dX1_speaksNow_10 rfl <|
z_iconst X dX1_speaksNow_11 <|
z_icmp_eq (tgt := 34) X dX1_speaksNow_12 (by decide) r2 kc_m1 o (fun o =>
z_iconst X dX1_speaksNow_34 <|
z_zret X Y dX1_speaksNow_35 o kb_0 kb_0) fun o =>
z_aload_n X 1 dX1_speaksNow_15 rfl <|
z_aload_n X 1 dX1_speaksNow_16 rfl <|
z_getR (q := 149) X dX1_speaksNow_17 fl_X1_23 sx_152 rfl <|
z_sipush X dX1_speaksNow_20 si_260 <|
z_iload_n X 2 dX1_speaksNow_23 rfl <|
z_iload_n X 0 dX1_speaksNow_24 rfl <|
z_callvI X dX1_speaksNow_25 q_813 wX3_tells sx_149 rfl (by decide) [.int (pI 260), .int (pI p1), .int (pI v1)] [.ref (G.2.2.1 152)] rfl rfl (Nat.le_of_ble_eq_true rfl) (fun r σ1 e => ct_X3_tells 260 p1 v1 kc_260 hp1 r2 G _ r σ1 e) o fun r3 s4 h5 o =>
z_callvI X dX1_speaksNow_28 q_842 wX1_happens sx_152 rfl (by decide) [.int (pI r3)] [] rfl rfl (Nat.le_of_ble_eq_true rfl) (fun r σ1 e => ct_X1_happens r3 h5 G _ r σ1 e) o fun r6 s7 h8 o =>
z_if_ne (tgt := 36) X dX1_speaksNow_31 (by decide) (r01_rg h8) o (fun o =>
z_aload_n X 1 dX1_speaksNow_36 rfl <|
z_getR (q := 3) X dX1_speaksNow_37 fl_X1_15 sx_152 rfl <|
z_getRN (q := 14) X dX1_speaksNow_40 fn_X1_147 sx_3 rfl <|
z_iload_n X 2 dX1_speaksNow_43 rfl <|
z_dup2 X dX1_speaksNow_44 rfl rfl <|
z_iald X dX1_speaksNow_45 sx_14 hp1 o fun v9 r10 o =>
z_iconst X dX1_speaksNow_46 <|
z_iadd X dX1_speaksNow_47 <|
z_iast X dX1_speaksNow_48 sx_14 hp1 (w32_rg _) o fun s11 o =>
z_iconst X dX1_speaksNow_49 <|
z_istore_n (L1 := [(3, .int (pI 0)), (2, .int (pI v1)), (0, .ref (G.2.2.1 152)), (1, .int (pI p1))]) X dX1_speaksNow_50 rfl (by decide) rfl <|
z_iconst X dX1_speaksNow_51 <|
z_istore (L1 := [(4, .int (pI 0)), (3, .int (pI 0)), (2, .int (pI v1)), (0, .ref (G.2.2.1 152)), (1, .int (pI p1))]) X dX1_speaksNow_52 (by decide) rfl <|
z_join o (fun (y20 : Int) s21 => rg y20 → At E s21 92 [(0, .ref (G.2.2.1 152)), (1, .int (pI p1)), (3, .int (pI y20))] []) (fun y20 s21 o r22 =>
z_aload_n X 0 dX1_speaksNow_92 rfl <|
z_iconst X dX1_speaksNow_93 <|
z_iload_n X 1 dX1_speaksNow_94 rfl <|
z_iload_n X 2 dX1_speaksNow_95 rfl <|
z_callvV X dX1_speaksNow_96 q_753 wX1_write sx_152 rfl (by decide) [.int (pI 1), .int (pI p1), .int (pI y20)] [] rfl rfl (Nat.le_of_ble_eq_true rfl) (fun r σ1 e => ct_X1_write 1 p1 y20 kc_1 hp1 r22 G _ r σ1 e) o fun r23 s24 o =>
z_iconst X dX1_speaksNow_99 <|
z_zret X Y dX1_speaksNow_100 o kb_1 kb_1) fun o =>
z_sub (L1 := [(0, .ref (G.2.2.1 152)), (1, .int (pI p1)), (2, .int (pI v1)), (3, .int (pI 0)), (4, .int (pI 0))]) X [3, 4, 2, 1, 0] rfl <|
z_iter (fun (x12 : Int × Int) s13 => rg x12.1 ∧ rg x12.2 → At E s13 54 [(0, .ref (G.2.2.1 152)), (1, .int (pI p1)), (2, .int (pI v1)), (3, .int (pI x12.1)), (4, .int (pI x12.2))] []) o (fun x12 s13 o r14 =>
z_iload X 4 dX1_speaksNow_54 rfl <|
z_aload_n X 0 dX1_speaksNow_56 rfl <|
z_getR (q := 3) X dX1_speaksNow_57 fl_X1_15 sx_152 rfl <|
z_getIN X dX1_speaksNow_60 fn_X1_46 sx_3 rfl o fun v15 r16 o =>
z_icmp_ge (tgt := 92) X dX1_speaksNow_63 (by decide) r14.2 r16 o (fun o =>
z_sub (L1 := [(0, .ref (G.2.2.1 152)), (1, .int (pI p1)), (3, .int (pI x12.1))]) X [0, 1, 3] rfl <|
ok_some o r14.1) fun o =>
z_iload X 4 dX1_speaksNow_66 rfl <|
z_iload_n X 1 dX1_speaksNow_68 rfl <|
z_icmp_eq (tgt := 86) X dX1_speaksNow_69 (by decide) r14.2 hp1 o (fun o =>
z_iinc (L1 := [(4, .int (pI (w32 (x12.2 + 1)))), (0, .ref (G.2.2.1 152)), (1, .int (pI p1)), (2, .int (pI v1)), (3, .int (pI x12.1))]) X 4 dX1_speaksNow_86 rfl (by decide) rfl <|
z_goto (tgt := 54) X dX1_speaksNow_89 (by decide) <|
z_sub (L1 := [(0, .ref (G.2.2.1 152)), (1, .int (pI p1)), (2, .int (pI v1)), (3, .int (pI x12.1)), (4, .int (pI (w32 (x12.2 + 1))))]) X [1, 2, 3, 4, 0] rfl <|
ok_some o ⟨r14.1, (w32_rg _)⟩) fun o =>
z_aload_n X 0 dX1_speaksNow_72 rfl <|
z_iload X 4 dX1_speaksNow_73 rfl <|
z_iload_n X 1 dX1_speaksNow_75 rfl <|
z_iload_n X 2 dX1_speaksNow_76 rfl <|
z_callvI X dX1_speaksNow_77 q_852 wX1_hearsNow sx_152 rfl (by decide) [.int (pI x12.2), .int (pI p1), .int (pI v1)] [] rfl rfl (Nat.le_of_ble_eq_true rfl) (fun r σ1 e => ct_X1_hearsNow x12.2 p1 v1 r14.2 hp1 r2 G _ r σ1 e) o fun r17 s18 h19 o =>
z_if_eq (tgt := 86) X dX1_speaksNow_80 (by decide) (r01_rg h19) o (fun o =>
z_iinc (L1 := [(4, .int (pI (w32 (x12.2 + 1)))), (0, .ref (G.2.2.1 152)), (1, .int (pI p1)), (2, .int (pI v1)), (3, .int (pI x12.1))]) X 4 dX1_speaksNow_86 rfl (by decide) rfl <|
z_goto (tgt := 54) X dX1_speaksNow_89 (by decide) <|
z_sub (L1 := [(0, .ref (G.2.2.1 152)), (1, .int (pI p1)), (2, .int (pI v1)), (3, .int (pI x12.1)), (4, .int (pI (w32 (x12.2 + 1))))]) X [1, 2, 3, 4, 0] rfl <|
ok_some o ⟨r14.1, (w32_rg _)⟩) fun o =>
z_iinc (L1 := [(3, .int (pI (w32 (x12.1 + 1)))), (0, .ref (G.2.2.1 152)), (1, .int (pI p1)), (2, .int (pI v1)), (4, .int (pI x12.2))]) X 3 dX1_speaksNow_83 rfl (by decide) rfl <|
z_iinc (L1 := [(4, .int (pI (w32 (x12.2 + 1)))), (3, .int (pI (w32 (x12.1 + 1)))), (0, .ref (G.2.2.1 152)), (1, .int (pI p1)), (2, .int (pI v1))]) X 4 dX1_speaksNow_86 rfl (by decide) rfl <|
z_goto (tgt := 54) X dX1_speaksNow_89 (by decide) <|
z_sub (L1 := [(0, .ref (G.2.2.1 152)), (1, .int (pI p1)), (2, .int (pI v1)), (3, .int (pI (w32 (x12.1 + 1)))), (4, .int (pI (w32 (x12.2 + 1))))]) X [2, 3, 4, 1, 0] rfl <|
ok_some o ⟨(w32_rg _), (w32_rg _)⟩) ⟨kc_0, kc_0⟩) fun o =>
z_iconst X dX1_speaksNow_34 <|
z_zret X Y dX1_speaksNow_35 o kb_0 kb_0 : At E s0 0 [(0, .ref (G.2.2.1 152)), (1, .int (pI p1))] [])
set_option maxHeartbeats 4000000 in
set_option maxRecDepth 100000 in
theorem ct_X1_stayOrRise   (G : Gw) (s0 : St) (r : Int) (σ1 : St) (e : fX1_stayOrRise s0 = some (r, σ1)) : Ct yX1_stayOrRise cX1_stayOrRise 2 none 2 42 SX G [.ref (G.2.2.1 152)] s0 (QV SX G σ1) :=
  Ct.of (by decide +kernel) (Nat.le_of_ble_eq_true rfl) fun E X Y => by
    have o : Ok (fX1_stayOrRise s0) (fun x σ' => x = r ∧ σ' = σ1) := ⟨r, σ1, e, rfl, rfl⟩
    unfold fX1_stayOrRise at o
    exact (
z_iconst X dX1_stayOrRise_0 <|
z_istore_n (L1 := [(1, .int (pI 0)), (0, .ref (G.2.2.1 152))]) X dX1_stayOrRise_1 rfl (by decide) rfl <|
z_join o (fun (y18 : Unit) s19 => True → At E s19 77 [] []) (fun y18 s19 o r20 =>
z_vret (v := 0) X Y dX1_stayOrRise_77 o) fun o =>
z_sub (L1 := [(0, .ref (G.2.2.1 152)), (1, .int (pI 0))]) X [1, 0] rfl <|
z_iter (fun (x1 : Int) s2 => rg x1 → At E s2 2 [(0, .ref (G.2.2.1 152)), (1, .int (pI x1))] []) o (fun x1 s2 o r3 =>
z_iload_n X 1 dX1_stayOrRise_2 rfl <|
z_aload_n X 0 dX1_stayOrRise_3 rfl <|
z_getR (q := 3) X dX1_stayOrRise_4 fl_X1_15 sx_152 rfl <|
z_getIN X dX1_stayOrRise_7 fn_X1_46 sx_3 rfl o fun v4 r5 o =>
z_icmp_ge (tgt := 77) X dX1_stayOrRise_10 (by decide) r3 r5 o (fun o =>
z_sub (L1 := []) X [] rfl <|
ok_some o trivial) fun o =>
z_aload_n X 0 dX1_stayOrRise_13 rfl <|
z_getR (q := 3) X dX1_stayOrRise_14 fl_X1_15 sx_152 rfl <|
z_getRN (q := 11) X dX1_stayOrRise_17 fn_X1_126 sx_3 rfl <|
z_iload_n X 1 dX1_stayOrRise_20 rfl <|
z_iald X dX1_stayOrRise_21 sx_11 r3 o fun v6 r7 o =>
z_iconst X dX1_stayOrRise_22 <|
z_icmp_ne (tgt := 29) X dX1_stayOrRise_23 (by decide) r7 kc_m1 o (fun o =>
z_aload_n X 0 dX1_stayOrRise_29 rfl <|
z_getR (q := 3) X dX1_stayOrRise_30 fl_X1_15 sx_152 rfl <|
z_getRN (q := 12) X dX1_stayOrRise_33 fn_X1_160 sx_3 rfl <|
z_iload_n X 1 dX1_stayOrRise_36 rfl <|
z_dup2 X dX1_stayOrRise_37 rfl rfl <|
z_iald X dX1_stayOrRise_38 sx_12 r3 o fun v8 r9 o =>
z_iconst X dX1_stayOrRise_39 <|
z_iadd X dX1_stayOrRise_40 <|
z_iast X dX1_stayOrRise_41 sx_12 r3 (w32_rg _) o fun s10 o =>
z_aload_n X 0 dX1_stayOrRise_42 rfl <|
z_getR (q := 3) X dX1_stayOrRise_43 fl_X1_15 sx_152 rfl <|
z_getRN (q := 12) X dX1_stayOrRise_46 fn_X1_160 sx_3 rfl <|
z_iload_n X 1 dX1_stayOrRise_49 rfl <|
z_iald X dX1_stayOrRise_50 sx_12 r3 o fun v11 r12 o =>
z_aload_n X 0 dX1_stayOrRise_51 rfl <|
z_getR (q := 3) X dX1_stayOrRise_52 fl_X1_15 sx_152 rfl <|
z_getRN (q := 13) X dX1_stayOrRise_55 fn_X1_163 sx_3 rfl <|
z_iload_n X 1 dX1_stayOrRise_58 rfl <|
z_iald X dX1_stayOrRise_59 sx_13 r3 o fun v13 r14 o =>
z_icmp_lt (tgt := 71) X dX1_stayOrRise_60 (by decide) r12 r14 o (fun o =>
z_iinc (L1 := [(1, .int (pI (w32 (x1 + 1)))), (0, .ref (G.2.2.1 152))]) X 1 dX1_stayOrRise_71 rfl (by decide) rfl <|
z_goto (tgt := 2) X dX1_stayOrRise_74 (by decide) <|
z_sub (L1 := [(0, .ref (G.2.2.1 152)), (1, .int (pI (w32 (x1 + 1))))]) X [1, 0] rfl <|
ok_some o (w32_rg _)) fun o =>
z_aload_n X 0 dX1_stayOrRise_63 rfl <|
z_getR (q := 3) X dX1_stayOrRise_64 fl_X1_15 sx_152 rfl <|
z_iload_n X 1 dX1_stayOrRise_67 rfl <|
z_callvV X dX1_stayOrRise_68 q_808 wX2_rise sx_3 rfl (by decide) [.int (pI x1)] [] rfl rfl (Nat.le_of_ble_eq_true rfl) (fun r σ1 e => ct_X2_rise x1 r3 G _ r σ1 e) o fun r15 s16 o =>
z_iinc (L1 := [(1, .int (pI (w32 (x1 + 1)))), (0, .ref (G.2.2.1 152))]) X 1 dX1_stayOrRise_71 rfl (by decide) rfl <|
z_goto (tgt := 2) X dX1_stayOrRise_74 (by decide) <|
z_sub (L1 := [(0, .ref (G.2.2.1 152)), (1, .int (pI (w32 (x1 + 1))))]) X [1, 0] rfl <|
ok_some o (w32_rg _)) fun o =>
z_goto (tgt := 71) X dX1_stayOrRise_26 (by decide) <|
z_iinc (L1 := [(1, .int (pI (w32 (x1 + 1)))), (0, .ref (G.2.2.1 152))]) X 1 dX1_stayOrRise_71 rfl (by decide) rfl <|
z_goto (tgt := 2) X dX1_stayOrRise_74 (by decide) <|
z_sub (L1 := [(0, .ref (G.2.2.1 152)), (1, .int (pI (w32 (x1 + 1))))]) X [1, 0] rfl <|
ok_some o (w32_rg _)) kc_0 : At E s0 0 [(0, .ref (G.2.2.1 152))] [])
set_option maxHeartbeats 4000000 in
set_option maxRecDepth 100000 in
theorem ct_X1_acceptAt (p1 : Int) (hp1 : rg p1) (G : Gw) (s0 : St) (r : Int) (σ1 : St) (e : fX1_acceptAt p1 s0 = some (r, σ1)) : Ct yX1_acceptAt cX1_acceptAt 5 none 3 75 SX G [.ref (G.2.2.1 152), .int (pI p1)] s0 (QV SX G σ1) :=
  Ct.of (by decide +kernel) (Nat.le_of_ble_eq_true rfl) fun E X Y => by
    have o : Ok (fX1_acceptAt p1 s0) (fun x σ' => x = r ∧ σ' = σ1) := ⟨r, σ1, e, rfl, rfl⟩
    unfold fX1_acceptAt at o
    exact (
z_aload_n X 0 dX1_acceptAt_0 rfl <|
z_getR (q := 3) X dX1_acceptAt_1 fl_X1_15 sx_152 rfl <|
z_getRN (q := 7) X dX1_acceptAt_4 fn_X1_117 sx_3 rfl <|
z_iload_n X 1 dX1_acceptAt_7 rfl <|
z_iald X dX1_acceptAt_8 sx_7 hp1 o fun v1 r2 o =>
z_istore_n (L1 := [(2, .int (pI v1)), (0, .ref (G.2.2.1 152)), (1, .int (pI p1))]) X dX1_acceptAt_9 rfl (by decide) rfl <|
z_aload_n X 1 dX1_acceptAt_10 rfl <|
z_getR (q := 3) X dX1_acceptAt_11 fl_X1_15 sx_152 rfl <|
z_iload_n X 0 dX1_acceptAt_14 rfl <|
z_callvI X dX1_acceptAt_15 q_801 wX2_hasPerson sx_3 rfl (by decide) [.int (pI v1)] [] rfl rfl (Nat.le_of_ble_eq_true rfl) (fun r σ1 e => ct_X2_hasPerson v1 r2 G _ r σ1 e) o fun r3 s4 h5 o =>
z_if_eq (tgt := 34) X dX1_acceptAt_18 (by decide) (r01_rg h5) o (fun o =>
z_vret (v := 0) X Y dX1_acceptAt_34 o) fun o =>
z_aload_n X 1 dX1_acceptAt_21 rfl <|
z_getR (q := 3) X dX1_acceptAt_22 fl_X1_15 sx_152 rfl <|
z_getRN (q := 11) X dX1_acceptAt_25 fn_X1_126 sx_3 rfl <|
z_iload_n X 0 dX1_acceptAt_28 rfl <|
z_iald X dX1_acceptAt_29 sx_11 r2 o fun v6 r7 o =>
z_iload_n X 2 dX1_acceptAt_30 rfl <|
z_icmp_eq (tgt := 35) X dX1_acceptAt_31 (by decide) r7 hp1 o (fun o =>
z_iconst X dX1_acceptAt_35 <|
z_istore_n (L1 := [(3, .int (pI 0)), (2, .int (pI v1)), (0, .ref (G.2.2.1 152)), (1, .int (pI p1))]) X dX1_acceptAt_36 rfl (by decide) rfl <|
z_join o (fun (y24 : Unit) s25 => True → At E s25 117 [] []) (fun y24 s25 o r26 =>
z_vret (v := 0) X Y dX1_acceptAt_117 o) fun o =>
z_sub (L1 := [(0, .ref (G.2.2.1 152)), (1, .int (pI p1)), (2, .int (pI v1)), (3, .int (pI 0))]) X [2, 3, 1, 0] rfl <|
z_iter (fun (x8 : Int) s9 => rg x8 → At E s9 37 [(0, .ref (G.2.2.1 152)), (1, .int (pI p1)), (2, .int (pI v1)), (3, .int (pI x8))] []) o (fun x8 s9 o r10 =>
z_iload_n X 3 dX1_acceptAt_37 rfl <|
z_aload_n X 0 dX1_acceptAt_38 rfl <|
z_getR (q := 3) X dX1_acceptAt_39 fl_X1_15 sx_152 rfl <|
z_getIN X dX1_acceptAt_42 fn_X1_46 sx_3 rfl o fun v11 r12 o =>
z_icmp_ge (tgt := 117) X dX1_acceptAt_45 (by decide) r10 r12 o (fun o =>
z_sub (L1 := []) X [] rfl <|
ok_some o trivial) fun o =>
z_aload_n X 0 dX1_acceptAt_48 rfl <|
z_getR (q := 3) X dX1_acceptAt_49 fl_X1_15 sx_152 rfl <|
z_getRN (q := 11) X dX1_acceptAt_52 fn_X1_126 sx_3 rfl <|
z_iload_n X 3 dX1_acceptAt_55 rfl <|
z_iald X dX1_acceptAt_56 sx_11 r10 o fun v13 r14 o =>
z_iload_n X 1 dX1_acceptAt_57 rfl <|
z_join o (fun (y15 : Int) s16 => r01 y15 → At E s16 71 [(0, .ref (G.2.2.1 152)), (1, .int (pI p1)), (2, .int (pI v1)), (3, .int (pI x8))] [.int (pI y15)]) (fun y15 s16 o r17 =>
z_istore (L1 := [(4, .int (pI y15)), (0, .ref (G.2.2.1 152)), (1, .int (pI p1)), (2, .int (pI v1)), (3, .int (pI x8))]) X dX1_acceptAt_71 (by decide) rfl <|
z_iload X 0 dX1_acceptAt_73 rfl <|
z_if_eq (tgt := 111) X dX1_acceptAt_75 (by decide) (r01_rg r17) o (fun o =>
z_iinc (L1 := [(3, .int (pI (w32 (x8 + 1)))), (4, .int (pI y15)), (0, .ref (G.2.2.1 152)), (1, .int (pI p1)), (2, .int (pI v1))]) X 4 dX1_acceptAt_111 rfl (by decide) rfl <|
z_goto (tgt := 37) X dX1_acceptAt_114 (by decide) <|
z_sub (L1 := [(0, .ref (G.2.2.1 152)), (1, .int (pI p1)), (2, .int (pI v1)), (3, .int (pI (w32 (x8 + 1))))]) X [2, 3, 4, 0] rfl <|
ok_some o (w32_rg _)) fun o =>
z_aload_n X 1 dX1_acceptAt_78 rfl <|
z_getR (q := 3) X dX1_acceptAt_79 fl_X1_15 sx_152 rfl <|
z_getRN (q := 16) X dX1_acceptAt_82 fn_X1_172 sx_3 rfl <|
z_iload_n X 4 dX1_acceptAt_85 rfl <|
z_iald X dX1_acceptAt_86 sx_16 r10 o fun v18 r19 o =>
z_iconst X dX1_acceptAt_87 <|
z_icmp_eq (tgt := 94) X dX1_acceptAt_88 (by decide) r19 kc_m1 o (fun o =>
z_aload_n X 1 dX1_acceptAt_94 rfl <|
z_getR (q := 3) X dX1_acceptAt_95 fl_X1_15 sx_152 rfl <|
z_getRN (q := 16) X dX1_acceptAt_98 fn_X1_172 sx_3 rfl <|
z_iload_n X 4 dX1_acceptAt_101 rfl <|
z_iload_n X 3 dX1_acceptAt_102 rfl <|
z_iast X dX1_acceptAt_103 sx_16 r10 r2 o fun s20 o =>
z_aload_n X 1 dX1_acceptAt_104 rfl <|
z_iconst X dX1_acceptAt_105 <|
z_iload_n X 4 dX1_acceptAt_106 rfl <|
z_iload_n X 3 dX1_acceptAt_107 rfl <|
z_callvV X dX1_acceptAt_108 q_753 wX1_write sx_152 rfl (by decide) [.int (pI 3), .int (pI x8), .int (pI v1)] [] rfl rfl (Nat.le_of_ble_eq_true rfl) (fun r σ1 e => ct_X1_write 3 x8 v1 kc_3 r10 r2 G _ r σ1 e) o fun r21 s22 o =>
z_iinc (L1 := [(3, .int (pI (w32 (x8 + 1)))), (4, .int (pI y15)), (0, .ref (G.2.2.1 152)), (1, .int (pI p1)), (2, .int (pI v1))]) X 4 dX1_acceptAt_111 rfl (by decide) rfl <|
z_goto (tgt := 37) X dX1_acceptAt_114 (by decide) <|
z_sub (L1 := [(0, .ref (G.2.2.1 152)), (1, .int (pI p1)), (2, .int (pI v1)), (3, .int (pI (w32 (x8 + 1))))]) X [2, 3, 4, 0] rfl <|
ok_some o (w32_rg _)) fun o =>
z_goto (tgt := 111) X dX1_acceptAt_91 (by decide) <|
z_iinc (L1 := [(3, .int (pI (w32 (x8 + 1)))), (4, .int (pI y15)), (0, .ref (G.2.2.1 152)), (1, .int (pI p1)), (2, .int (pI v1))]) X 4 dX1_acceptAt_111 rfl (by decide) rfl <|
z_goto (tgt := 37) X dX1_acceptAt_114 (by decide) <|
z_sub (L1 := [(0, .ref (G.2.2.1 152)), (1, .int (pI p1)), (2, .int (pI v1)), (3, .int (pI (w32 (x8 + 1))))]) X [2, 3, 4, 0] rfl <|
ok_some o (w32_rg _)) fun o =>
z_icmp_ne (tgt := 70) X dX1_acceptAt_58 (by decide) r14 hp1 o (fun o =>
z_iconst X dX1_acceptAt_70 <|
ok_some o kb_0) fun o =>
z_iload_n X 3 dX1_acceptAt_61 rfl <|
z_iload_n X 2 dX1_acceptAt_62 rfl <|
z_icmp_eq (tgt := 70) X dX1_acceptAt_63 (by decide) r10 r2 o (fun o =>
z_iconst X dX1_acceptAt_70 <|
ok_some o kb_0) fun o =>
z_iconst X dX1_acceptAt_66 <|
z_goto (tgt := 71) X dX1_acceptAt_67 (by decide) <|
ok_some o kb_1) kc_0) fun o =>
z_vret (v := 0) X Y dX1_acceptAt_34 o : At E s0 0 [(0, .ref (G.2.2.1 152)), (1, .int (pI p1))] [])
set_option maxHeartbeats 4000000 in
set_option maxRecDepth 100000 in
theorem ct_X1_burnLamps   (G : Gw) (s0 : St) (r : Int) (σ1 : St) (e : fX1_burnLamps s0 = some (r, σ1)) : Ct yX1_burnLamps cX1_burnLamps 2 none 4 99 SX G [.ref (G.2.2.1 152)] s0 (QV SX G σ1) :=
  Ct.of (by decide +kernel) (Nat.le_of_ble_eq_true rfl) fun E X Y => by
    have o : Ok (fX1_burnLamps s0) (fun x σ' => x = r ∧ σ' = σ1) := ⟨r, σ1, e, rfl, rfl⟩
    unfold fX1_burnLamps at o
    exact (
z_iconst X dX1_burnLamps_0 <|
z_istore_n (L1 := [(1, .int (pI 0)), (0, .ref (G.2.2.1 152))]) X dX1_burnLamps_1 rfl (by decide) rfl <|
z_join o (fun (y16 : Unit) s17 => True → At E s17 64 [] []) (fun y16 s17 o r18 =>
z_vret (v := 0) X Y dX1_burnLamps_64 o) fun o =>
z_sub (L1 := [(0, .ref (G.2.2.1 152)), (1, .int (pI 0))]) X [1, 0] rfl <|
z_iter (fun (x1 : Int) s2 => rg x1 → At E s2 2 [(0, .ref (G.2.2.1 152)), (1, .int (pI x1))] []) o (fun x1 s2 o r3 =>
z_iload_n X 1 dX1_burnLamps_2 rfl <|
z_aload_n X 0 dX1_burnLamps_3 rfl <|
z_getR (q := 3) X dX1_burnLamps_4 fl_X1_15 sx_152 rfl <|
z_getIN X dX1_burnLamps_7 fn_X1_166 sx_3 rfl o fun v4 r5 o =>
z_icmp_ge (tgt := 64) X dX1_burnLamps_10 (by decide) r3 r5 o (fun o =>
z_sub (L1 := []) X [] rfl <|
ok_some o trivial) fun o =>
z_aload_n X 0 dX1_burnLamps_13 rfl <|
z_getR (q := 3) X dX1_burnLamps_14 fl_X1_15 sx_152 rfl <|
z_getRN (q := 5) X dX1_burnLamps_17 fn_X1_110 sx_3 rfl <|
z_iload_n X 1 dX1_burnLamps_20 rfl <|
z_iald X dX1_burnLamps_21 sx_5 r3 o fun v6 r7 o =>
z_if_ne (tgt := 28) X dX1_burnLamps_22 (by decide) r7 o (fun o =>
z_aload_n X 0 dX1_burnLamps_28 rfl <|
z_getR (q := 3) X dX1_burnLamps_29 fl_X1_15 sx_152 rfl <|
z_getRN (q := 5) X dX1_burnLamps_32 fn_X1_110 sx_3 rfl <|
z_iload_n X 1 dX1_burnLamps_35 rfl <|
z_dup2 X dX1_burnLamps_36 rfl rfl <|
z_iald X dX1_burnLamps_37 sx_5 r3 o fun v8 r9 o =>
z_iconst X dX1_burnLamps_38 <|
z_isub X dX1_burnLamps_39 <|
z_iast X dX1_burnLamps_40 sx_5 r3 (w32_rg _) o fun s10 o =>
z_aload_n X 0 dX1_burnLamps_41 rfl <|
z_getR (q := 3) X dX1_burnLamps_42 fl_X1_15 sx_152 rfl <|
z_getRN (q := 5) X dX1_burnLamps_45 fn_X1_110 sx_3 rfl <|
z_iload_n X 1 dX1_burnLamps_48 rfl <|
z_iald X dX1_burnLamps_49 sx_5 r3 o fun v11 r12 o =>
z_if_ne (tgt := 58) X dX1_burnLamps_50 (by decide) r12 o (fun o =>
z_iinc (L1 := [(1, .int (pI (w32 (x1 + 1)))), (0, .ref (G.2.2.1 152))]) X 1 dX1_burnLamps_58 rfl (by decide) rfl <|
z_goto (tgt := 2) X dX1_burnLamps_61 (by decide) <|
z_sub (L1 := [(0, .ref (G.2.2.1 152)), (1, .int (pI (w32 (x1 + 1))))]) X [1, 0] rfl <|
ok_some o (w32_rg _)) fun o =>
z_aload_n X 0 dX1_burnLamps_53 rfl <|
z_iload_n X 1 dX1_burnLamps_54 rfl <|
z_callvV X dX1_burnLamps_55 q_870 wX1_acceptAt sx_152 rfl (by decide) [.int (pI x1)] [] rfl rfl (Nat.le_of_ble_eq_true rfl) (fun r σ1 e => ct_X1_acceptAt x1 r3 G _ r σ1 e) o fun r13 s14 o =>
z_iinc (L1 := [(1, .int (pI (w32 (x1 + 1)))), (0, .ref (G.2.2.1 152))]) X 1 dX1_burnLamps_58 rfl (by decide) rfl <|
z_goto (tgt := 2) X dX1_burnLamps_61 (by decide) <|
z_sub (L1 := [(0, .ref (G.2.2.1 152)), (1, .int (pI (w32 (x1 + 1))))]) X [1, 0] rfl <|
ok_some o (w32_rg _)) fun o =>
z_goto (tgt := 58) X dX1_burnLamps_25 (by decide) <|
z_iinc (L1 := [(1, .int (pI (w32 (x1 + 1)))), (0, .ref (G.2.2.1 152))]) X 1 dX1_burnLamps_58 rfl (by decide) rfl <|
z_goto (tgt := 2) X dX1_burnLamps_61 (by decide) <|
z_sub (L1 := [(0, .ref (G.2.2.1 152)), (1, .int (pI (w32 (x1 + 1))))]) X [1, 0] rfl <|
ok_some o (w32_rg _)) kc_0 : At E s0 0 [(0, .ref (G.2.2.1 152))] [])
set_option maxHeartbeats 4000000 in
set_option maxRecDepth 100000 in
theorem ct_X1_spinCobwebs   (G : Gw) (s0 : St) (r : Int) (σ1 : St) (e : fX1_spinCobwebs s0 = some (r, σ1)) : Ct yX1_spinCobwebs cX1_spinCobwebs 3 none 3 76 SX G [.ref (G.2.2.1 152)] s0 (QV SX G σ1) :=
  Ct.of (by decide +kernel) (Nat.le_of_ble_eq_true rfl) fun E X Y => by
    have o : Ok (fX1_spinCobwebs s0) (fun x σ' => x = r ∧ σ' = σ1) := ⟨r, σ1, e, rfl, rfl⟩
    unfold fX1_spinCobwebs at o
    exact (
z_iconst X dX1_spinCobwebs_0 <|
z_istore_n (L1 := [(1, .int (pI 0)), (0, .ref (G.2.2.1 152))]) X dX1_spinCobwebs_1 rfl (by decide) rfl <|
z_join o (fun (y14 : Unit) s15 => True → At E s15 72 [] []) (fun y14 s15 o r16 =>
z_vret (v := 0) X Y dX1_spinCobwebs_72 o) fun o =>
z_sub (L1 := [(0, .ref (G.2.2.1 152)), (1, .int (pI 0))]) X [1, 0] rfl <|
z_iter (fun (x1 : Int) s2 => rg x1 → At E s2 2 [(0, .ref (G.2.2.1 152)), (1, .int (pI x1))] []) o (fun x1 s2 o r3 =>
z_iload_n X 1 dX1_spinCobwebs_2 rfl <|
z_aload_n X 0 dX1_spinCobwebs_3 rfl <|
z_getR (q := 3) X dX1_spinCobwebs_4 fl_X1_15 sx_152 rfl <|
z_getIN X dX1_spinCobwebs_7 fn_X1_166 sx_3 rfl o fun v4 r5 o =>
z_icmp_ge (tgt := 72) X dX1_spinCobwebs_10 (by decide) r3 r5 o (fun o =>
z_sub (L1 := []) X [] rfl <|
ok_some o trivial) fun o =>
z_aload_n X 0 dX1_spinCobwebs_13 rfl <|
z_getR (q := 3) X dX1_spinCobwebs_14 fl_X1_15 sx_152 rfl <|
z_getRN (q := 8) X dX1_spinCobwebs_17 fn_X1_175 sx_3 rfl <|
z_iload_n X 1 dX1_spinCobwebs_20 rfl <|
z_iald X dX1_spinCobwebs_21 sx_8 r3 o fun v6 r7 o =>
z_if_le (tgt := 28) X dX1_spinCobwebs_22 (by decide) r7 o (fun o =>
z_aload_n X 0 dX1_spinCobwebs_28 rfl <|
z_getR (q := 149) X dX1_spinCobwebs_29 fl_X1_23 sx_152 rfl <|
z_sipush X dX1_spinCobwebs_32 si_262 <|
z_iconst X dX1_spinCobwebs_35 <|
z_iload_n X 1 dX1_spinCobwebs_36 rfl <|
z_callvI X dX1_spinCobwebs_37 q_813 wX3_tells sx_149 rfl (by decide) [.int (pI 262), .int (pI (-1)), .int (pI x1)] [] rfl rfl (Nat.le_of_ble_eq_true rfl) (fun r σ1 e => ct_X3_tells 262 (-1) x1 kc_262 kc_m1 r3 G _ r σ1 e) o fun r8 s9 h10 o =>
z_istore_n (L1 := [(2, .int (pI r8)), (0, .ref (G.2.2.1 152)), (1, .int (pI x1))]) X dX1_spinCobwebs_40 rfl (by decide) rfl <|
z_aload_n X 1 dX1_spinCobwebs_41 rfl <|
z_getR (q := 3) X dX1_spinCobwebs_42 fl_X1_15 sx_152 rfl <|
z_getRN (q := 6) X dX1_spinCobwebs_45 fn_X1_75 sx_3 rfl <|
z_iload_n X 2 dX1_spinCobwebs_48 rfl <|
z_bipush X dX1_spinCobwebs_49 bi_99 <|
z_aload_n X 1 dX1_spinCobwebs_51 rfl <|
z_getR (q := 3) X dX1_spinCobwebs_52 fl_X1_15 sx_152 rfl <|
z_getRN (q := 6) X dX1_spinCobwebs_55 fn_X1_75 sx_3 rfl <|
z_iload_n X 2 dX1_spinCobwebs_58 rfl <|
z_iald X dX1_spinCobwebs_59 sx_6 r3 o fun v11 r12 o =>
z_iload_n X 0 dX1_spinCobwebs_60 rfl <|
z_iadd X dX1_spinCobwebs_61 <|
z_mmin X dX1_spinCobwebs_62 q_878 q_837 q_174 q_838 (by decide) (Nat.le_of_ble_eq_true rfl) kc_99 (w32_rg _) <|
z_iast X dX1_spinCobwebs_65 sx_6 r3 (imn_rg kc_99 (w32_rg _)) o fun s13 o =>
z_iinc (L1 := [(1, .int (pI (w32 (x1 + 1)))), (2, .int (pI r8)), (0, .ref (G.2.2.1 152))]) X 2 dX1_spinCobwebs_66 rfl (by decide) rfl <|
z_goto (tgt := 2) X dX1_spinCobwebs_69 (by decide) <|
z_sub (L1 := [(0, .ref (G.2.2.1 152)), (1, .int (pI (w32 (x1 + 1))))]) X [2, 0] rfl <|
ok_some o (w32_rg _)) fun o =>
z_goto (tgt := 66) X dX1_spinCobwebs_25 (by decide) <|
z_iinc (L1 := [(1, .int (pI (w32 (x1 + 1)))), (0, .ref (G.2.2.1 152))]) X 1 dX1_spinCobwebs_66 rfl (by decide) rfl <|
z_goto (tgt := 2) X dX1_spinCobwebs_69 (by decide) <|
z_sub (L1 := [(0, .ref (G.2.2.1 152)), (1, .int (pI (w32 (x1 + 1))))]) X [1, 0] rfl <|
ok_some o (w32_rg _)) kc_0 : At E s0 0 [(0, .ref (G.2.2.1 152))] [])
set_option maxHeartbeats 4000000 in
set_option maxRecDepth 100000 in
theorem ct_X1_turnClock   (G : Gw) (s0 : St) (r : Int) (σ1 : St) (e : fX1_turnClock s0 = some (r, σ1)) : Ct yX1_turnClock cX1_turnClock 2 none 2 42 SX G [.ref (G.2.2.1 152)] s0 (QV SX G σ1) :=
  Ct.of (by decide +kernel) (Nat.le_of_ble_eq_true rfl) fun E X Y => by
    have o : Ok (fX1_turnClock s0) (fun x σ' => x = r ∧ σ' = σ1) := ⟨r, σ1, e, rfl, rfl⟩
    unfold fX1_turnClock at o
    exact (
z_aload_n X 0 dX1_turnClock_0 rfl <|
z_getR (q := 3) X dX1_turnClock_1 fl_X1_15 sx_152 rfl <|
z_dup X dX1_turnClock_4 rfl <|
z_getIN X dX1_turnClock_5 fn_X1_31 sx_3 rfl o fun v1 r2 o =>
z_iconst X dX1_turnClock_8 <|
z_iadd X dX1_turnClock_9 <|
z_putIN X dX1_turnClock_10 fn_X1_31 sx_3 ft_X2_1 rfl (w32_rg _) o fun s3 o =>
z_aload_n X 0 dX1_turnClock_13 rfl <|
z_getR (q := 3) X dX1_turnClock_14 fl_X1_15 sx_152 rfl <|
z_getIN X dX1_turnClock_17 fn_X1_31 sx_3 rfl o fun v4 r5 o =>
z_bipush X dX1_turnClock_20 bi_60 <|
z_icmp_ge (tgt := 26) X dX1_turnClock_22 (by decide) r5 kc_60 o (fun o =>
z_aload_n X 0 dX1_turnClock_26 rfl <|
z_getR (q := 3) X dX1_turnClock_27 fl_X1_15 sx_152 rfl <|
z_iconst X dX1_turnClock_30 <|
z_putIN X dX1_turnClock_31 fn_X1_31 sx_3 ft_X2_1 rfl kc_0 o fun s6 o =>
z_aload_n X 0 dX1_turnClock_34 rfl <|
z_getR (q := 3) X dX1_turnClock_35 fl_X1_15 sx_152 rfl <|
z_dup X dX1_turnClock_38 rfl <|
z_getIN X dX1_turnClock_39 fn_X1_82 sx_3 rfl o fun v7 r8 o =>
z_iconst X dX1_turnClock_42 <|
z_iadd X dX1_turnClock_43 <|
z_putIN X dX1_turnClock_44 fn_X1_82 sx_3 ft_X2_2 rfl (w32_rg _) o fun s9 o =>
z_iconst X dX1_turnClock_47 <|
z_istore_n (L1 := [(1, .int (pI 0)), (0, .ref (G.2.2.1 152))]) X dX1_turnClock_48 rfl (by decide) rfl <|
z_join o (fun (y18 : Unit) s19 => True → At E s19 74 [] []) (fun y18 s19 o r20 =>
z_vret (v := 0) X Y dX1_turnClock_74 o) fun o =>
z_sub (L1 := [(0, .ref (G.2.2.1 152)), (1, .int (pI 0))]) X [1, 0] rfl <|
z_iter (fun (x10 : Int) s11 => rg x10 → At E s11 49 [(0, .ref (G.2.2.1 152)), (1, .int (pI x10))] []) o (fun x10 s11 o r12 =>
z_iload_n X 1 dX1_turnClock_49 rfl <|
z_aload_n X 0 dX1_turnClock_50 rfl <|
z_getR (q := 3) X dX1_turnClock_51 fl_X1_15 sx_152 rfl <|
z_getIN X dX1_turnClock_54 fn_X1_46 sx_3 rfl o fun v13 r14 o =>
z_icmp_ge (tgt := 74) X dX1_turnClock_57 (by decide) r12 r14 o (fun o =>
z_sub (L1 := []) X [] rfl <|
ok_some o trivial) fun o =>
z_aload_n X 0 dX1_turnClock_60 rfl <|
z_getR (q := 3) X dX1_turnClock_61 fl_X1_15 sx_152 rfl <|
z_iload_n X 1 dX1_turnClock_64 rfl <|
z_callvV X dX1_turnClock_65 q_808 wX2_rise sx_3 rfl (by decide) [.int (pI x10)] [] rfl rfl (Nat.le_of_ble_eq_true rfl) (fun r σ1 e => ct_X2_rise x10 r12 G _ r σ1 e) o fun r15 s16 o =>
z_iinc (L1 := [(1, .int (pI (w32 (x10 + 1)))), (0, .ref (G.2.2.1 152))]) X 1 dX1_turnClock_68 rfl (by decide) rfl <|
z_goto (tgt := 49) X dX1_turnClock_71 (by decide) <|
z_sub (L1 := [(0, .ref (G.2.2.1 152)), (1, .int (pI (w32 (x10 + 1))))]) X [1, 0] rfl <|
ok_some o (w32_rg _)) kc_0) fun o =>
z_vret (v := 0) X Y dX1_turnClock_25 o : At E s0 0 [(0, .ref (G.2.2.1 152))] [])
set_option maxHeartbeats 4000000 in
set_option maxRecDepth 100000 in
theorem ct_X1_pass (p1 : Int) (hp1 : r01 p1) (G : Gw) (s0 : St) (r : Int) (σ1 : St) (e : fX1_pass p1 s0 = some (r, σ1)) : Ct yX1_pass cX1_pass 4 (some .int) 5 125 SX G [.ref (G.2.2.1 152), .int (pI p1)] s0 (QI SX G r rg σ1) :=
  Ct.of (by decide +kernel) (Nat.le_of_ble_eq_true rfl) fun E X Y => by
    have o : Ok (fX1_pass p1 s0) (fun x σ' => x = r ∧ σ' = σ1) := ⟨r, σ1, e, rfl, rfl⟩
    unfold fX1_pass at o
    exact (
z_aload_n X 0 dX1_pass_0 rfl <|
z_iload_n X 1 dX1_pass_1 rfl <|
z_putZ X dX1_pass_2 fl_X1_9 sx_152 ft_X1_4 rfl hp1 o fun s1 o =>
z_aload_n X 0 dX1_pass_5 rfl <|
z_getR (q := 3) X dX1_pass_6 fl_X1_15 sx_152 rfl <|
z_getIN X dX1_pass_9 fn_X1_31 sx_3 rfl o fun v2 r3 o =>
z_join o (fun (y7 : Unit) s8 => True → At E s8 19 [(0, .ref (G.2.2.1 152))] []) (fun y7 s8 o r9 =>
z_aload_n X 0 dX1_pass_19 rfl <|
z_callvV X dX1_pass_20 q_797 wX1_followCalls sx_152 rfl (by decide) [] [] rfl rfl (Nat.le_of_ble_eq_true rfl) (fun r σ1 e => ct_X1_followCalls G _ r σ1 e) o fun r10 s11 o =>
z_aload_n X 0 dX1_pass_23 rfl <|
z_callvV X dX1_pass_24 q_804 wX1_letItRain sx_152 rfl (by decide) [] [] rfl rfl (Nat.le_of_ble_eq_true rfl) (fun r σ1 e => ct_X1_letItRain G _ r σ1 e) o fun r13 s14 o =>
z_iconst X dX1_pass_27 <|
z_istore_n (L1 := [(2, .int (pI 0)), (0, .ref (G.2.2.1 152))]) X dX1_pass_28 rfl (by decide) rfl <|
z_iconst X dX1_pass_29 <|
z_istore_n (L1 := [(3, .int (pI 0)), (2, .int (pI 0)), (0, .ref (G.2.2.1 152))]) X dX1_pass_30 rfl (by decide) rfl <|
z_join o (fun (y24 : Int) s25 => rg y24 → At E s25 59 [(0, .ref (G.2.2.1 152)), (2, .int (pI y24))] []) (fun y24 s25 o r26 =>
z_aload_n X 0 dX1_pass_59 rfl <|
z_callvV X dX1_pass_60 q_862 wX1_stayOrRise sx_152 rfl (by decide) [] [] rfl rfl (Nat.le_of_ble_eq_true rfl) (fun r σ1 e => ct_X1_stayOrRise G _ r σ1 e) o fun r27 s28 o =>
z_aload_n X 0 dX1_pass_63 rfl <|
z_callvV X dX1_pass_64 q_866 wX1_burnLamps sx_152 rfl (by decide) [] [] rfl rfl (Nat.le_of_ble_eq_true rfl) (fun r σ1 e => ct_X1_burnLamps G _ r σ1 e) o fun r30 s31 o =>
z_aload_n X 0 dX1_pass_67 rfl <|
z_callvV X dX1_pass_68 q_874 wX1_spinCobwebs sx_152 rfl (by decide) [] [] rfl rfl (Nat.le_of_ble_eq_true rfl) (fun r σ1 e => ct_X1_spinCobwebs G _ r σ1 e) o fun r33 s34 o =>
z_aload_n X 0 dX1_pass_71 rfl <|
z_callvV X dX1_pass_72 q_879 wX1_turnClock sx_152 rfl (by decide) [] [] rfl rfl (Nat.le_of_ble_eq_true rfl) (fun r σ1 e => ct_X1_turnClock G _ r σ1 e) o fun r36 s37 o =>
z_aload_n X 0 dX1_pass_75 rfl <|
z_iconst X dX1_pass_76 <|
z_putZ X dX1_pass_77 fl_X1_9 sx_152 ft_X1_4 rfl kb_0 o fun s39 o =>
z_iload_n X 1 dX1_pass_80 rfl <|
z_iret X Y dX1_pass_81 o r26) fun o =>
z_sub (L1 := [(0, .ref (G.2.2.1 152)), (2, .int (pI 0)), (3, .int (pI 0))]) X [2, 1, 0] rfl <|
z_iter (fun (x16 : Int × Int) s17 => rg x16.1 ∧ rg x16.2 → At E s17 31 [(0, .ref (G.2.2.1 152)), (2, .int (pI x16.1)), (3, .int (pI x16.2))] []) o (fun x16 s17 o r18 =>
z_iload_n X 2 dX1_pass_31 rfl <|
z_aload_n X 0 dX1_pass_32 rfl <|
z_getR (q := 3) X dX1_pass_33 fl_X1_15 sx_152 rfl <|
z_getIN X dX1_pass_36 fn_X1_46 sx_3 rfl o fun v19 r20 o =>
z_icmp_ge (tgt := 59) X dX1_pass_39 (by decide) r18.2 r20 o (fun o =>
z_sub (L1 := [(0, .ref (G.2.2.1 152)), (2, .int (pI x16.1))]) X [0, 1] rfl <|
ok_some o r18.1) fun o =>
z_aload_n X 0 dX1_pass_42 rfl <|
z_iload_n X 2 dX1_pass_43 rfl <|
z_callvI X dX1_pass_44 q_809 wX1_speaksNow sx_152 rfl (by decide) [.int (pI x16.2)] [] rfl rfl (Nat.le_of_ble_eq_true rfl) (fun r σ1 e => ct_X1_speaksNow x16.2 r18.2 G _ r σ1 e) o fun r21 s22 h23 o =>
z_if_eq (tgt := 53) X dX1_pass_47 (by decide) (r01_rg h23) o (fun o =>
z_iinc (L1 := [(3, .int (pI (w32 (x16.2 + 1)))), (0, .ref (G.2.2.1 152)), (2, .int (pI x16.1))]) X 2 dX1_pass_53 rfl (by decide) rfl <|
z_goto (tgt := 31) X dX1_pass_56 (by decide) <|
z_sub (L1 := [(0, .ref (G.2.2.1 152)), (2, .int (pI x16.1)), (3, .int (pI (w32 (x16.2 + 1))))]) X [1, 2, 0] rfl <|
ok_some o ⟨r18.1, (w32_rg _)⟩) fun o =>
z_iinc (L1 := [(2, .int (pI (w32 (x16.1 + 1)))), (0, .ref (G.2.2.1 152)), (3, .int (pI x16.2))]) X 1 dX1_pass_50 rfl (by decide) rfl <|
z_iinc (L1 := [(3, .int (pI (w32 (x16.2 + 1)))), (2, .int (pI (w32 (x16.1 + 1)))), (0, .ref (G.2.2.1 152))]) X 2 dX1_pass_53 rfl (by decide) rfl <|
z_goto (tgt := 31) X dX1_pass_56 (by decide) <|
z_sub (L1 := [(0, .ref (G.2.2.1 152)), (2, .int (pI (w32 (x16.1 + 1)))), (3, .int (pI (w32 (x16.2 + 1))))]) X [2, 1, 0] rfl <|
ok_some o ⟨(w32_rg _), (w32_rg _)⟩) ⟨kc_0, kc_0⟩) fun o =>
z_if_ne (tgt := 19) X dX1_pass_12 (by decide) r3 o (fun o =>
z_sub (L1 := [(0, .ref (G.2.2.1 152))]) X [0] rfl <|
ok_some o trivial) fun o =>
z_aload_n X 0 dX1_pass_15 rfl <|
z_callvV X dX1_pass_16 q_787 wX1_beginEvening sx_152 rfl (by decide) [] [] rfl rfl (Nat.le_of_ble_eq_true rfl) (fun r σ1 e => ct_X1_beginEvening G _ r σ1 e) o fun r4 s5 o =>
z_sub (L1 := [(0, .ref (G.2.2.1 152))]) X [0] rfl <|
ok_some o trivial : At E s0 0 [(0, .ref (G.2.2.1 152)), (1, .int (pI p1))] [])
set_option maxHeartbeats 4000000 in
set_option maxRecDepth 100000 in
theorem ct_X2_sumOf (p1 : Int) (hp1 : rg p1) (G : Gw) (s0 : St) (r : Int) (σ1 : St) (e : fX2_sumOf p1 s0 = some (r, σ1)) : Ct yX2_sumOf cX2_sumOf 4 (some .int) 0 0 SX G [.ref (G.2.2.1 3), .int (pI p1)] s0 (QI SX G r rg σ1) :=
  Ct.of (by decide +kernel) (Nat.le_of_ble_eq_true rfl) fun E X Y => by
    have o : Ok (fX2_sumOf p1 s0) (fun x σ' => x = r ∧ σ' = σ1) := ⟨r, σ1, e, rfl, rfl⟩
    unfold fX2_sumOf at o
    exact (
z_iconst X dX2_sumOf_0 <|
z_istore_n (L1 := [(2, .int (pI 0)), (0, .ref (G.2.2.1 3)), (1, .int (pI p1))]) X dX2_sumOf_1 rfl (by decide) rfl <|
z_iconst X dX2_sumOf_2 <|
z_istore_n (L1 := [(3, .int (pI 0)), (2, .int (pI 0)), (0, .ref (G.2.2.1 3)), (1, .int (pI p1))]) X dX2_sumOf_3 rfl (by decide) rfl <|
z_join o (fun (y17 : Int) s18 => rg y17 → At E s18 45 [(0, .ref (G.2.2.1 3)), (1, .int (pI p1)), (2, .int (pI y17))] []) (fun y17 s18 o r19 =>
z_iconst X dX2_sumOf_45 <|
z_istore_n (L1 := [(3, .int (pI 0)), (0, .ref (G.2.2.1 3)), (1, .int (pI p1)), (2, .int (pI y17))]) X dX2_sumOf_46 rfl (by decide) rfl <|
z_join o (fun (y36 : Int) s37 => rg y36 → At E s37 89 [(2, .int (pI y36))] []) (fun y36 s37 o r38 =>
z_iload_n X 0 dX2_sumOf_89 rfl <|
z_iret X Y dX2_sumOf_90 o r38) fun o =>
z_sub (L1 := [(0, .ref (G.2.2.1 3)), (1, .int (pI p1)), (2, .int (pI y17)), (3, .int (pI 0))]) X [1, 2, 3, 0] rfl <|
z_iter (fun (x20 : Int × Int) s21 => rg x20.1 ∧ rg x20.2 → At E s21 47 [(0, .ref (G.2.2.1 3)), (1, .int (pI p1)), (2, .int (pI x20.1)), (3, .int (pI x20.2))] []) o (fun x20 s21 o r22 =>
z_iload_n X 3 dX2_sumOf_47 rfl <|
z_aload_n X 0 dX2_sumOf_48 rfl <|
z_getI X dX2_sumOf_49 fl_X2_24 sx_3 rfl o fun v23 r24 o =>
z_icmp_ge (tgt := 89) X dX2_sumOf_52 (by decide) r22.2 r24 o (fun o =>
z_sub (L1 := [(2, .int (pI x20.1))]) X [2] rfl <|
ok_some o r22.1) fun o =>
z_iload_n X 1 dX2_sumOf_55 rfl <|
z_iconst X dX2_sumOf_56 <|
z_join o (fun (y29 : Int) s30 => rg y29 → At E s30 69 [(0, .ref (G.2.2.1 3)), (1, .int (pI p1)), (2, .int (pI y29)), (3, .int (pI x20.2))] []) (fun y29 s30 o r31 =>
z_iload_n X 1 dX2_sumOf_69 rfl <|
z_iconst X dX2_sumOf_70 <|
z_icmp_ne (tgt := 83) X dX2_sumOf_71 (by decide) hp1 kc_3 o (fun o =>
z_iinc (L1 := [(3, .int (pI (w32 (x20.2 + 1)))), (0, .ref (G.2.2.1 3)), (1, .int (pI p1)), (2, .int (pI y29))]) X 3 dX2_sumOf_83 rfl (by decide) rfl <|
z_goto (tgt := 47) X dX2_sumOf_86 (by decide) <|
z_sub (L1 := [(0, .ref (G.2.2.1 3)), (1, .int (pI p1)), (2, .int (pI y29)), (3, .int (pI (w32 (x20.2 + 1))))]) X [1, 2, 3, 0] rfl <|
ok_some o ⟨r31, (w32_rg _)⟩) fun o =>
z_iload_n X 2 dX2_sumOf_74 rfl <|
z_aload_n X 0 dX2_sumOf_75 rfl <|
z_getR (q := 5) X dX2_sumOf_76 fl_X2_34 sx_3 rfl <|
z_iload_n X 3 dX2_sumOf_79 rfl <|
z_iald X dX2_sumOf_80 sx_5 r22.2 o fun v32 r33 o =>
z_iadd X dX2_sumOf_81 <|
z_istoreL_n (L1 := fun v34 => [(2, .int (pI v34)), (0, .ref (G.2.2.1 3)), (1, .int (pI p1)), (3, .int (pI x20.2))]) (R := rg) X dX2_sumOf_82 rfl (by decide) (fun _ => rfl) o (w32_rg _) fun v34 r35 o =>
z_iinc (L1 := [(3, .int (pI (w32 (x20.2 + 1)))), (2, .int (pI v34)), (0, .ref (G.2.2.1 3)), (1, .int (pI p1))]) X 3 dX2_sumOf_83 rfl (by decide) rfl <|
z_goto (tgt := 47) X dX2_sumOf_86 (by decide) <|
z_sub (L1 := [(0, .ref (G.2.2.1 3)), (1, .int (pI p1)), (2, .int (pI v34)), (3, .int (pI (w32 (x20.2 + 1))))]) X [2, 3, 1, 0] rfl <|
ok_some o ⟨r35, (w32_rg _)⟩) fun o =>
z_icmp_ne (tgt := 69) X dX2_sumOf_57 (by decide) hp1 kc_2 o (fun o =>
ok_some o r22.1) fun o =>
z_iload_n X 2 dX2_sumOf_60 rfl <|
z_aload_n X 0 dX2_sumOf_61 rfl <|
z_getR (q := 6) X dX2_sumOf_62 fl_X2_37 sx_3 rfl <|
z_iload_n X 3 dX2_sumOf_65 rfl <|
z_iald X dX2_sumOf_66 sx_6 r22.2 o fun v25 r26 o =>
z_iadd X dX2_sumOf_67 <|
z_istoreL_n (L1 := fun v27 => [(2, .int (pI v27)), (0, .ref (G.2.2.1 3)), (1, .int (pI p1)), (3, .int (pI x20.2))]) (R := rg) X dX2_sumOf_68 rfl (by decide) (fun _ => rfl) o (w32_rg _) fun v27 r28 o =>
z_sub (L1 := [(0, .ref (G.2.2.1 3)), (1, .int (pI p1)), (2, .int (pI v27)), (3, .int (pI x20.2))]) X [1, 2, 0, 3] rfl <|
ok_some o r28) ⟨r19, kc_0⟩) fun o =>
z_sub (L1 := [(0, .ref (G.2.2.1 3)), (1, .int (pI p1)), (2, .int (pI 0)), (3, .int (pI 0))]) X [2, 3, 1, 0] rfl <|
z_iter (fun (x1 : Int × Int) s2 => rg x1.1 ∧ rg x1.2 → At E s2 4 [(0, .ref (G.2.2.1 3)), (1, .int (pI p1)), (2, .int (pI x1.1)), (3, .int (pI x1.2))] []) o (fun x1 s2 o r3 =>
z_iload_n X 3 dX2_sumOf_4 rfl <|
z_aload_n X 0 dX2_sumOf_5 rfl <|
z_getI X dX2_sumOf_6 fl_X2_27 sx_3 rfl o fun v4 r5 o =>
z_icmp_ge (tgt := 45) X dX2_sumOf_9 (by decide) r3.2 r5 o (fun o =>
z_sub (L1 := [(0, .ref (G.2.2.1 3)), (1, .int (pI p1)), (2, .int (pI x1.1))]) X [0, 1, 2] rfl <|
ok_some o r3.1) fun o =>
z_iload_n X 1 dX2_sumOf_12 rfl <|
z_join o (fun (y10 : Int) s11 => rg y10 → At E s11 25 [(0, .ref (G.2.2.1 3)), (1, .int (pI p1)), (2, .int (pI y10)), (3, .int (pI x1.2))] []) (fun y10 s11 o r12 =>
z_iload_n X 1 dX2_sumOf_25 rfl <|
z_iconst X dX2_sumOf_26 <|
z_icmp_ne (tgt := 39) X dX2_sumOf_27 (by decide) hp1 kc_1 o (fun o =>
z_iinc (L1 := [(3, .int (pI (w32 (x1.2 + 1)))), (0, .ref (G.2.2.1 3)), (1, .int (pI p1)), (2, .int (pI y10))]) X 3 dX2_sumOf_39 rfl (by decide) rfl <|
z_goto (tgt := 4) X dX2_sumOf_42 (by decide) <|
z_sub (L1 := [(0, .ref (G.2.2.1 3)), (1, .int (pI p1)), (2, .int (pI y10)), (3, .int (pI (w32 (x1.2 + 1))))]) X [1, 2, 3, 0] rfl <|
ok_some o ⟨r12, (w32_rg _)⟩) fun o =>
z_iload_n X 2 dX2_sumOf_30 rfl <|
z_aload_n X 0 dX2_sumOf_31 rfl <|
z_getR (q := 15) X dX2_sumOf_32 fl_X2_64 sx_3 rfl <|
z_iload_n X 3 dX2_sumOf_35 rfl <|
z_iald X dX2_sumOf_36 sx_15 r3.2 o fun v13 r14 o =>
z_iadd X dX2_sumOf_37 <|
z_istoreL_n (L1 := fun v15 => [(2, .int (pI v15)), (0, .ref (G.2.2.1 3)), (1, .int (pI p1)), (3, .int (pI x1.2))]) (R := rg) X dX2_sumOf_38 rfl (by decide) (fun _ => rfl) o (w32_rg _) fun v15 r16 o =>
z_iinc (L1 := [(3, .int (pI (w32 (x1.2 + 1)))), (2, .int (pI v15)), (0, .ref (G.2.2.1 3)), (1, .int (pI p1))]) X 3 dX2_sumOf_39 rfl (by decide) rfl <|
z_goto (tgt := 4) X dX2_sumOf_42 (by decide) <|
z_sub (L1 := [(0, .ref (G.2.2.1 3)), (1, .int (pI p1)), (2, .int (pI v15)), (3, .int (pI (w32 (x1.2 + 1))))]) X [2, 3, 1, 0] rfl <|
ok_some o ⟨r16, (w32_rg _)⟩) fun o =>
z_if_ne (tgt := 25) X dX2_sumOf_13 (by decide) hp1 o (fun o =>
ok_some o r3.1) fun o =>
z_iload_n X 2 dX2_sumOf_16 rfl <|
z_aload_n X 0 dX2_sumOf_17 rfl <|
z_getR (q := 14) X dX2_sumOf_18 fl_X2_61 sx_3 rfl <|
z_iload_n X 3 dX2_sumOf_21 rfl <|
z_iald X dX2_sumOf_22 sx_14 r3.2 o fun v6 r7 o =>
z_iadd X dX2_sumOf_23 <|
z_istoreL_n (L1 := fun v8 => [(2, .int (pI v8)), (0, .ref (G.2.2.1 3)), (1, .int (pI p1)), (3, .int (pI x1.2))]) (R := rg) X dX2_sumOf_24 rfl (by decide) (fun _ => rfl) o (w32_rg _) fun v8 r9 o =>
z_sub (L1 := [(0, .ref (G.2.2.1 3)), (1, .int (pI p1)), (2, .int (pI v8)), (3, .int (pI x1.2))]) X [1, 2, 0, 3] rfl <|
ok_some o r9) ⟨kc_0, kc_0⟩ : At E s0 0 [(0, .ref (G.2.2.1 3)), (1, .int (pI p1))] [])
set_option maxHeartbeats 4000000 in
set_option maxRecDepth 100000 in
theorem ct_X11_goes (p1 : Int) (p2 : Int) (hp1 : rg p1) (hp2 : rg p2) (G : Gw) (s0 : St) (r : Int) (σ1 : St) (e : fX11_goes p1 p2 s0 = some (r, σ1)) : Ct yX11_goes cX11_goes 4 (some .int) 6 148 SX G [.ref (G.2.2.1 0), .int (pI p1), .int (pI p2)] s0 (QI SX G r rg σ1) :=
  Ct.of (by decide +kernel) (Nat.le_of_ble_eq_true rfl) fun E X Y => by
    have o : Ok (fX11_goes p1 p2 s0) (fun x σ' => x = r ∧ σ' = σ1) := ⟨r, σ1, e, rfl, rfl⟩
    unfold fX11_goes at o
    exact (
z_iload_n X 1 dX11_goes_0 rfl <|
z_iconst X dX11_goes_1 <|
z_bipush X dX11_goes_2 bi_60 <|
z_callsI X dX11_goes_4 q_681 wX11_within  (by decide) [.int (pI p1), .int (pI 1), .int (pI 60)] [] rfl rfl (Nat.le_of_ble_eq_true rfl) (fun r σ1 e => ct_X11_within p1 1 60 hp1 kc_1 kc_60 G _ r σ1 e) o fun r1 s2 h3 o =>
z_if_eq (tgt := 19) X dX11_goes_7 (by decide) (r01_rg h3) o (fun o =>
z_iconst X dX11_goes_19 <|
z_iret X Y dX11_goes_20 o kc_m1) fun o =>
z_iload_n X 2 dX11_goes_10 rfl <|
z_iconst X dX11_goes_11 <|
z_iconst X dX11_goes_12 <|
z_callsI X dX11_goes_13 q_681 wX11_within  (by decide) [.int (pI p2), .int (pI 0), .int (pI 3)] [] rfl rfl (Nat.le_of_ble_eq_true rfl) (fun r σ1 e => ct_X11_within p2 0 3 hp2 kc_0 kc_3 G _ r σ1 e) o fun r4 s5 h6 o =>
z_if_ne (tgt := 21) X dX11_goes_16 (by decide) (r01_rg h6) o (fun o =>
z_aload_n X 0 dX11_goes_21 rfl <|
z_getR (q := 171) X dX11_goes_22 fl_X11_94 sx_0 rfl <|
z_aload_n X 0 dX11_goes_25 rfl <|
z_getR (q := 3) X dX11_goes_26 fl_X11_19 sx_0 rfl <|
z_callvV X dX11_goes_29 q_1190 wX2_copyFrom sx_171 rfl (by decide) [.ref (G.2.2.1 3)] [] rfl rfl (Nat.le_of_ble_eq_true rfl) (fun r σ1 e => ct_X2_copyFrom 171 3 ish_171 ish_3 G _ r σ1 e) o fun r7 s8 o =>
z_iconst X dX11_goes_32 <|
z_istore_n (L1 := [(3, .int (pI 0)), (0, .ref (G.2.2.1 0)), (1, .int (pI p1)), (2, .int (pI p2))]) X dX11_goes_33 rfl (by decide) rfl <|
z_join o (fun (y16 : Unit) s17 => True → At E s17 54 [(0, .ref (G.2.2.1 0)), (2, .int (pI p2))] []) (fun y16 s17 o r18 =>
z_aload_n X 0 dX11_goes_54 rfl <|
z_getR (q := 3) X dX11_goes_55 fl_X11_19 sx_0 rfl <|
z_iload_n X 1 dX11_goes_58 rfl <|
z_callvI X dX11_goes_59 q_1191 wX2_sumOf sx_3 rfl (by decide) [.int (pI p2)] [] rfl rfl (Nat.le_of_ble_eq_true rfl) (fun r σ1 e => ct_X2_sumOf p2 hp2 G _ r σ1 e) o fun r19 s20 h21 o =>
z_istore_n (L1 := [(3, .int (pI r19)), (0, .ref (G.2.2.1 0)), (2, .int (pI p2))]) X dX11_goes_62 rfl (by decide) rfl <|
z_aload_n X 1 dX11_goes_63 rfl <|
z_getR (q := 3) X dX11_goes_64 fl_X11_19 sx_0 rfl <|
z_aload_n X 1 dX11_goes_67 rfl <|
z_getR (q := 171) X dX11_goes_68 fl_X11_94 sx_0 rfl <|
z_callvV X dX11_goes_71 q_1190 wX2_copyFrom sx_3 rfl (by decide) [.ref (G.2.2.1 171)] [] rfl rfl (Nat.le_of_ble_eq_true rfl) (fun r σ1 e => ct_X2_copyFrom 3 171 ish_3 ish_171 G _ r σ1 e) o fun r22 s23 o =>
z_iload_n X 0 dX11_goes_74 rfl <|
z_iret X Y dX11_goes_75 o h21) fun o =>
z_sub (L1 := [(0, .ref (G.2.2.1 0)), (1, .int (pI p1)), (2, .int (pI p2)), (3, .int (pI 0))]) X [1, 2, 3, 0] rfl <|
z_iter (fun (x10 : Int) s11 => rg x10 → At E s11 34 [(0, .ref (G.2.2.1 0)), (1, .int (pI p1)), (2, .int (pI p2)), (3, .int (pI x10))] []) o (fun x10 s11 o r12 =>
z_iload_n X 3 dX11_goes_34 rfl <|
z_iload_n X 1 dX11_goes_35 rfl <|
z_icmp_ge (tgt := 54) X dX11_goes_36 (by decide) r12 hp1 o (fun o =>
z_sub (L1 := [(0, .ref (G.2.2.1 0)), (2, .int (pI p2))]) X [0, 2] rfl <|
ok_some o trivial) fun o =>
z_aload_n X 0 dX11_goes_39 rfl <|
z_getR (q := 152) X dX11_goes_40 fl_X11_69 sx_0 rfl <|
z_iconst X dX11_goes_43 <|
z_callvI X dX11_goes_44 q_783 wX1_pass sx_152 rfl (by decide) [.int (pI 1)] [] rfl rfl (Nat.le_of_ble_eq_true rfl) (fun r σ1 e => ct_X1_pass 1 kb_1 G _ r σ1 e) o fun r13 s14 h15 o =>
z_pop X dX11_goes_47 rfl <|
z_iinc (L1 := [(3, .int (pI (w32 (x10 + 1)))), (0, .ref (G.2.2.1 0)), (1, .int (pI p1)), (2, .int (pI p2))]) X 3 dX11_goes_48 rfl (by decide) rfl <|
z_goto (tgt := 34) X dX11_goes_51 (by decide) <|
z_sub (L1 := [(0, .ref (G.2.2.1 0)), (1, .int (pI p1)), (2, .int (pI p2)), (3, .int (pI (w32 (x10 + 1))))]) X [1, 2, 3, 0] rfl <|
ok_some o (w32_rg _)) kc_0) fun o =>
z_iconst X dX11_goes_19 <|
z_iret X Y dX11_goes_20 o kc_m1 : At E s0 0 [(0, .ref (G.2.2.1 0)), (1, .int (pI p1)), (2, .int (pI p2))] [])
set_option maxHeartbeats 4000000 in
set_option maxRecDepth 100000 in
theorem ct_X9_halfOf (p1 : Int) (hp1 : rg p1) (G : Gw) (s0 : St) (r : Int) (σ1 : St) (e : fX9_halfOf p1 s0 = some (r, σ1)) : Ct yX9_halfOf cX9_halfOf 2 (some (.object "PorchHours$Row")) 0 0 SX G [.ref (G.2.2.1 17), .int (pI p1)] s0 (QR SX G r (fun r => r = 40 ∨ r = 42 ∨ r = 44) σ1) :=
  Ct.of (by decide +kernel) (Nat.le_of_ble_eq_true rfl) fun E X Y => by
    have o : Ok (fX9_halfOf p1 s0) (fun x σ' => x = r ∧ σ' = σ1) := ⟨r, σ1, e, rfl, rfl⟩
    unfold fX9_halfOf at o
    exact (
z_iload_n X 1 dX9_halfOf_0 rfl <|
z_if_ne (tgt := 9) X dX9_halfOf_1 (by decide) hp1 o (fun o =>
z_iload_n X 1 dX9_halfOf_9 rfl <|
z_iconst X dX9_halfOf_10 <|
z_icmp_ne (tgt := 21) X dX9_halfOf_11 (by decide) hp1 kc_1 o (fun o =>
z_aload_n X 0 dX9_halfOf_21 rfl <|
z_getR (q := 44) X dX9_halfOf_22 fl_X9_56 sx_17 rfl <|
z_aret (q := 44) X Y dX9_halfOf_25 o (Or.inr (Or.inr rfl))) fun o =>
z_aload_n X 0 dX9_halfOf_14 rfl <|
z_getR (q := 42) X dX9_halfOf_15 fl_X9_53 sx_17 rfl <|
z_goto (tgt := 25) X dX9_halfOf_18 (by decide) <|
z_aret (q := 42) X Y dX9_halfOf_25 o (Or.inr (Or.inl rfl))) fun o =>
z_aload_n X 0 dX9_halfOf_4 rfl <|
z_getR (q := 40) X dX9_halfOf_5 fl_X9_50 sx_17 rfl <|
z_aret (q := 40) X Y dX9_halfOf_8 o (Or.inl rfl) : At E s0 0 [(0, .ref (G.2.2.1 17)), (1, .int (pI p1))] [])
set_option maxHeartbeats 4000000 in
set_option maxRecDepth 100000 in
theorem ct_X11_half (p1 : Int) (p2 : Int) (hp1 : rg p1) (hp2 : rg p2) (G : Gw) (s0 : St) (r : Int) (σ1 : St) (e : fX11_half p1 p2 s0 = some (r, σ1)) : Ct yX11_half cX11_half 4 (some .int) 1 22 SX G [.ref (G.2.2.1 0), .int (pI p1), .int (pI p2)] s0 (QI SX G r rg σ1) :=
  Ct.of (by decide +kernel) (Nat.le_of_ble_eq_true rfl) fun E X Y => by
    have o : Ok (fX11_half p1 p2 s0) (fun x σ' => x = r ∧ σ' = σ1) := ⟨r, σ1, e, rfl, rfl⟩
    unfold fX11_half at o
    exact (
z_iload_n X 1 dX11_half_0 rfl <|
z_iconst X dX11_half_1 <|
z_iconst X dX11_half_2 <|
z_callsI X dX11_half_3 q_681 wX11_within  (by decide) [.int (pI p1), .int (pI 0), .int (pI 2)] [] rfl rfl (Nat.le_of_ble_eq_true rfl) (fun r σ1 e => ct_X11_within p1 0 2 hp1 kc_0 kc_2 G _ r σ1 e) o fun r1 s2 h3 o =>
z_if_ne (tgt := 11) X dX11_half_6 (by decide) (r01_rg h3) o (fun o =>
z_aload_n X 0 dX11_half_11 rfl <|
z_getR (q := 17) X dX11_half_12 fl_X11_26 sx_0 rfl <|
z_iload_n X 1 dX11_half_15 rfl <|
z_callvR X dX11_half_16 q_1364 wX9_halfOf sx_17 rfl (by decide) [.int (pI p1)] [] rfl rfl (Nat.le_of_ble_eq_true rfl) (fun r σ1 e => ct_X9_halfOf p1 hp1 G _ r σ1 e) o fun r4 s5 h6 o =>
z_astore_n (L1 := [(3, .ref (G.2.2.1 r4.toNat)), (0, .ref (G.2.2.1 0)), (1, .int (pI p1)), (2, .int (pI p2))]) X dX11_half_19 rfl (by decide) rfl <|
z_iload_n X 3 dX11_half_20 rfl <|
z_iconst X dX11_half_21 <|
z_icmp_ne (tgt := 30) X dX11_half_22 (by decide) hp2 kc_m1 o (fun o =>
z_iload_n X 3 dX11_half_30 rfl <|
z_iconst X dX11_half_31 <|
z_bipush X dX11_half_32 bi_9 <|
z_callsI X dX11_half_34 q_681 wX11_within  (by decide) [.int (pI p2), .int (pI 0), .int (pI 9)] [] rfl rfl (Nat.le_of_ble_eq_true rfl) (fun r σ1 e => ct_X11_within p2 0 9 hp2 kc_0 kc_9 G _ r σ1 e) o fun r7 s8 h9 o =>
z_if_eq (tgt := 48) X dX11_half_37 (by decide) (r01_rg h9) o (fun o =>
z_iconst X dX11_half_48 <|
z_iret X Y dX11_half_49 o kc_m1) fun o =>
z_aload_n X 0 dX11_half_40 rfl <|
z_iload_n X 3 dX11_half_41 rfl <|
z_callvI X dX11_half_42 q_1297 wX6_add (isR_half h6).1 rfl (by decide) [.int (pI p2)] [] rfl rfl (Nat.le_of_ble_eq_true rfl) (fun r σ1 e => ct_X6_add SX r4.toNat (r4.toNat + 1) (halfLen r4) p2 (isR_half h6) hp2 G _ r σ1 e) o fun r10 s11 h12 o =>
z_goto (tgt := 49) X dX11_half_45 (by decide) <|
z_iret X Y dX11_half_49 o h12) fun o =>
z_aload_n X 0 dX11_half_25 rfl <|
z_callvI X dX11_half_26 q_1255 wX6_clear (isR_half h6).1 rfl (by decide) [] [] rfl rfl (Nat.le_of_ble_eq_true rfl) (fun r σ1 e => ct_X6_clear SX r4.toNat (r4.toNat + 1) (halfLen r4) (isR_half h6) G _ r σ1 e) o fun r13 s14 h15 o =>
z_iret X Y dX11_half_29 o h15) fun o =>
z_iconst X dX11_half_9 <|
z_iret X Y dX11_half_10 o kc_m1 : At E s0 0 [(0, .ref (G.2.2.1 0)), (1, .int (pI p1)), (2, .int (pI p2))] [])
set_option maxHeartbeats 4000000 in
set_option maxRecDepth 100000 in
theorem ct_X4_waysHeard   (G : Gw) (s0 : St) (r : Int) (σ1 : St) (e : fX4_waysHeard s0 = some (r, σ1)) : Ct yX4_waysHeard cX4_waysHeard 8 (some .int) 1 22 SX G [.ref (G.2.2.1 157)] s0 (QI SX G r rg σ1) :=
  Ct.of (by decide +kernel) (Nat.le_of_ble_eq_true rfl) fun E X Y => by
    have o : Ok (fX4_waysHeard s0) (fun x σ' => x = r ∧ σ' = σ1) := ⟨r, σ1, e, rfl, rfl⟩
    unfold fX4_waysHeard at o
    exact (
z_aload_n X 0 dX4_waysHeard_0 rfl <|
z_getR (q := 17) X dX4_waysHeard_1 fl_X4_56 sx_157 rfl <|
z_getRN (q := 40) X dX4_waysHeard_4 fn_X4_127 sx_17 rfl <|
z_callvI X dX4_waysHeard_7 q_1265 wX6_size sx_40 rfl (by decide) [] [] rfl rfl (Nat.le_of_ble_eq_true rfl) (fun r σ1 e => ct_X6_size SX 40 41 12 ⟨sx_40, sx_41, (by decide)⟩ G _ r σ1 e) o fun r1 s2 h3 o =>
z_istore_n (L1 := [(1, .int (pI r1)), (0, .ref (G.2.2.1 157))]) X dX4_waysHeard_10 rfl (by decide) rfl <|
z_aload_n X 1 dX4_waysHeard_11 rfl <|
z_getR (q := 17) X dX4_waysHeard_12 fl_X4_56 sx_157 rfl <|
z_getRN (q := 42) X dX4_waysHeard_15 fn_X4_130 sx_17 rfl <|
z_callvI X dX4_waysHeard_18 q_1265 wX6_size sx_42 rfl (by decide) [] [] rfl rfl (Nat.le_of_ble_eq_true rfl) (fun r σ1 e => ct_X6_size SX 42 43 12 ⟨sx_42, sx_43, (by decide)⟩ G _ r σ1 e) o fun r4 s5 h6 o =>
z_istore_n (L1 := [(2, .int (pI r4)), (1, .int (pI r1)), (0, .ref (G.2.2.1 157))]) X dX4_waysHeard_21 rfl (by decide) rfl <|
z_aload_n X 2 dX4_waysHeard_22 rfl <|
z_getR (q := 17) X dX4_waysHeard_23 fl_X4_56 sx_157 rfl <|
z_getRN (q := 44) X dX4_waysHeard_26 fn_X4_133 sx_17 rfl <|
z_callvI X dX4_waysHeard_29 q_1265 wX6_size sx_44 rfl (by decide) [] [] rfl rfl (Nat.le_of_ble_eq_true rfl) (fun r σ1 e => ct_X6_size SX 44 45 24 ⟨sx_44, sx_45, (by decide)⟩ G _ r σ1 e) o fun r7 s8 h9 o =>
z_iload_n X 1 dX4_waysHeard_32 rfl <|
z_iload_n X 0 dX4_waysHeard_33 rfl <|
z_iadd X dX4_waysHeard_34 <|
z_icmp_ne (tgt := 47) X dX4_waysHeard_35 (by decide) h9 (w32_rg _) o (fun o =>
z_iconst X dX4_waysHeard_47 <|
z_iret X Y dX4_waysHeard_48 o kc_0) fun o =>
z_iload_n X 0 dX4_waysHeard_38 rfl <|
z_aload_n X 2 dX4_waysHeard_39 rfl <|
z_getR (q := 164) X dX4_waysHeard_40 fl_X4_31 sx_157 rfl <|
z_alenL X dX4_waysHeard_43 sx_164 <|
z_icmp_lt (tgt := 49) X dX4_waysHeard_44 (by decide) h6 kc_13 o (fun o =>
z_iconst X dX4_waysHeard_49 <|
z_istore_n (L1 := [(3, .int (pI 0)), (2, .int (pI r4)), (1, .int (pI r1)), (0, .ref (G.2.2.1 157))]) X dX4_waysHeard_50 rfl (by decide) rfl <|
z_join o (fun (y47 : Unit) s48 => True → At E s48 199 [(0, .ref (G.2.2.1 157)), (2, .int (pI r4))] []) (fun y47 s48 o r49 =>
z_aload_n X 0 dX4_waysHeard_199 rfl <|
z_getR (q := 164) X dX4_waysHeard_200 fl_X4_31 sx_157 rfl <|
z_iload_n X 1 dX4_waysHeard_203 rfl <|
z_lald X dX4_waysHeard_204 sx_164 h6 o fun v50 r51 o =>
z_l2i X dX4_waysHeard_205 <|
z_iret X Y dX4_waysHeard_206 o (w32_rg _)) fun o =>
z_sub (L1 := [(0, .ref (G.2.2.1 157)), (1, .int (pI r1)), (2, .int (pI r4)), (3, .int (pI 0))]) X [3, 2, 1, 0] rfl <|
z_iter (fun (x10 : Int) s11 => rg x10 → At E s11 51 [(0, .ref (G.2.2.1 157)), (1, .int (pI r1)), (2, .int (pI r4)), (3, .int (pI x10))] []) o (fun x10 s11 o r12 =>
z_iload_n X 3 dX4_waysHeard_51 rfl <|
z_iload_n X 1 dX4_waysHeard_52 rfl <|
z_icmp_gt (tgt := 199) X dX4_waysHeard_53 (by decide) r12 h3 o (fun o =>
z_sub (L1 := [(0, .ref (G.2.2.1 157)), (2, .int (pI r4))]) X [0, 2] rfl <|
ok_some o trivial) fun o =>
z_iconst X dX4_waysHeard_56 <|
z_istore (L1 := [(4, .int (pI 0)), (0, .ref (G.2.2.1 157)), (1, .int (pI r1)), (2, .int (pI r4)), (3, .int (pI x10))]) X dX4_waysHeard_57 (by decide) rfl <|
z_join o (fun (y44 : Unit) s45 => True → At E s45 193 [(0, .ref (G.2.2.1 157)), (1, .int (pI r1)), (2, .int (pI r4)), (3, .int (pI x10))] []) (fun y44 s45 o r46 =>
z_iinc (L1 := [(3, .int (pI (w32 (x10 + 1)))), (0, .ref (G.2.2.1 157)), (1, .int (pI r1)), (2, .int (pI r4))]) X 3 dX4_waysHeard_193 rfl (by decide) rfl <|
z_goto (tgt := 51) X dX4_waysHeard_196 (by decide) <|
z_sub (L1 := [(0, .ref (G.2.2.1 157)), (1, .int (pI r1)), (2, .int (pI r4)), (3, .int (pI (w32 (x10 + 1))))]) X [1, 2, 3, 0] rfl <|
ok_some o (w32_rg _)) fun o =>
z_sub (L1 := [(0, .ref (G.2.2.1 157)), (1, .int (pI r1)), (2, .int (pI r4)), (3, .int (pI x10)), (4, .int (pI 0))]) X [1, 2, 3, 4, 0] rfl <|
z_iter (fun (x13 : Int) s14 => rg x13 → At E s14 59 [(0, .ref (G.2.2.1 157)), (1, .int (pI r1)), (2, .int (pI r4)), (3, .int (pI x10)), (4, .int (pI x13))] []) o (fun x13 s14 o r15 =>
z_iload X 4 dX4_waysHeard_59 rfl <|
z_iload_n X 2 dX4_waysHeard_61 rfl <|
z_icmp_gt (tgt := 193) X dX4_waysHeard_62 (by decide) r15 h6 o (fun o =>
z_sub (L1 := [(0, .ref (G.2.2.1 157)), (1, .int (pI r1)), (2, .int (pI r4)), (3, .int (pI x10))]) X [0, 1, 2, 3] rfl <|
ok_some o trivial) fun o =>
z_iload_n X 3 dX4_waysHeard_65 rfl <|
z_join o (fun (y16 : Int) s17 => rl y16 → At E s17 79 [(0, .ref (G.2.2.1 157)), (1, .int (pI r1)), (2, .int (pI r4)), (3, .int (pI x10)), (4, .int (pI x13))] [.long (pJ y16)]) (fun y16 s17 o r18 =>
z_lstore (L1 := [(5, .long (pJ y16)), (0, .ref (G.2.2.1 157)), (1, .int (pI r1)), (2, .int (pI r4)), (3, .int (pI x10)), (4, .int (pI x13))]) X dX4_waysHeard_79 (by decide) rfl <|
z_aload_n X 1 dX4_waysHeard_81 rfl <|
z_getR (q := 17) X dX4_waysHeard_82 fl_X4_56 sx_157 rfl <|
z_getRN (q := 44) X dX4_waysHeard_85 fn_X4_133 sx_17 rfl <|
z_iload_n X 4 dX4_waysHeard_88 rfl <|
z_iload X 5 dX4_waysHeard_89 rfl <|
z_iadd X dX4_waysHeard_91 <|
z_iconst X dX4_waysHeard_92 <|
z_isub X dX4_waysHeard_93 <|
z_iconst X dX4_waysHeard_94 <|
z_callvI X dX4_waysHeard_95 q_1266 wX6_get sx_44 rfl (by decide) [.int (pI (w32 (w32 (x10 + x13) - 1))), .int (pI 0)] [] rfl rfl (Nat.le_of_ble_eq_true rfl) (fun r σ1 e => ct_X6_get SX 44 45 24 (w32 (w32 (x10 + x13) - 1)) 0 ⟨sx_44, sx_45, (by decide)⟩ (w32_rg _) kc_0 G _ r σ1 e) o fun r19 s20 h21 o =>
z_istore (L1 := [(7, .int (pI r19)), (5, .long (pJ y16)), (0, .ref (G.2.2.1 157)), (1, .int (pI r1)), (2, .int (pI r4)), (3, .int (pI x10)), (4, .int (pI x13))]) X dX4_waysHeard_98 (by decide) rfl <|
z_iload_n X 5 dX4_waysHeard_100 rfl <|
z_join o (fun (y29 : Int) s30 => rl y29 → At E s30 135 [(0, .ref (G.2.2.1 157)), (1, .int (pI r1)), (2, .int (pI r4)), (3, .int (pI x10)), (4, .int (pI x13)), (5, .long (pJ y29)), (7, .int (pI r19))] []) (fun y29 s30 o r31 =>
z_iload X 4 dX4_waysHeard_135 rfl <|
z_join o (fun (y39 : Int) s40 => rl y39 → At E s40 174 [(0, .ref (G.2.2.1 157)), (1, .int (pI r1)), (2, .int (pI r4)), (3, .int (pI x10)), (4, .int (pI x13)), (5, .long (pJ y39))] []) (fun y39 s40 o r41 =>
z_aload_n X 0 dX4_waysHeard_174 rfl <|
z_getR (q := 164) X dX4_waysHeard_175 fl_X4_31 sx_157 rfl <|
z_iload X 4 dX4_waysHeard_178 rfl <|
z_lload X 5 dX4_waysHeard_180 rfl <|
z_ldc2 X dX4_waysHeard_182 q_1319 kj_1000000007 <|
z_lrem X dX4_waysHeard_185 r41 kl_1000000007 o fun z42 o =>
z_last X dX4_waysHeard_186 sx_164 r15 (lrm_rl kl_1000000007 z42) o fun s43 o =>
z_iinc (L1 := [(4, .int (pI (w32 (x13 + 1)))), (0, .ref (G.2.2.1 157)), (1, .int (pI r1)), (2, .int (pI r4)), (3, .int (pI x10)), (5, .long (pJ y39))]) X 4 dX4_waysHeard_187 rfl (by decide) rfl <|
z_goto (tgt := 59) X dX4_waysHeard_190 (by decide) <|
z_sub (L1 := [(0, .ref (G.2.2.1 157)), (1, .int (pI r1)), (2, .int (pI r4)), (3, .int (pI x10)), (4, .int (pI (w32 (x13 + 1))))]) X [1, 2, 3, 4, 0] rfl <|
ok_some o (w32_rg _)) fun o =>
z_if_le (tgt := 174) X dX4_waysHeard_137 (by decide) r15 o (fun o =>
z_sub (L1 := [(0, .ref (G.2.2.1 157)), (1, .int (pI r1)), (2, .int (pI r4)), (3, .int (pI x10)), (4, .int (pI x13)), (5, .long (pJ y29))]) X [0, 1, 2, 3, 4, 5] rfl <|
ok_some o r31) fun o =>
z_aload_n X 0 dX4_waysHeard_140 rfl <|
z_getR (q := 17) X dX4_waysHeard_141 fl_X4_56 sx_157 rfl <|
z_getRN (q := 42) X dX4_waysHeard_144 fn_X4_130 sx_17 rfl <|
z_iload X 4 dX4_waysHeard_147 rfl <|
z_iconst X dX4_waysHeard_149 <|
z_isub X dX4_waysHeard_150 <|
z_iconst X dX4_waysHeard_151 <|
z_callvI X dX4_waysHeard_152 q_1266 wX6_get sx_42 rfl (by decide) [.int (pI (w32 (x13 - 1))), .int (pI 0)] [] rfl rfl (Nat.le_of_ble_eq_true rfl) (fun r σ1 e => ct_X6_get SX 42 43 12 (w32 (x13 - 1)) 0 ⟨sx_42, sx_43, (by decide)⟩ (w32_rg _) kc_0 G _ r σ1 e) o fun r32 s33 h34 o =>
z_iload X 6 dX4_waysHeard_155 rfl <|
z_icmp_ne (tgt := 174) X dX4_waysHeard_157 (by decide) h34 h21 o (fun o =>
z_sub (L1 := [(0, .ref (G.2.2.1 157)), (1, .int (pI r1)), (2, .int (pI r4)), (3, .int (pI x10)), (4, .int (pI x13)), (5, .long (pJ y29))]) X [0, 1, 2, 3, 4, 5] rfl <|
ok_some o r31) fun o =>
z_lload X 5 dX4_waysHeard_160 rfl <|
z_aload_n X 0 dX4_waysHeard_162 rfl <|
z_getR (q := 164) X dX4_waysHeard_163 fl_X4_31 sx_157 rfl <|
z_iload X 4 dX4_waysHeard_166 rfl <|
z_iconst X dX4_waysHeard_168 <|
z_isub X dX4_waysHeard_169 <|
z_lald X dX4_waysHeard_170 sx_164 (w32_rg _) o fun v35 r36 o =>
z_ladd X dX4_waysHeard_171 <|
z_lstoreL (L1 := fun v37 => [(5, .long (pJ v37)), (0, .ref (G.2.2.1 157)), (1, .int (pI r1)), (2, .int (pI r4)), (3, .int (pI x10)), (4, .int (pI x13)), (7, .int (pI r19))]) (R := rl) X dX4_waysHeard_172 (by decide) (fun _ => rfl) o (w64_rl _) fun v37 r38 o =>
z_sub (L1 := [(0, .ref (G.2.2.1 157)), (1, .int (pI r1)), (2, .int (pI r4)), (3, .int (pI x10)), (4, .int (pI x13)), (5, .long (pJ v37))]) X [1, 2, 3, 4, 5, 0] rfl <|
ok_some o r38) fun o =>
z_if_le (tgt := 135) X dX4_waysHeard_101 (by decide) r12 o (fun o =>
z_sub (L1 := [(0, .ref (G.2.2.1 157)), (1, .int (pI r1)), (2, .int (pI r4)), (3, .int (pI x10)), (4, .int (pI x13)), (5, .long (pJ y16)), (7, .int (pI r19))]) X [2, 3, 4, 5, 6, 1, 0] rfl <|
ok_some o r18) fun o =>
z_aload_n X 2 dX4_waysHeard_104 rfl <|
z_getR (q := 17) X dX4_waysHeard_105 fl_X4_56 sx_157 rfl <|
z_getRN (q := 40) X dX4_waysHeard_108 fn_X4_127 sx_17 rfl <|
z_iload_n X 5 dX4_waysHeard_111 rfl <|
z_iconst X dX4_waysHeard_112 <|
z_isub X dX4_waysHeard_113 <|
z_iconst X dX4_waysHeard_114 <|
z_callvI X dX4_waysHeard_115 q_1266 wX6_get sx_40 rfl (by decide) [.int (pI (w32 (x10 - 1))), .int (pI 0)] [] rfl rfl (Nat.le_of_ble_eq_true rfl) (fun r σ1 e => ct_X6_get SX 40 41 12 (w32 (x10 - 1)) 0 ⟨sx_40, sx_41, (by decide)⟩ (w32_rg _) kc_0 G _ r σ1 e) o fun r22 s23 h24 o =>
z_iload X 0 dX4_waysHeard_118 rfl <|
z_icmp_ne (tgt := 135) X dX4_waysHeard_120 (by decide) h24 h21 o (fun o =>
z_sub (L1 := [(0, .ref (G.2.2.1 157)), (1, .int (pI r1)), (2, .int (pI r4)), (3, .int (pI x10)), (4, .int (pI x13)), (5, .long (pJ y16)), (7, .int (pI r19))]) X [2, 3, 4, 5, 6, 1, 0] rfl <|
ok_some o r18) fun o =>
z_lload X 1 dX4_waysHeard_123 rfl <|
z_aload_n X 2 dX4_waysHeard_125 rfl <|
z_getR (q := 164) X dX4_waysHeard_126 fl_X4_31 sx_157 rfl <|
z_iload X 6 dX4_waysHeard_129 rfl <|
z_lald X dX4_waysHeard_131 sx_164 r15 o fun v25 r26 o =>
z_ladd X dX4_waysHeard_132 <|
z_lstoreL (L1 := fun v27 => [(5, .long (pJ v27)), (7, .int (pI r19)), (0, .ref (G.2.2.1 157)), (1, .int (pI r1)), (2, .int (pI r4)), (3, .int (pI x10)), (4, .int (pI x13))]) (R := rl) X dX4_waysHeard_133 (by decide) (fun _ => rfl) o (w64_rl _) fun v27 r28 o =>
z_sub (L1 := [(0, .ref (G.2.2.1 157)), (1, .int (pI r1)), (2, .int (pI r4)), (3, .int (pI x10)), (4, .int (pI x13)), (5, .long (pJ v27)), (7, .int (pI r19))]) X [2, 3, 4, 5, 6, 0, 1] rfl <|
ok_some o r28) fun o =>
z_if_ne (tgt := 78) X dX4_waysHeard_66 (by decide) r12 o (fun o =>
z_lconst X dX4_waysHeard_78 rfl <|
ok_some o kl_0) fun o =>
z_iload X 4 dX4_waysHeard_69 rfl <|
z_if_ne (tgt := 78) X dX4_waysHeard_71 (by decide) r15 o (fun o =>
z_lconst X dX4_waysHeard_78 rfl <|
ok_some o kl_0) fun o =>
z_lconst X dX4_waysHeard_74 rfl <|
z_goto (tgt := 79) X dX4_waysHeard_75 (by decide) <|
ok_some o kl_1) kc_0) kc_0) fun o =>
z_iconst X dX4_waysHeard_47 <|
z_iret X Y dX4_waysHeard_48 o kc_0 : At E s0 0 [(0, .ref (G.2.2.1 157))] [])
set_option maxHeartbeats 4000000 in
set_option maxRecDepth 100000 in
theorem ct_X11_halves (p1 : Int) (hp1 : rg p1) (G : Gw) (s0 : St) (r : Int) (σ1 : St) (e : fX11_halves p1 s0 = some (r, σ1)) : Ct yX11_halves cX11_halves 2 (some .int) 2 49 SX G [.ref (G.2.2.1 0), .int (pI p1)] s0 (QI SX G r rg σ1) :=
  Ct.of (by decide +kernel) (Nat.le_of_ble_eq_true rfl) fun E X Y => by
    have o : Ok (fX11_halves p1 s0) (fun x σ' => x = r ∧ σ' = σ1) := ⟨r, σ1, e, rfl, rfl⟩
    unfold fX11_halves at o
    exact (
z_iload_n X 1 dX11_halves_0 rfl <|
z_if_ne (tgt := 20) X dX11_halves_1 (by decide) hp1 o (fun o =>
z_iload_n X 1 dX11_halves_20 rfl <|
z_iconst X dX11_halves_21 <|
z_icmp_ne (tgt := 35) X dX11_halves_22 (by decide) hp1 kc_1 o (fun o =>
z_iconst X dX11_halves_35 <|
z_iret X Y dX11_halves_36 o kc_m1) fun o =>
z_aload_n X 0 dX11_halves_25 rfl <|
z_getR (q := 157) X dX11_halves_26 fl_X11_90 sx_0 rfl <|
z_callvI X dX11_halves_29 q_1372 wX4_waysHeard sx_157 rfl (by decide) [] [] rfl rfl (Nat.le_of_ble_eq_true rfl) (fun r σ1 e => ct_X4_waysHeard G _ r σ1 e) o fun r1 s2 h3 o =>
z_goto (tgt := 36) X dX11_halves_32 (by decide) <|
z_iret X Y dX11_halves_36 o h3) fun o =>
z_aload_n X 0 dX11_halves_4 rfl <|
z_getR (q := 157) X dX11_halves_5 fl_X11_90 sx_0 rfl <|
z_callvI X dX11_halves_8 q_1372 wX4_waysHeard sx_157 rfl (by decide) [] [] rfl rfl (Nat.le_of_ble_eq_true rfl) (fun r σ1 e => ct_X4_waysHeard G _ r σ1 e) o fun r4 s5 h6 o =>
z_if_le (tgt := 18) X dX11_halves_11 (by decide) h6 o (fun o =>
z_iconst X dX11_halves_18 <|
z_iret X Y dX11_halves_19 o kc_0) fun o =>
z_iconst X dX11_halves_14 <|
z_goto (tgt := 19) X dX11_halves_15 (by decide) <|
z_iret X Y dX11_halves_19 o kc_1 : At E s0 0 [(0, .ref (G.2.2.1 0)), (1, .int (pI p1))] [])
set_option maxHeartbeats 4000000 in
set_option maxRecDepth 100000 in
theorem ct_X11_hears (p1 : Int) (p2 : Int) (hp1 : rg p1) (hp2 : rg p2) (G : Gw) (s0 : St) (r : Int) (σ1 : St) (e : fX11_hears p1 p2 s0 = some (r, σ1)) : Ct yX11_hears cX11_hears 3 (some .int) 3 76 SX G [.ref (G.2.2.1 0), .int (pI p1), .int (pI p2)] s0 (QI SX G r rg σ1) :=
  Ct.of (by decide +kernel) (Nat.le_of_ble_eq_true rfl) fun E X Y => by
    have o : Ok (fX11_hears p1 p2 s0) (fun x σ' => x = r ∧ σ' = σ1) := ⟨r, σ1, e, rfl, rfl⟩
    unfold fX11_hears at o
    exact (
z_aload_n X 0 dX11_hears_0 rfl <|
z_getR (q := 3) X dX11_hears_1 fl_X11_19 sx_0 rfl <|
z_iload_n X 1 dX11_hears_4 rfl <|
z_callvI X dX11_hears_5 q_708 wX2_hasPerson sx_3 rfl (by decide) [.int (pI p1)] [] rfl rfl (Nat.le_of_ble_eq_true rfl) (fun r σ1 e => ct_X2_hasPerson p1 hp1 G _ r σ1 e) o fun r1 s2 h3 o =>
z_if_eq (tgt := 22) X dX11_hears_8 (by decide) (r01_rg h3) o (fun o =>
z_iconst X dX11_hears_22 <|
z_iret X Y dX11_hears_23 o kc_m1) fun o =>
z_aload_n X 0 dX11_hears_11 rfl <|
z_getR (q := 3) X dX11_hears_12 fl_X11_19 sx_0 rfl <|
z_iload_n X 2 dX11_hears_15 rfl <|
z_callvI X dX11_hears_16 q_704 wX2_hasPorch sx_3 rfl (by decide) [.int (pI p2)] [] rfl rfl (Nat.le_of_ble_eq_true rfl) (fun r σ1 e => ct_X2_hasPorch p2 hp2 G _ r σ1 e) o fun r4 s5 h6 o =>
z_if_ne (tgt := 24) X dX11_hears_19 (by decide) (r01_rg h6) o (fun o =>
z_aload_n X 0 dX11_hears_24 rfl <|
z_getR (q := 149) X dX11_hears_25 fl_X11_60 sx_0 rfl <|
z_sipush X dX11_hears_28 si_261 <|
z_iload_n X 1 dX11_hears_31 rfl <|
z_iload_n X 2 dX11_hears_32 rfl <|
z_callvI X dX11_hears_33 q_1171 wX3_tells sx_149 rfl (by decide) [.int (pI 261), .int (pI p1), .int (pI p2)] [] rfl rfl (Nat.le_of_ble_eq_true rfl) (fun r σ1 e => ct_X3_tells 261 p1 p2 kc_261 hp1 hp2 G _ r σ1 e) o fun r7 s8 h9 o =>
z_iret X Y dX11_hears_36 o h9) fun o =>
z_iconst X dX11_hears_22 <|
z_iret X Y dX11_hears_23 o kc_m1 : At E s0 0 [(0, .ref (G.2.2.1 0)), (1, .int (pI p1)), (2, .int (pI p2))] [])
set_option maxHeartbeats 4000000 in
set_option maxRecDepth 100000 in
theorem ct_X4_hang (p1 : Int) (hp1 : rg p1) (G : Gw) (s0 : St) (r : Int) (σ1 : St) (e : fX4_hang p1 s0 = some (r, σ1)) : Ct yX4_hang cX4_hang 6 (some .int) 0 0 SX G [.ref (G.2.2.1 157), .int (pI p1)] s0 (QI SX G r rg σ1) :=
  Ct.of (by decide +kernel) (Nat.le_of_ble_eq_true rfl) fun E X Y => by
    have o : Ok (fX4_hang p1 s0) (fun x σ' => x = r ∧ σ' = σ1) := ⟨r, σ1, e, rfl, rfl⟩
    unfold fX4_hang at o
    exact (
z_iconst X dX4_hang_0 <|
z_istore_n (L1 := [(2, .int (pI 0)), (0, .ref (G.2.2.1 157)), (1, .int (pI p1))]) X dX4_hang_1 rfl (by decide) rfl <|
z_iload_n X 2 dX4_hang_2 rfl <|
z_istore_n (L1 := [(3, .int (pI p1)), (2, .int (pI 0)), (0, .ref (G.2.2.1 157)), (1, .int (pI p1))]) X dX4_hang_3 rfl (by decide) rfl <|
z_iconst X dX4_hang_4 <|
z_istore (L1 := [(4, .int (pI 0)), (3, .int (pI p1)), (2, .int (pI 0)), (0, .ref (G.2.2.1 157)), (1, .int (pI p1))]) X dX4_hang_5 (by decide) rfl <|
z_join o (fun (y7 : Int × Int) s8 => rg y7.1 ∧ rg y7.2 → At E s8 34 [(0, .ref (G.2.2.1 157)), (1, .int (pI p1)), (2, .int (pI y7.1)), (3, .int (pI y7.2))] []) (fun y7 s8 o r9 =>
z_iload_n X 3 dX4_hang_34 rfl <|
z_iconst X dX4_hang_35 <|
z_icmp_ne (tgt := 43) X dX4_hang_36 (by decide) r9.2 kc_1 o (fun o =>
z_iconst X dX4_hang_43 <|
z_iret X Y dX4_hang_44 o kc_m1) fun o =>
z_iload_n X 2 dX4_hang_39 rfl <|
z_if_ne (tgt := 45) X dX4_hang_40 (by decide) r9.1 o (fun o =>
z_iconst X dX4_hang_45 <|
z_istore (L1 := [(4, .int (pI 0)), (0, .ref (G.2.2.1 157)), (1, .int (pI p1)), (2, .int (pI y7.1)), (3, .int (pI y7.2))]) X dX4_hang_46 (by decide) rfl <|
z_iload_n X 2 dX4_hang_48 rfl <|
z_istore_n (L1 := [(3, .int (pI p1)), (4, .int (pI 0)), (0, .ref (G.2.2.1 157)), (1, .int (pI p1)), (2, .int (pI y7.1))]) X dX4_hang_49 rfl (by decide) rfl <|
z_iload_n X 4 dX4_hang_50 rfl <|
z_iconst X dX4_hang_51 <|
z_isub X dX4_hang_52 <|
z_istoreL (L1 := fun v10 => [(5, .int (pI v10)), (3, .int (pI p1)), (4, .int (pI 0)), (0, .ref (G.2.2.1 157)), (1, .int (pI p1)), (2, .int (pI y7.1))]) (R := rg) X dX4_hang_53 (by decide) (fun _ => rfl) o (w32_rg _) fun v10 r11 o =>
z_join o (fun (y24 : Int) s25 => rg y24 → At E s25 96 [(2, .int (pI y7.1)), (4, .int (pI y24))] []) (fun y24 s25 o r26 =>
z_iload X 1 dX4_hang_96 rfl <|
z_iconst X dX4_hang_98 <|
z_iload_n X 0 dX4_hang_99 rfl <|
z_ishl X dX4_hang_100 <|
z_iconst X dX4_hang_101 <|
z_isub X dX4_hang_102 <|
z_icmp_ne (tgt := 110) X dX4_hang_103 (by decide) r26 (w32_rg _) o (fun o =>
z_iconst X dX4_hang_110 <|
z_iret X Y dX4_hang_111 o kc_m1) fun o =>
z_iload_n X 0 dX4_hang_106 rfl <|
z_goto (tgt := 111) X dX4_hang_107 (by decide) <|
z_iret X Y dX4_hang_111 o r9.1) fun o =>
z_sub (L1 := [(0, .ref (G.2.2.1 157)), (2, .int (pI y7.1)), (3, .int (pI p1)), (4, .int (pI 0)), (5, .int (pI v10))]) X [3, 5, 1, 2, 0] rfl <|
z_iter (fun (x12 : Int × Int × Int) s13 => rg x12.1 ∧ rg x12.2.1 ∧ rg x12.2.2 → At E s13 55 [(0, .ref (G.2.2.1 157)), (2, .int (pI y7.1)), (3, .int (pI x12.1)), (4, .int (pI x12.2.1)), (5, .int (pI x12.2.2))] []) o (fun x12 s13 o r14 =>
z_iload X 4 dX4_hang_55 rfl <|
z_if_lt (tgt := 96) X dX4_hang_57 (by decide) r14.2.2 o (fun o =>
z_sub (L1 := [(2, .int (pI y7.1)), (4, .int (pI x12.2.1))]) X [1, 3] rfl <|
ok_some o r14.2.1) fun o =>
z_aload_n X 0 dX4_hang_60 rfl <|
z_getR (q := 169) X dX4_hang_61 fl_X4_46 sx_157 rfl <|
z_iload X 4 dX4_hang_64 rfl <|
z_iload_n X 2 dX4_hang_66 rfl <|
z_bipush X dX4_hang_67 bi_10 <|
z_irem X dX4_hang_69 r14.1 kc_10 o fun z15 o =>
z_iast X dX4_hang_70 sx_169 r14.2.2 (irm_rg kc_10 z15) o fun s16 o =>
z_iload X 3 dX4_hang_71 rfl <|
z_iconst X dX4_hang_73 <|
z_aload_n X 0 dX4_hang_74 rfl <|
z_getR (q := 169) X dX4_hang_75 fl_X4_46 sx_157 rfl <|
z_iload X 4 dX4_hang_78 rfl <|
z_iald X dX4_hang_80 sx_169 r14.2.2 o fun v17 r18 o =>
z_ishl X dX4_hang_81 <|
z_ior X dX4_hang_82 <|
z_istoreL (L1 := fun v19 => [(4, .int (pI v19)), (0, .ref (G.2.2.1 157)), (2, .int (pI y7.1)), (3, .int (pI x12.1)), (5, .int (pI x12.2.2))]) (R := rg) X dX4_hang_83 (by decide) (fun _ => rfl) o (int_rg _) fun v19 r20 o =>
z_iload_n X 3 dX4_hang_85 rfl <|
z_bipush X dX4_hang_86 bi_10 <|
z_idiv X dX4_hang_88 r14.1 kc_10 o fun z21 o =>
z_istoreL_n (L1 := fun v22 => [(3, .int (pI v22)), (4, .int (pI v19)), (0, .ref (G.2.2.1 157)), (2, .int (pI y7.1)), (5, .int (pI x12.2.2))]) (R := rg) X dX4_hang_89 rfl (by decide) (fun _ => rfl) o (w32_rg _) fun v22 r23 o =>
z_iinc (L1 := [(5, .int (pI (w32 (x12.2.2 + (-1))))), (3, .int (pI v22)), (4, .int (pI v19)), (0, .ref (G.2.2.1 157)), (2, .int (pI y7.1))]) X 4 dX4_hang_90 rfl (by decide) rfl <|
z_goto (tgt := 55) X dX4_hang_93 (by decide) <|
z_sub (L1 := [(0, .ref (G.2.2.1 157)), (2, .int (pI y7.1)), (3, .int (pI v22)), (4, .int (pI v19)), (5, .int (pI (w32 (x12.2.2 + (-1)))))]) X [3, 4, 1, 2, 0] rfl <|
ok_some o ⟨r23, r20, (w32_rg _)⟩) ⟨hp1, kc_0, r11⟩) fun o =>
z_iconst X dX4_hang_43 <|
z_iret X Y dX4_hang_44 o kc_m1) fun o =>
z_sub (L1 := [(0, .ref (G.2.2.1 157)), (1, .int (pI p1)), (2, .int (pI 0)), (3, .int (pI p1)), (4, .int (pI 0))]) X [3, 4, 2, 1, 0] rfl <|
z_iter (fun (x1 : Int × Int × Int) s2 => rg x1.1 ∧ rg x1.2.1 ∧ rg x1.2.2 → At E s2 7 [(0, .ref (G.2.2.1 157)), (1, .int (pI p1)), (2, .int (pI x1.1)), (3, .int (pI x1.2.1)), (4, .int (pI x1.2.2))] []) o (fun x1 s2 o r3 =>
z_iload X 4 dX4_hang_7 rfl <|
z_bipush X dX4_hang_9 bi_9 <|
z_icmp_ge (tgt := 34) X dX4_hang_11 (by decide) r3.2.2 kc_9 o (fun o =>
z_sub (L1 := [(0, .ref (G.2.2.1 157)), (1, .int (pI p1)), (2, .int (pI x1.1)), (3, .int (pI x1.2.1))]) X [0, 1, 2, 3] rfl <|
ok_some o ⟨r3.1, r3.2.1⟩) fun o =>
z_iload_n X 3 dX4_hang_14 rfl <|
z_bipush X dX4_hang_15 bi_10 <|
z_icmp_lt (tgt := 34) X dX4_hang_17 (by decide) r3.2.1 kc_10 o (fun o =>
z_sub (L1 := [(0, .ref (G.2.2.1 157)), (1, .int (pI p1)), (2, .int (pI x1.1)), (3, .int (pI x1.2.1))]) X [0, 1, 2, 3] rfl <|
ok_some o ⟨r3.1, r3.2.1⟩) fun o =>
z_iload_n X 3 dX4_hang_20 rfl <|
z_bipush X dX4_hang_21 bi_10 <|
z_idiv X dX4_hang_23 r3.2.1 kc_10 o fun z4 o =>
z_istoreL_n (L1 := fun v5 => [(3, .int (pI v5)), (0, .ref (G.2.2.1 157)), (1, .int (pI p1)), (2, .int (pI x1.1)), (4, .int (pI x1.2.2))]) (R := rg) X dX4_hang_24 rfl (by decide) (fun _ => rfl) o (w32_rg _) fun v5 r6 o =>
z_iinc (L1 := [(2, .int (pI (w32 (x1.1 + 1)))), (3, .int (pI v5)), (0, .ref (G.2.2.1 157)), (1, .int (pI p1)), (4, .int (pI x1.2.2))]) X 3 dX4_hang_25 rfl (by decide) rfl <|
z_iinc (L1 := [(4, .int (pI (w32 (x1.2.2 + 1)))), (2, .int (pI (w32 (x1.1 + 1)))), (3, .int (pI v5)), (0, .ref (G.2.2.1 157)), (1, .int (pI p1))]) X 4 dX4_hang_28 rfl (by decide) rfl <|
z_goto (tgt := 7) X dX4_hang_31 (by decide) <|
z_sub (L1 := [(0, .ref (G.2.2.1 157)), (1, .int (pI p1)), (2, .int (pI (w32 (x1.1 + 1)))), (3, .int (pI v5)), (4, .int (pI (w32 (x1.2.2 + 1))))]) X [3, 4, 1, 2, 0] rfl <|
ok_some o ⟨(w32_rg _), r6, (w32_rg _)⟩) ⟨kc_0, hp1, kc_0⟩ : At E s0 0 [(0, .ref (G.2.2.1 157)), (1, .int (pI p1))] [])
