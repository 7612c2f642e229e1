set_option maxHeartbeats 4000000 in
set_option maxRecDepth 100000 in
theorem ct_X11_level (p1 : Int) (hp1 : rg p1) (G : Gw) (s0 : St) (r : Int) (σ1 : St) (e : fX11_level p1 s0 = some (r, σ1)) : Ct yX11_level cX11_level 2 (some .int) 2 47 SX G [.ref (G.2.2.1 0), .int (pI p1)] s0 (QI SX G r rg σ1) :=
  Ct.of (by decide +kernel) (Nat.le_of_ble_eq_true rfl) fun E X Y => by
    have o : Ok (fX11_level p1 s0) (fun x σ' => x = r ∧ σ' = σ1) := ⟨r, σ1, e, rfl, rfl⟩
    unfold fX11_level at o
    exact (
z_iload_n X 1 dX11_level_0 rfl <|
z_if_ne (tgt := 12) X dX11_level_1 (by decide) hp1 o (fun o =>
z_iload_n X 1 dX11_level_12 rfl <|
z_iconst X dX11_level_13 <|
z_icmp_ne (tgt := 27) X dX11_level_14 (by decide) hp1 kc_1 o (fun o =>
z_iconst X dX11_level_27 <|
z_iret X Y dX11_level_28 o kc_m1) fun o =>
z_aload_n X 0 dX11_level_17 rfl <|
z_getR (q := 157) X dX11_level_18 fl_X11_90 sx_0 rfl <|
z_callvI X dX11_level_21 q_1335 wX4_ditch sx_157 rfl (by decide) [] [] rfl rfl (Nat.le_of_ble_eq_true rfl) (fun r σ1 e => ct_X4_ditch G _ r σ1 e) o fun r1 s2 h3 o =>
z_goto (tgt := 28) X dX11_level_24 (by decide) <|
z_iret X Y dX11_level_28 o h3) fun o =>
z_aload_n X 0 dX11_level_4 rfl <|
z_getR (q := 157) X dX11_level_5 fl_X11_90 sx_0 rfl <|
z_callvI X dX11_level_8 q_1328 wX4_fewestShovels sx_157 rfl (by decide) [] [] rfl rfl (Nat.le_of_ble_eq_true rfl) (fun r σ1 e => ct_X4_fewestShovels G _ r σ1 e) o fun r4 s5 h6 o =>
z_iret X Y dX11_level_11 o h6 : At E s0 0 [(0, .ref (G.2.2.1 0)), (1, .int (pI p1))] [])
set_option maxHeartbeats 4000000 in
set_option maxRecDepth 100000 in
theorem ct_X2_allSitters   (G : Gw) (s0 : St) (r : Int) (σ1 : St) (e : fX2_allSitters s0 = some (r, σ1)) : Ct yX2_allSitters cX2_allSitters 3 (some .int) 0 0 SX G [.ref (G.2.2.1 3)] s0 (QI SX G r rg σ1) :=
  Ct.of (by decide +kernel) (Nat.le_of_ble_eq_true rfl) fun E X Y => by
    have o : Ok (fX2_allSitters s0) (fun x σ' => x = r ∧ σ' = σ1) := ⟨r, σ1, e, rfl, rfl⟩
    unfold fX2_allSitters at o
    exact (
z_iconst X dX2_allSitters_0 <|
z_istore_n (L1 := [(1, .int (pI 0)), (0, .ref (G.2.2.1 3))]) X dX2_allSitters_1 rfl (by decide) rfl <|
z_iconst X dX2_allSitters_2 <|
z_istore_n (L1 := [(2, .int (pI 0)), (1, .int (pI 0)), (0, .ref (G.2.2.1 3))]) X dX2_allSitters_3 rfl (by decide) rfl <|
z_join o (fun (y10 : Int) s11 => rg y10 → At E s11 34 [(1, .int (pI y10))] []) (fun y10 s11 o r12 =>
z_iload_n X 0 dX2_allSitters_34 rfl <|
z_iret X Y dX2_allSitters_35 o r12) fun o =>
z_sub (L1 := [(0, .ref (G.2.2.1 3)), (1, .int (pI 0)), (2, .int (pI 0))]) X [2, 1, 0] rfl <|
z_iter (fun (x1 : Int × Int) s2 => rg x1.1 ∧ rg x1.2 → At E s2 4 [(0, .ref (G.2.2.1 3)), (1, .int (pI x1.1)), (2, .int (pI x1.2))] []) o (fun x1 s2 o r3 =>
z_iload_n X 2 dX2_allSitters_4 rfl <|
z_aload_n X 0 dX2_allSitters_5 rfl <|
z_getI X dX2_allSitters_6 fl_X2_27 sx_3 rfl o fun v4 r5 o =>
z_icmp_ge (tgt := 34) X dX2_allSitters_9 (by decide) r3.2 r5 o (fun o =>
z_sub (L1 := [(1, .int (pI x1.1))]) X [1] rfl <|
ok_some o r3.1) fun o =>
z_aload_n X 0 dX2_allSitters_12 rfl <|
z_getR (q := 11) X dX2_allSitters_13 fl_X2_52 sx_3 rfl <|
z_iload_n X 2 dX2_allSitters_16 rfl <|
z_iald X dX2_allSitters_17 sx_11 r3.2 o fun v6 r7 o =>
z_iconst X dX2_allSitters_18 <|
z_icmp_eq (tgt := 28) X dX2_allSitters_19 (by decide) r7 kc_m1 o (fun o =>
z_iinc (L1 := [(2, .int (pI (w32 (x1.2 + 1)))), (0, .ref (G.2.2.1 3)), (1, .int (pI x1.1))]) X 2 dX2_allSitters_28 rfl (by decide) rfl <|
z_goto (tgt := 4) X dX2_allSitters_31 (by decide) <|
z_sub (L1 := [(0, .ref (G.2.2.1 3)), (1, .int (pI x1.1)), (2, .int (pI (w32 (x1.2 + 1))))]) X [1, 2, 0] rfl <|
ok_some o ⟨r3.1, (w32_rg _)⟩) fun o =>
z_iload_n X 1 dX2_allSitters_22 rfl <|
z_iconst X dX2_allSitters_23 <|
z_iload_n X 2 dX2_allSitters_24 rfl <|
z_ishl X dX2_allSitters_25 <|
z_ior X dX2_allSitters_26 <|
z_istoreL_n (L1 := fun v8 => [(1, .int (pI v8)), (0, .ref (G.2.2.1 3)), (2, .int (pI x1.2))]) (R := rg) X dX2_allSitters_27 rfl (by decide) (fun _ => rfl) o (int_rg _) fun v8 r9 o =>
z_iinc (L1 := [(2, .int (pI (w32 (x1.2 + 1)))), (1, .int (pI v8)), (0, .ref (G.2.2.1 3))]) X 2 dX2_allSitters_28 rfl (by decide) rfl <|
z_goto (tgt := 4) X dX2_allSitters_31 (by decide) <|
z_sub (L1 := [(0, .ref (G.2.2.1 3)), (1, .int (pI v8)), (2, .int (pI (w32 (x1.2 + 1))))]) X [2, 1, 0] rfl <|
ok_some o ⟨r9, (w32_rg _)⟩) ⟨kc_0, kc_0⟩ : At E s0 0 [(0, .ref (G.2.2.1 3))] [])
set_option maxHeartbeats 4000000 in
set_option maxRecDepth 100000 in
theorem ct_X2_allAccepted   (G : Gw) (s0 : St) (r : Int) (σ1 : St) (e : fX2_allAccepted s0 = some (r, σ1)) : Ct yX2_allAccepted cX2_allAccepted 3 (some .int) 0 0 SX G [.ref (G.2.2.1 3)] s0 (QI SX G r rg σ1) :=
  Ct.of (by decide +kernel) (Nat.le_of_ble_eq_true rfl) fun E X Y => by
    have o : Ok (fX2_allAccepted s0) (fun x σ' => x = r ∧ σ' = σ1) := ⟨r, σ1, e, rfl, rfl⟩
    unfold fX2_allAccepted at o
    exact (
z_iconst X dX2_allAccepted_0 <|
z_istore_n (L1 := [(1, .int (pI 0)), (0, .ref (G.2.2.1 3))]) X dX2_allAccepted_1 rfl (by decide) rfl <|
z_iconst X dX2_allAccepted_2 <|
z_istore_n (L1 := [(2, .int (pI 0)), (1, .int (pI 0)), (0, .ref (G.2.2.1 3))]) X dX2_allAccepted_3 rfl (by decide) rfl <|
z_join o (fun (y10 : Int) s11 => rg y10 → At E s11 34 [(1, .int (pI y10))] []) (fun y10 s11 o r12 =>
z_iload_n X 0 dX2_allAccepted_34 rfl <|
z_iret X Y dX2_allAccepted_35 o r12) fun o =>
z_sub (L1 := [(0, .ref (G.2.2.1 3)), (1, .int (pI 0)), (2, .int (pI 0))]) X [2, 1, 0] rfl <|
z_iter (fun (x1 : Int × Int) s2 => rg x1.1 ∧ rg x1.2 → At E s2 4 [(0, .ref (G.2.2.1 3)), (1, .int (pI x1.1)), (2, .int (pI x1.2))] []) o (fun x1 s2 o r3 =>
z_iload_n X 2 dX2_allAccepted_4 rfl <|
z_aload_n X 0 dX2_allAccepted_5 rfl <|
z_getI X dX2_allAccepted_6 fl_X2_27 sx_3 rfl o fun v4 r5 o =>
z_icmp_ge (tgt := 34) X dX2_allAccepted_9 (by decide) r3.2 r5 o (fun o =>
z_sub (L1 := [(1, .int (pI x1.1))]) X [1] rfl <|
ok_some o r3.1) fun o =>
z_aload_n X 0 dX2_allAccepted_12 rfl <|
z_getR (q := 16) X dX2_allAccepted_13 fl_X2_67 sx_3 rfl <|
z_iload_n X 2 dX2_allAccepted_16 rfl <|
z_iald X dX2_allAccepted_17 sx_16 r3.2 o fun v6 r7 o =>
z_iconst X dX2_allAccepted_18 <|
z_icmp_eq (tgt := 28) X dX2_allAccepted_19 (by decide) r7 kc_m1 o (fun o =>
z_iinc (L1 := [(2, .int (pI (w32 (x1.2 + 1)))), (0, .ref (G.2.2.1 3)), (1, .int (pI x1.1))]) X 2 dX2_allAccepted_28 rfl (by decide) rfl <|
z_goto (tgt := 4) X dX2_allAccepted_31 (by decide) <|
z_sub (L1 := [(0, .ref (G.2.2.1 3)), (1, .int (pI x1.1)), (2, .int (pI (w32 (x1.2 + 1))))]) X [1, 2, 0] rfl <|
ok_some o ⟨r3.1, (w32_rg _)⟩) fun o =>
z_iload_n X 1 dX2_allAccepted_22 rfl <|
z_iconst X dX2_allAccepted_23 <|
z_iload_n X 2 dX2_allAccepted_24 rfl <|
z_ishl X dX2_allAccepted_25 <|
z_ior X dX2_allAccepted_26 <|
z_istoreL_n (L1 := fun v8 => [(1, .int (pI v8)), (0, .ref (G.2.2.1 3)), (2, .int (pI x1.2))]) (R := rg) X dX2_allAccepted_27 rfl (by decide) (fun _ => rfl) o (int_rg _) fun v8 r9 o =>
z_iinc (L1 := [(2, .int (pI (w32 (x1.2 + 1)))), (1, .int (pI v8)), (0, .ref (G.2.2.1 3))]) X 2 dX2_allAccepted_28 rfl (by decide) rfl <|
z_goto (tgt := 4) X dX2_allAccepted_31 (by decide) <|
z_sub (L1 := [(0, .ref (G.2.2.1 3)), (1, .int (pI v8)), (2, .int (pI (w32 (x1.2 + 1))))]) X [2, 1, 0] rfl <|
ok_some o ⟨r9, (w32_rg _)⟩) ⟨kc_0, kc_0⟩ : At E s0 0 [(0, .ref (G.2.2.1 3))] [])
set_option maxHeartbeats 4000000 in
set_option maxRecDepth 100000 in
theorem ct_X11_look (p1 : Int) (hp1 : rg p1) (G : Gw) (s0 : St) (r : Int) (σ1 : St) (e : fX11_look p1 s0 = some (r, σ1)) : Ct yX11_look cX11_look 2 (some .int) 1 22 SX G [.ref (G.2.2.1 0), .int (pI p1)] s0 (QI SX G r rg σ1) :=
  Ct.of (by decide +kernel) (Nat.le_of_ble_eq_true rfl) fun E X Y => by
    have o : Ok (fX11_look p1 s0) (fun x σ' => x = r ∧ σ' = σ1) := ⟨r, σ1, e, rfl, rfl⟩
    unfold fX11_look at o
    exact (
z_iload_n X 1 dX11_look_0 rfl <|
z_cas o (fun c1 o =>
z_tin (tgt := 72) X 0 dX11_look_1 hp1 (by omega) rfl (by omega) (by decide) <|
z_aload_n X 0 dX11_look_72 rfl <|
z_getR (q := 3) X dX11_look_73 fl_X11_19 sx_0 rfl <|
z_getIN X dX11_look_76 fn_X11_410 sx_3 rfl o fun v2 r3 o =>
z_iret X Y dX11_look_79 o r3) fun c1 o =>
z_cas o (fun c4 o =>
z_tin (tgt := 80) X 1 dX11_look_1 hp1 (by omega) rfl (by omega) (by decide) <|
z_aload_n X 0 dX11_look_80 rfl <|
z_getR (q := 3) X dX11_look_81 fl_X11_19 sx_0 rfl <|
z_getIN X dX11_look_84 fn_X11_413 sx_3 rfl o fun v5 r6 o =>
z_iret X Y dX11_look_87 o r6) fun c4 o =>
z_cas o (fun c7 o =>
z_tin (tgt := 88) X 2 dX11_look_1 hp1 (by omega) rfl (by omega) (by decide) <|
z_aload_n X 0 dX11_look_88 rfl <|
z_getR (q := 3) X dX11_look_89 fl_X11_19 sx_0 rfl <|
z_getIN X dX11_look_92 fn_X11_198 sx_3 rfl o fun v8 r9 o =>
z_iret X Y dX11_look_95 o r9) fun c7 o =>
z_cas o (fun c10 o =>
z_tin (tgt := 96) X 3 dX11_look_1 hp1 (by omega) rfl (by omega) (by decide) <|
z_aload_n X 0 dX11_look_96 rfl <|
z_getR (q := 3) X dX11_look_97 fl_X11_19 sx_0 rfl <|
z_getIN X dX11_look_100 fn_X11_195 sx_3 rfl o fun v11 r12 o =>
z_iret X Y dX11_look_103 o r12) fun c10 o =>
z_cas o (fun c13 o =>
z_tin (tgt := 104) X 4 dX11_look_1 hp1 (by omega) rfl (by omega) (by decide) <|
z_aload_n X 0 dX11_look_104 rfl <|
z_getR (q := 3) X dX11_look_105 fl_X11_19 sx_0 rfl <|
z_getIN X dX11_look_108 fn_X11_416 sx_3 rfl o fun v14 r15 o =>
z_iret X Y dX11_look_111 o r15) fun c13 o =>
z_cas o (fun c16 o =>
z_tin (tgt := 112) X 5 dX11_look_1 hp1 (by omega) rfl (by omega) (by decide) <|
z_aload_n X 0 dX11_look_112 rfl <|
z_getR (q := 3) X dX11_look_113 fl_X11_19 sx_0 rfl <|
z_callvI X dX11_look_116 q_1529 wX2_allSitters sx_3 rfl (by decide) [] [] rfl rfl (Nat.le_of_ble_eq_true rfl) (fun r σ1 e => ct_X2_allSitters G _ r σ1 e) o fun r17 s18 h19 o =>
z_iret X Y dX11_look_119 o h19) fun c16 o =>
z_cas o (fun c20 o =>
z_tin (tgt := 120) X 6 dX11_look_1 hp1 (by omega) rfl (by omega) (by decide) <|
z_aload_n X 0 dX11_look_120 rfl <|
z_getR (q := 3) X dX11_look_121 fl_X11_19 sx_0 rfl <|
z_callvI X dX11_look_124 q_1533 wX2_allAccepted sx_3 rfl (by decide) [] [] rfl rfl (Nat.le_of_ble_eq_true rfl) (fun r σ1 e => ct_X2_allAccepted G _ r σ1 e) o fun r21 s22 h23 o =>
z_iret X Y dX11_look_127 o h23) fun c20 o =>
z_cas o (fun c24 o =>
z_tin (tgt := 128) X 7 dX11_look_1 hp1 (by omega) rfl (by omega) (by decide) <|
z_aload_n X 0 dX11_look_128 rfl <|
z_getR (q := 50) X dX11_look_129 fl_X11_35 sx_0 rfl <|
z_callvI X dX11_look_132 q_729 wX6_size sx_50 rfl (by decide) [] [] rfl rfl (Nat.le_of_ble_eq_true rfl) (fun r σ1 e => ct_X6_size SX 50 51 750 ⟨sx_50, sx_51, (by decide)⟩ G _ r σ1 e) o fun r25 s26 h27 o =>
z_iret X Y dX11_look_135 o h27) fun c24 o =>
z_cas o (fun c28 o =>
z_tin (tgt := 136) X 8 dX11_look_1 hp1 (by omega) rfl (by omega) (by decide) <|
z_aload_n X 0 dX11_look_136 rfl <|
z_getR (q := 3) X dX11_look_137 fl_X11_19 sx_0 rfl <|
z_getIN X dX11_look_140 fn_X11_110 sx_3 rfl o fun v29 r30 o =>
z_iret X Y dX11_look_143 o r30) fun c28 o =>
z_cas o (fun c31 o =>
z_tin (tgt := 144) X 9 dX11_look_1 hp1 (by omega) rfl (by omega) (by decide) <|
z_aload_n X 0 dX11_look_144 rfl <|
z_getR (q := 17) X dX11_look_145 fl_X11_26 sx_0 rfl <|
z_getRN (q := 18) X dX11_look_148 fn_X11_425 sx_17 rfl <|
z_callvI X dX11_look_151 q_729 wX6_size sx_18 rfl (by decide) [] [] rfl rfl (Nat.le_of_ble_eq_true rfl) (fun r σ1 e => ct_X6_size SX 18 19 64 ⟨sx_18, sx_19, (by decide)⟩ G _ r σ1 e) o fun r32 s33 h34 o =>
z_iret X Y dX11_look_154 o h34) fun c31 o =>
z_cas o (fun c35 o =>
z_tin (tgt := 155) X 10 dX11_look_1 hp1 (by omega) rfl (by omega) (by decide) <|
z_aload_n X 0 dX11_look_155 rfl <|
z_getR (q := 17) X dX11_look_156 fl_X11_26 sx_0 rfl <|
z_getRN (q := 22) X dX11_look_159 fn_X11_428 sx_17 rfl <|
z_callvI X dX11_look_162 q_729 wX6_size sx_22 rfl (by decide) [] [] rfl rfl (Nat.le_of_ble_eq_true rfl) (fun r σ1 e => ct_X6_size SX 22 23 64 ⟨sx_22, sx_23, (by decide)⟩ G _ r σ1 e) o fun r36 s37 h38 o =>
z_iret X Y dX11_look_165 o h38) fun c35 o =>
z_cas o (fun c39 o =>
z_tin (tgt := 166) X 11 dX11_look_1 hp1 (by omega) rfl (by omega) (by decide) <|
z_aload_n X 0 dX11_look_166 rfl <|
z_getR (q := 17) X dX11_look_167 fl_X11_26 sx_0 rfl <|
z_getRN (q := 24) X dX11_look_170 fn_X11_431 sx_17 rfl <|
z_callvI X dX11_look_173 q_729 wX6_size sx_24 rfl (by decide) [] [] rfl rfl (Nat.le_of_ble_eq_true rfl) (fun r σ1 e => ct_X6_size SX 24 25 64 ⟨sx_24, sx_25, (by decide)⟩ G _ r σ1 e) o fun r40 s41 h42 o =>
z_iret X Y dX11_look_176 o h42) fun c39 o =>
z_cas o (fun c43 o =>
z_tin (tgt := 177) X 12 dX11_look_1 hp1 (by omega) rfl (by omega) (by decide) <|
z_aload_n X 0 dX11_look_177 rfl <|
z_getR (q := 17) X dX11_look_178 fl_X11_26 sx_0 rfl <|
z_getRN (q := 26) X dX11_look_181 fn_X11_434 sx_17 rfl <|
z_callvI X dX11_look_184 q_729 wX6_size sx_26 rfl (by decide) [] [] rfl rfl (Nat.le_of_ble_eq_true rfl) (fun r σ1 e => ct_X6_size SX 26 27 64 ⟨sx_26, sx_27, (by decide)⟩ G _ r σ1 e) o fun r44 s45 h46 o =>
z_iret X Y dX11_look_187 o h46) fun c43 o =>
z_cas o (fun c47 o =>
z_tin (tgt := 188) X 13 dX11_look_1 hp1 (by omega) rfl (by omega) (by decide) <|
z_aload_n X 0 dX11_look_188 rfl <|
z_getR (q := 52) X dX11_look_189 fl_X11_42 sx_0 rfl <|
z_callvI X dX11_look_192 q_1537 wX10_size sx_52 rfl (by decide) [] [] rfl rfl (Nat.le_of_ble_eq_true rfl) (fun r σ1 e => ct_X10_size G _ r σ1 e) o fun r48 s49 h50 o =>
z_iret X Y dX11_look_195 o h50) fun c47 o =>
z_tout (tgt := 196) X dX11_look_1 hp1 (by omega) (by decide) <|
z_iconst X dX11_look_196 <|
z_iret X Y dX11_look_197 o kc_m1 : At E s0 0 [(0, .ref (G.2.2.1 0)), (1, .int (pI p1))] [])
set_option maxHeartbeats 4000000 in
set_option maxRecDepth 100000 in
theorem ct_X11_matched (p1 : Int) (p2 : Int) (p3 : Int) (hp1 : rg p1) (hp2 : rg p2) (hp3 : rg p3) (G : Gw) (s0 : St) (r : Int) (σ1 : St) (e : fX11_matched p1 p2 p3 s0 = some (r, σ1)) : Ct yX11_matched cX11_matched 4 (some .int) 6 142 SX G [.ref (G.2.2.1 0), .int (pI p1), .int (pI p2), .int (pI p3)] s0 (QI SX G r rg σ1) :=
  Ct.of (by decide +kernel) (Nat.le_of_ble_eq_true rfl) fun E X Y => by
    have o : Ok (fX11_matched p1 p2 p3 s0) (fun x σ' => x = r ∧ σ' = σ1) := ⟨r, σ1, e, rfl, rfl⟩
    unfold fX11_matched at o
    exact (
z_iload_n X 1 dX11_matched_0 rfl <|
z_iconst X dX11_matched_1 <|
z_icmp_ne (tgt := 13) X dX11_matched_2 (by decide) hp1 kc_m1 o (fun o =>
z_iload_n X 1 dX11_matched_13 rfl <|
z_iconst X dX11_matched_14 <|
z_iconst X dX11_matched_15 <|
z_callsI X dX11_matched_16 q_681 wX11_within  (by decide) [.int (pI p1), .int (pI 0), .int (pI 1)] [] rfl rfl (Nat.le_of_ble_eq_true rfl) (fun r σ1 e => ct_X11_within p1 0 1 hp1 kc_0 kc_1 G _ r σ1 e) o fun r1 s2 h3 o =>
z_if_eq (tgt := 40) X dX11_matched_19 (by decide) (r01_rg h3) o (fun o =>
z_iconst X dX11_matched_40 <|
z_iret X Y dX11_matched_41 o kc_m1) fun o =>
z_iload_n X 2 dX11_matched_22 rfl <|
z_iconst X dX11_matched_23 <|
z_iconst X dX11_matched_24 <|
z_callsI X dX11_matched_25 q_681 wX11_within  (by decide) [.int (pI p2), .int (pI 0), .int (pI 4)] [] rfl rfl (Nat.le_of_ble_eq_true rfl) (fun r σ1 e => ct_X11_within p2 0 4 hp2 kc_0 kc_4 G _ r σ1 e) o fun r4 s5 h6 o =>
z_if_eq (tgt := 40) X dX11_matched_28 (by decide) (r01_rg h6) o (fun o =>
z_iconst X dX11_matched_40 <|
z_iret X Y dX11_matched_41 o kc_m1) fun o =>
z_iload_n X 3 dX11_matched_31 rfl <|
z_iconst X dX11_matched_32 <|
z_iconst X dX11_matched_33 <|
z_callsI X dX11_matched_34 q_681 wX11_within  (by decide) [.int (pI p3), .int (pI 0), .int (pI 1)] [] rfl rfl (Nat.le_of_ble_eq_true rfl) (fun r σ1 e => ct_X11_within p3 0 1 hp3 kc_0 kc_1 G _ r σ1 e) o fun r7 s8 h9 o =>
z_if_ne (tgt := 42) X dX11_matched_37 (by decide) (r01_rg h9) o (fun o =>
z_aload_n X 0 dX11_matched_42 rfl <|
z_getR (q := 153) X dX11_matched_43 fl_X11_81 sx_0 rfl <|
z_iload_n X 1 dX11_matched_46 rfl <|
z_iload_n X 2 dX11_matched_47 rfl <|
z_iload_n X 3 dX11_matched_48 rfl <|
z_callvI X dX11_matched_49 q_1237 wX0_partner sx_153 rfl (by decide) [.int (pI p1), .int (pI p2), .int (pI p3)] [] rfl rfl (Nat.le_of_ble_eq_true rfl) (fun r σ1 e => ct_X0_partner p1 p2 p3 hp1 hp2 hp3 G _ r σ1 e) o fun r10 s11 h12 o =>
z_iret X Y dX11_matched_52 o h12) fun o =>
z_iconst X dX11_matched_40 <|
z_iret X Y dX11_matched_41 o kc_m1) fun o =>
z_aload_n X 0 dX11_matched_5 rfl <|
z_getR (q := 153) X dX11_matched_6 fl_X11_81 sx_0 rfl <|
z_callvI X dX11_matched_9 q_1213 wX0_settled sx_153 rfl (by decide) [] [] rfl rfl (Nat.le_of_ble_eq_true rfl) (fun r σ1 e => ct_X0_settled G _ r σ1 e) o fun r13 s14 h15 o =>
z_iret X Y dX11_matched_12 o h15 : At E s0 0 [(0, .ref (G.2.2.1 0)), (1, .int (pI p1)), (2, .int (pI p2)), (3, .int (pI p3))] [])
set_option maxHeartbeats 4000000 in
set_option maxRecDepth 100000 in
theorem ct_X11_minutes (p1 : Int) (hp1 : rg p1) (G : Gw) (s0 : St) (r : Int) (σ1 : St) (e : fX11_minutes p1 s0 = some (r, σ1)) : Ct yX11_minutes cX11_minutes 4 (some .int) 6 148 SX G [.ref (G.2.2.1 0), .int (pI p1)] s0 (QI SX G r rg σ1) :=
  Ct.of (by decide +kernel) (Nat.le_of_ble_eq_true rfl) fun E X Y => by
    have o : Ok (fX11_minutes p1 s0) (fun x σ' => x = r ∧ σ' = σ1) := ⟨r, σ1, e, rfl, rfl⟩
    unfold fX11_minutes at o
    exact (
z_iload_n X 1 dX11_minutes_0 rfl <|
z_iconst X dX11_minutes_1 <|
z_bipush X dX11_minutes_2 bi_60 <|
z_callsI X dX11_minutes_4 q_681 wX11_within  (by decide) [.int (pI p1), .int (pI 1), .int (pI 60)] [] rfl rfl (Nat.le_of_ble_eq_true rfl) (fun r σ1 e => ct_X11_within p1 1 60 hp1 kc_1 kc_60 G _ r σ1 e) o fun r1 s2 h3 o =>
z_if_ne (tgt := 12) X dX11_minutes_7 (by decide) (r01_rg h3) o (fun o =>
z_aload_n X 0 dX11_minutes_12 rfl <|
z_getR (q := 3) X dX11_minutes_13 fl_X11_19 sx_0 rfl <|
z_getIN X dX11_minutes_16 fn_X11_195 sx_3 rfl o fun v4 r5 o =>
z_aload_n X 0 dX11_minutes_19 rfl <|
z_getR (q := 3) X dX11_minutes_20 fl_X11_19 sx_0 rfl <|
z_getIN X dX11_minutes_23 fn_X11_198 sx_3 rfl o fun v6 r7 o =>
z_iload_n X 1 dX11_minutes_26 rfl <|
z_iadd X dX11_minutes_27 <|
z_bipush X dX11_minutes_28 bi_60 <|
z_idiv X dX11_minutes_30 (w32_rg _) kc_60 o fun z8 o =>
z_iadd X dX11_minutes_31 <|
z_sipush X dX11_minutes_32 si_9990 <|
z_icmp_le (tgt := 40) X dX11_minutes_35 (by decide) (w32_rg _) kc_9990 o (fun o =>
z_iconst X dX11_minutes_40 <|
z_istore_n (L1 := [(2, .int (pI 0)), (0, .ref (G.2.2.1 0)), (1, .int (pI p1))]) X dX11_minutes_41 rfl (by decide) rfl <|
z_iconst X dX11_minutes_42 <|
z_istore_n (L1 := [(3, .int (pI 0)), (2, .int (pI 0)), (0, .ref (G.2.2.1 0)), (1, .int (pI p1))]) X dX11_minutes_43 rfl (by decide) rfl <|
z_join o (fun (y23 : Int) s24 => rg y23 → At E s24 84 [(2, .int (pI y23))] []) (fun y23 s24 o r25 =>
z_iload_n X 0 dX11_minutes_84 rfl <|
z_iret X Y dX11_minutes_85 o r25) fun o =>
z_sub (L1 := [(0, .ref (G.2.2.1 0)), (1, .int (pI p1)), (2, .int (pI 0)), (3, .int (pI 0))]) X [2, 3, 1, 0] rfl <|
z_iter (fun (x9 : Int × Int) s10 => rg x9.1 ∧ rg x9.2 → At E s10 44 [(0, .ref (G.2.2.1 0)), (1, .int (pI p1)), (2, .int (pI x9.1)), (3, .int (pI x9.2))] []) o (fun x9 s10 o r11 =>
z_iload_n X 3 dX11_minutes_44 rfl <|
z_iload_n X 1 dX11_minutes_45 rfl <|
z_icmp_ge (tgt := 84) X dX11_minutes_46 (by decide) r11.2 hp1 o (fun o =>
z_sub (L1 := [(2, .int (pI x9.1))]) X [2] rfl <|
ok_some o r11.1) fun o =>
z_aload_n X 0 dX11_minutes_49 rfl <|
z_getR (q := 52) X dX11_minutes_50 fl_X11_42 sx_0 rfl <|
z_aload_n X 0 dX11_minutes_53 rfl <|
z_getR (q := 3) X dX11_minutes_54 fl_X11_19 sx_0 rfl <|
z_aload_n X 0 dX11_minutes_57 rfl <|
z_getR (q := 50) X dX11_minutes_58 fl_X11_35 sx_0 rfl <|
z_callvI X dX11_minutes_61 q_729 wX6_size sx_50 rfl (by decide) [] [.ref (G.2.2.1 3), .ref (G.2.2.1 52)] rfl rfl (Nat.le_of_ble_eq_true rfl) (fun r σ1 e => ct_X6_size SX 50 51 750 ⟨sx_50, sx_51, (by decide)⟩ G _ r σ1 e) o fun r12 s13 h14 o =>
z_callvV X dX11_minutes_64 q_733 wX10_keep sx_52 rfl (by decide) [.ref (G.2.2.1 3), .int (pI r12)] [] rfl rfl (Nat.le_of_ble_eq_true rfl) (fun r σ1 e => ct_X10_keep r12 h14 G _ r σ1 e) o fun r15 s16 o =>
z_iload_n X 2 dX11_minutes_67 rfl <|
z_aload_n X 0 dX11_minutes_68 rfl <|
z_getR (q := 152) X dX11_minutes_69 fl_X11_69 sx_0 rfl <|
z_iconst X dX11_minutes_72 <|
z_callvI X dX11_minutes_73 q_783 wX1_pass sx_152 rfl (by decide) [.int (pI 0)] [.int (pI x9.1)] rfl rfl (Nat.le_of_ble_eq_true rfl) (fun r σ1 e => ct_X1_pass 0 kb_0 G _ r σ1 e) o fun r18 s19 h20 o =>
z_iadd X dX11_minutes_76 <|
z_istoreL_n (L1 := fun v21 => [(2, .int (pI v21)), (0, .ref (G.2.2.1 0)), (1, .int (pI p1)), (3, .int (pI x9.2))]) (R := rg) X dX11_minutes_77 rfl (by decide) (fun _ => rfl) o (w32_rg _) fun v21 r22 o =>
z_iinc (L1 := [(3, .int (pI (w32 (x9.2 + 1)))), (2, .int (pI v21)), (0, .ref (G.2.2.1 0)), (1, .int (pI p1))]) X 3 dX11_minutes_78 rfl (by decide) rfl <|
z_goto (tgt := 44) X dX11_minutes_81 (by decide) <|
z_sub (L1 := [(0, .ref (G.2.2.1 0)), (1, .int (pI p1)), (2, .int (pI v21)), (3, .int (pI (w32 (x9.2 + 1))))]) X [2, 3, 1, 0] rfl <|
ok_some o ⟨r22, (w32_rg _)⟩) ⟨kc_0, kc_0⟩) fun o =>
z_iconst X dX11_minutes_38 <|
z_iret X Y dX11_minutes_39 o kc_m1) fun o =>
z_iconst X dX11_minutes_10 <|
z_iret X Y dX11_minutes_11 o kc_m1 : At E s0 0 [(0, .ref (G.2.2.1 0)), (1, .int (pI p1))] [])
set_option maxHeartbeats 4000000 in
set_option maxRecDepth 100000 in
theorem ct_X11_of (p1 : Int) (p2 : Int) (hp1 : rg p1) (hp2 : rg p2) (G : Gw) (s0 : St) (r : Int) (σ1 : St) (e : fX11_of p1 p2 s0 = some (r, σ1)) : Ct yX11_of cX11_of 3 (some .int) 3 76 SX G [.ref (G.2.2.1 0), .int (pI p1), .int (pI p2)] s0 (QI SX G r rg σ1) :=
  Ct.of (by decide +kernel) (Nat.le_of_ble_eq_true rfl) fun E X Y => by
    have o : Ok (fX11_of p1 p2 s0) (fun x σ' => x = r ∧ σ' = σ1) := ⟨r, σ1, e, rfl, rfl⟩
    unfold fX11_of at o
    exact (
z_aload_n X 0 dX11_of_0 rfl <|
z_getR (q := 3) X dX11_of_1 fl_X11_19 sx_0 rfl <|
z_iload_n X 1 dX11_of_4 rfl <|
z_callvI X dX11_of_5 q_708 wX2_hasPerson sx_3 rfl (by decide) [.int (pI p1)] [] rfl rfl (Nat.le_of_ble_eq_true rfl) (fun r σ1 e => ct_X2_hasPerson p1 hp1 G _ r σ1 e) o fun r1 s2 h3 o =>
z_if_ne (tgt := 14) X dX11_of_8 (by decide) (r01_rg h3) o (fun o =>
z_iload_n X 2 dX11_of_14 rfl <|
z_cas o (fun c4 o =>
z_tin (tgt := 60) X 0 dX11_of_15 hp2 (by omega) rfl (by omega) (by decide) <|
z_aload_n X 0 dX11_of_60 rfl <|
z_getR (q := 3) X dX11_of_61 fl_X11_19 sx_0 rfl <|
z_getRN (q := 9) X dX11_of_64 fn_X11_148 sx_3 rfl <|
z_iload_n X 1 dX11_of_67 rfl <|
z_iald X dX11_of_68 sx_9 hp1 o fun v5 r6 o =>
z_iret X Y dX11_of_69 o r6) fun c4 o =>
z_cas o (fun c7 o =>
z_tin (tgt := 70) X 1 dX11_of_15 hp2 (by omega) rfl (by omega) (by decide) <|
z_aload_n X 0 dX11_of_70 rfl <|
z_getR (q := 3) X dX11_of_71 fl_X11_19 sx_0 rfl <|
z_getRN (q := 10) X dX11_of_74 fn_X11_151 sx_3 rfl <|
z_iload_n X 1 dX11_of_77 rfl <|
z_iald X dX11_of_78 sx_10 hp1 o fun v8 r9 o =>
z_iret X Y dX11_of_79 o r9) fun c7 o =>
z_cas o (fun c10 o =>
z_tin (tgt := 80) X 2 dX11_of_15 hp2 (by omega) rfl (by omega) (by decide) <|
z_aload_n X 0 dX11_of_80 rfl <|
z_getR (q := 3) X dX11_of_81 fl_X11_19 sx_0 rfl <|
z_getRN (q := 11) X dX11_of_84 fn_X11_167 sx_3 rfl <|
z_iload_n X 1 dX11_of_87 rfl <|
z_iald X dX11_of_88 sx_11 hp1 o fun v11 r12 o =>
z_iret X Y dX11_of_89 o r12) fun c10 o =>
z_cas o (fun c13 o =>
z_tin (tgt := 90) X 3 dX11_of_15 hp2 (by omega) rfl (by omega) (by decide) <|
z_aload_n X 0 dX11_of_90 rfl <|
z_getR (q := 3) X dX11_of_91 fl_X11_19 sx_0 rfl <|
z_getRN (q := 12) X dX11_of_94 fn_X11_259 sx_3 rfl <|
z_iload_n X 1 dX11_of_97 rfl <|
z_iald X dX11_of_98 sx_12 hp1 o fun v14 r15 o =>
z_iret X Y dX11_of_99 o r15) fun c13 o =>
z_cas o (fun c16 o =>
z_tin (tgt := 100) X 4 dX11_of_15 hp2 (by omega) rfl (by omega) (by decide) <|
z_aload_n X 0 dX11_of_100 rfl <|
z_getR (q := 3) X dX11_of_101 fl_X11_19 sx_0 rfl <|
z_getRN (q := 14) X dX11_of_104 fn_X11_262 sx_3 rfl <|
z_iload_n X 1 dX11_of_107 rfl <|
z_iald X dX11_of_108 sx_14 hp1 o fun v17 r18 o =>
z_iret X Y dX11_of_109 o r18) fun c16 o =>
z_cas o (fun c19 o =>
z_tin (tgt := 110) X 5 dX11_of_15 hp2 (by omega) rfl (by omega) (by decide) <|
z_aload_n X 0 dX11_of_110 rfl <|
z_getR (q := 3) X dX11_of_111 fl_X11_19 sx_0 rfl <|
z_getRN (q := 15) X dX11_of_114 fn_X11_265 sx_3 rfl <|
z_iload_n X 1 dX11_of_117 rfl <|
z_iald X dX11_of_118 sx_15 hp1 o fun v20 r21 o =>
z_iret X Y dX11_of_119 o r21) fun c19 o =>
z_cas o (fun c22 o =>
z_tin (tgt := 120) X 6 dX11_of_15 hp2 (by omega) rfl (by omega) (by decide) <|
z_aload_n X 0 dX11_of_120 rfl <|
z_getR (q := 3) X dX11_of_121 fl_X11_19 sx_0 rfl <|
z_getRN (q := 16) X dX11_of_124 fn_X11_268 sx_3 rfl <|
z_iload_n X 1 dX11_of_127 rfl <|
z_iald X dX11_of_128 sx_16 hp1 o fun v23 r24 o =>
z_iret X Y dX11_of_129 o r24) fun c22 o =>
z_cas o (fun c25 o =>
z_tin (tgt := 130) X 7 dX11_of_15 hp2 (by omega) rfl (by omega) (by decide) <|
z_aload_n X 0 dX11_of_130 rfl <|
z_getR (q := 3) X dX11_of_131 fl_X11_19 sx_0 rfl <|
z_getRN (q := 11) X dX11_of_134 fn_X11_167 sx_3 rfl <|
z_iload_n X 1 dX11_of_137 rfl <|
z_iald X dX11_of_138 sx_11 hp1 o fun v26 r27 o =>
z_iconst X dX11_of_139 <|
z_icmp_ne (tgt := 147) X dX11_of_140 (by decide) r27 kc_m1 o (fun o =>
z_aload_n X 0 dX11_of_147 rfl <|
z_getR (q := 149) X dX11_of_148 fl_X11_60 sx_0 rfl <|
z_sipush X dX11_of_151 si_260 <|
z_iload_n X 1 dX11_of_154 rfl <|
z_aload_n X 0 dX11_of_155 rfl <|
z_getR (q := 3) X dX11_of_156 fl_X11_19 sx_0 rfl <|
z_getRN (q := 11) X dX11_of_159 fn_X11_167 sx_3 rfl <|
z_iload_n X 1 dX11_of_162 rfl <|
z_iald X dX11_of_163 sx_11 hp1 o fun v28 r29 o =>
z_callvI X dX11_of_164 q_1171 wX3_tells sx_149 rfl (by decide) [.int (pI 260), .int (pI p1), .int (pI v28)] [] rfl rfl (Nat.le_of_ble_eq_true rfl) (fun r σ1 e => ct_X3_tells 260 p1 v28 kc_260 hp1 r29 G _ r σ1 e) o fun r30 s31 h32 o =>
z_iret X Y dX11_of_167 o h32) fun o =>
z_iconst X dX11_of_143 <|
z_goto (tgt := 167) X dX11_of_144 (by decide) <|
z_iret X Y dX11_of_167 o kc_m1) fun c25 o =>
z_tout (tgt := 168) X dX11_of_15 hp2 (by omega) (by decide) <|
z_bipush X dX11_of_168 bi_m2 <|
z_iret X Y dX11_of_170 o kc_m2) fun o =>
z_bipush X dX11_of_11 bi_m2 <|
z_iret X Y dX11_of_13 o kc_m2 : At E s0 0 [(0, .ref (G.2.2.1 0)), (1, .int (pI p1)), (2, .int (pI p2))] [])
set_option maxHeartbeats 4000000 in
set_option maxRecDepth 100000 in
theorem ct_X2_addPerson (p1 : Int) (p2 : Int) (hp1 : rg p1) (hp2 : rg p2) (G : Gw) (s0 : St) (r : Int) (σ1 : St) (e : fX2_addPerson p1 p2 s0 = some (r, σ1)) : Ct yX2_addPerson cX2_addPerson 3 (some .int) 0 0 SX G [.ref (G.2.2.1 3), .int (pI p1), .int (pI p2)] s0 (QI SX G r rg σ1) :=
  Ct.of (by decide +kernel) (Nat.le_of_ble_eq_true rfl) fun E X Y => by
    have o : Ok (fX2_addPerson p1 p2 s0) (fun x σ' => x = r ∧ σ' = σ1) := ⟨r, σ1, e, rfl, rfl⟩
    unfold fX2_addPerson at o
    exact (
z_aload_n X 0 dX2_addPerson_0 rfl <|
z_getI X dX2_addPerson_1 fl_X2_27 sx_3 rfl o fun v1 r2 o =>
z_bipush X dX2_addPerson_4 bi_20 <|
z_icmp_lt (tgt := 11) X dX2_addPerson_6 (by decide) r2 kc_20 o (fun o =>
z_aload_n X 0 dX2_addPerson_11 rfl <|
z_getR (q := 9) X dX2_addPerson_12 fl_X2_46 sx_3 rfl <|
z_aload_n X 0 dX2_addPerson_15 rfl <|
z_getI X dX2_addPerson_16 fl_X2_27 sx_3 rfl o fun v3 r4 o =>
z_iload_n X 1 dX2_addPerson_19 rfl <|
z_iast X dX2_addPerson_20 sx_9 r4 hp1 o fun s5 o =>
z_aload_n X 0 dX2_addPerson_21 rfl <|
z_getR (q := 10) X dX2_addPerson_22 fl_X2_49 sx_3 rfl <|
z_aload_n X 0 dX2_addPerson_25 rfl <|
z_getI X dX2_addPerson_26 fl_X2_27 sx_3 rfl o fun v6 r7 o =>
z_iload_n X 2 dX2_addPerson_29 rfl <|
z_iast X dX2_addPerson_30 sx_10 r7 hp2 o fun s8 o =>
z_aload_n X 0 dX2_addPerson_31 rfl <|
z_getR (q := 11) X dX2_addPerson_32 fl_X2_52 sx_3 rfl <|
z_aload_n X 0 dX2_addPerson_35 rfl <|
z_getI X dX2_addPerson_36 fl_X2_27 sx_3 rfl o fun v9 r10 o =>
z_iconst X dX2_addPerson_39 <|
z_iast X dX2_addPerson_40 sx_11 r10 kc_m1 o fun s11 o =>
z_aload_n X 0 dX2_addPerson_41 rfl <|
z_getR (q := 12) X dX2_addPerson_42 fl_X2_55 sx_3 rfl <|
z_aload_n X 0 dX2_addPerson_45 rfl <|
z_getI X dX2_addPerson_46 fl_X2_27 sx_3 rfl o fun v12 r13 o =>
z_iconst X dX2_addPerson_49 <|
z_iast X dX2_addPerson_50 sx_12 r13 kc_0 o fun s14 o =>
z_aload_n X 0 dX2_addPerson_51 rfl <|
z_getR (q := 13) X dX2_addPerson_52 fl_X2_58 sx_3 rfl <|
z_aload_n X 0 dX2_addPerson_55 rfl <|
z_getI X dX2_addPerson_56 fl_X2_27 sx_3 rfl o fun v15 r16 o =>
z_iconst X dX2_addPerson_59 <|
z_iast X dX2_addPerson_60 sx_13 r16 kc_0 o fun s17 o =>
z_aload_n X 0 dX2_addPerson_61 rfl <|
z_getR (q := 14) X dX2_addPerson_62 fl_X2_61 sx_3 rfl <|
z_aload_n X 0 dX2_addPerson_65 rfl <|
z_getI X dX2_addPerson_66 fl_X2_27 sx_3 rfl o fun v18 r19 o =>
z_iconst X dX2_addPerson_69 <|
z_iast X dX2_addPerson_70 sx_14 r19 kc_0 o fun s20 o =>
z_aload_n X 0 dX2_addPerson_71 rfl <|
z_getR (q := 15) X dX2_addPerson_72 fl_X2_64 sx_3 rfl <|
z_aload_n X 0 dX2_addPerson_75 rfl <|
z_getI X dX2_addPerson_76 fl_X2_27 sx_3 rfl o fun v21 r22 o =>
z_iconst X dX2_addPerson_79 <|
z_iast X dX2_addPerson_80 sx_15 r22 kc_0 o fun s23 o =>
z_aload_n X 0 dX2_addPerson_81 rfl <|
z_getR (q := 16) X dX2_addPerson_82 fl_X2_67 sx_3 rfl <|
z_aload_n X 0 dX2_addPerson_85 rfl <|
z_getI X dX2_addPerson_86 fl_X2_27 sx_3 rfl o fun v24 r25 o =>
z_iconst X dX2_addPerson_89 <|
z_iast X dX2_addPerson_90 sx_16 r25 kc_m1 o fun s26 o =>
z_aload_n X 0 dX2_addPerson_91 rfl <|
z_dup X dX2_addPerson_92 rfl <|
z_getI X dX2_addPerson_93 fl_X2_27 sx_3 rfl o fun v27 r28 o =>
z_iconst X dX2_addPerson_96 <|
z_iadd X dX2_addPerson_97 <|
z_putI X dX2_addPerson_98 fl_X2_27 sx_3 ft_X2_5 rfl (w32_rg _) o fun s29 o =>
z_aload_n X 0 dX2_addPerson_101 rfl <|
z_getI X dX2_addPerson_102 fl_X2_27 sx_3 rfl o fun v30 r31 o =>
z_iconst X dX2_addPerson_105 <|
z_isub X dX2_addPerson_106 <|
z_iret X Y dX2_addPerson_107 o (w32_rg _)) fun o =>
z_iconst X dX2_addPerson_9 <|
z_iret X Y dX2_addPerson_10 o kc_m1 : At E s0 0 [(0, .ref (G.2.2.1 3)), (1, .int (pI p1)), (2, .int (pI p2))] [])
set_option maxHeartbeats 4000000 in
set_option maxRecDepth 100000 in
theorem ct_X11_person (p1 : Int) (p2 : Int) (hp1 : rg p1) (hp2 : rg p2) (G : Gw) (s0 : St) (r : Int) (σ1 : St) (e : fX11_person p1 p2 s0 = some (r, σ1)) : Ct yX11_person cX11_person 4 (some .int) 1 22 SX G [.ref (G.2.2.1 0), .int (pI p1), .int (pI p2)] s0 (QI SX G r rg σ1) :=
  Ct.of (by decide +kernel) (Nat.le_of_ble_eq_true rfl) fun E X Y => by
    have o : Ok (fX11_person p1 p2 s0) (fun x σ' => x = r ∧ σ' = σ1) := ⟨r, σ1, e, rfl, rfl⟩
    unfold fX11_person at o
    exact (
z_iload_n X 1 dX11_person_0 rfl <|
z_iconst X dX11_person_1 <|
z_bipush X dX11_person_2 bi_9 <|
z_callsI X dX11_person_4 q_681 wX11_within  (by decide) [.int (pI p1), .int (pI 0), .int (pI 9)] [] rfl rfl (Nat.le_of_ble_eq_true rfl) (fun r σ1 e => ct_X11_within p1 0 9 hp1 kc_0 kc_9 G _ r σ1 e) o fun r1 s2 h3 o =>
z_if_eq (tgt := 20) X dX11_person_7 (by decide) (r01_rg h3) o (fun o =>
z_iconst X dX11_person_20 <|
z_iret X Y dX11_person_21 o kc_m1) fun o =>
z_iload_n X 2 dX11_person_10 rfl <|
z_iconst X dX11_person_11 <|
z_bipush X dX11_person_12 bi_9 <|
z_callsI X dX11_person_14 q_681 wX11_within  (by decide) [.int (pI p2), .int (pI 0), .int (pI 9)] [] rfl rfl (Nat.le_of_ble_eq_true rfl) (fun r σ1 e => ct_X11_within p2 0 9 hp2 kc_0 kc_9 G _ r σ1 e) o fun r4 s5 h6 o =>
z_if_ne (tgt := 22) X dX11_person_17 (by decide) (r01_rg h6) o (fun o =>
z_aload_n X 0 dX11_person_22 rfl <|
z_getR (q := 3) X dX11_person_23 fl_X11_19 sx_0 rfl <|
z_iload_n X 1 dX11_person_26 rfl <|
z_iload_n X 2 dX11_person_27 rfl <|
z_callvI X dX11_person_28 q_692 wX2_addPerson sx_3 rfl (by decide) [.int (pI p1), .int (pI p2)] [] rfl rfl (Nat.le_of_ble_eq_true rfl) (fun r σ1 e => ct_X2_addPerson p1 p2 hp1 hp2 G _ r σ1 e) o fun r7 s8 h9 o =>
z_istore_n (L1 := [(3, .int (pI r7)), (0, .ref (G.2.2.1 0)), (1, .int (pI p1)), (2, .int (pI p2))]) X dX11_person_31 rfl (by decide) rfl <|
z_iload_n X 0 dX11_person_32 rfl <|
z_iconst X dX11_person_33 <|
z_icmp_eq (tgt := 44) X dX11_person_34 (by decide) h9 kc_m1 o (fun o =>
z_iload_n X 0 dX11_person_44 rfl <|
z_iret X Y dX11_person_45 o h9) fun o =>
z_aload_n X 1 dX11_person_37 rfl <|
z_getR (q := 52) X dX11_person_38 fl_X11_42 sx_0 rfl <|
z_callvV X dX11_person_41 q_673 wX10_forget sx_52 rfl (by decide) [] [] rfl rfl (Nat.le_of_ble_eq_true rfl) (fun r σ1 e => ct_X10_forget G _ r σ1 e) o fun r10 s11 o =>
z_iload_n X 0 dX11_person_44 rfl <|
z_iret X Y dX11_person_45 o h9) fun o =>
z_iconst X dX11_person_20 <|
z_iret X Y dX11_person_21 o kc_m1 : At E s0 0 [(0, .ref (G.2.2.1 0)), (1, .int (pI p1)), (2, .int (pI p2))] [])
set_option maxHeartbeats 4000000 in
set_option maxRecDepth 100000 in
theorem ct_X2_addPorch (p1 : Int) (p2 : Int) (hp1 : rg p1) (hp2 : rg p2) (G : Gw) (s0 : St) (r : Int) (σ1 : St) (e : fX2_addPorch p1 p2 s0 = some (r, σ1)) : Ct yX2_addPorch cX2_addPorch 3 (some .int) 0 0 SX G [.ref (G.2.2.1 3), .int (pI p1), .int (pI p2)] s0 (QI SX G r rg σ1) :=
  Ct.of (by decide +kernel) (Nat.le_of_ble_eq_true rfl) fun E X Y => by
    have o : Ok (fX2_addPorch p1 p2 s0) (fun x σ' => x = r ∧ σ' = σ1) := ⟨r, σ1, e, rfl, rfl⟩
    unfold fX2_addPorch at o
    exact (
z_aload_n X 0 dX2_addPorch_0 rfl <|
z_getI X dX2_addPorch_1 fl_X2_24 sx_3 rfl o fun v1 r2 o =>
z_bipush X dX2_addPorch_4 bi_12 <|
z_icmp_lt (tgt := 11) X dX2_addPorch_6 (by decide) r2 kc_12 o (fun o =>
z_aload_n X 0 dX2_addPorch_11 rfl <|
z_getR (q := 4) X dX2_addPorch_12 fl_X2_30 sx_3 rfl <|
z_aload_n X 0 dX2_addPorch_15 rfl <|
z_getI X dX2_addPorch_16 fl_X2_24 sx_3 rfl o fun v3 r4 o =>
z_iload_n X 1 dX2_addPorch_19 rfl <|
z_iast X dX2_addPorch_20 sx_4 r4 hp1 o fun s5 o =>
z_aload_n X 0 dX2_addPorch_21 rfl <|
z_getR (q := 5) X dX2_addPorch_22 fl_X2_34 sx_3 rfl <|
z_aload_n X 0 dX2_addPorch_25 rfl <|
z_getI X dX2_addPorch_26 fl_X2_24 sx_3 rfl o fun v6 r7 o =>
z_iload_n X 2 dX2_addPorch_29 rfl <|
z_iast X dX2_addPorch_30 sx_5 r7 hp2 o fun s8 o =>
z_aload_n X 0 dX2_addPorch_31 rfl <|
z_getR (q := 6) X dX2_addPorch_32 fl_X2_37 sx_3 rfl <|
z_aload_n X 0 dX2_addPorch_35 rfl <|
z_getI X dX2_addPorch_36 fl_X2_24 sx_3 rfl o fun v9 r10 o =>
z_iconst X dX2_addPorch_39 <|
z_iast X dX2_addPorch_40 sx_6 r10 kc_0 o fun s11 o =>
z_aload_n X 0 dX2_addPorch_41 rfl <|
z_getR (q := 7) X dX2_addPorch_42 fl_X2_40 sx_3 rfl <|
z_aload_n X 0 dX2_addPorch_45 rfl <|
z_getI X dX2_addPorch_46 fl_X2_24 sx_3 rfl o fun v12 r13 o =>
z_iconst X dX2_addPorch_49 <|
z_iast X dX2_addPorch_50 sx_7 r13 kc_m1 o fun s14 o =>
z_aload_n X 0 dX2_addPorch_51 rfl <|
z_getR (q := 8) X dX2_addPorch_52 fl_X2_43 sx_3 rfl <|
z_aload_n X 0 dX2_addPorch_55 rfl <|
z_getI X dX2_addPorch_56 fl_X2_24 sx_3 rfl o fun v15 r16 o =>
z_iconst X dX2_addPorch_59 <|
z_iast X dX2_addPorch_60 sx_8 r16 kc_0 o fun s17 o =>
z_aload_n X 0 dX2_addPorch_61 rfl <|
z_dup X dX2_addPorch_62 rfl <|
z_getI X dX2_addPorch_63 fl_X2_24 sx_3 rfl o fun v18 r19 o =>
z_iconst X dX2_addPorch_66 <|
z_iadd X dX2_addPorch_67 <|
z_putI X dX2_addPorch_68 fl_X2_24 sx_3 ft_X2_4 rfl (w32_rg _) o fun s20 o =>
z_aload_n X 0 dX2_addPorch_71 rfl <|
z_getI X dX2_addPorch_72 fl_X2_24 sx_3 rfl o fun v21 r22 o =>
z_iconst X dX2_addPorch_75 <|
z_isub X dX2_addPorch_76 <|
z_iret X Y dX2_addPorch_77 o (w32_rg _)) fun o =>
z_iconst X dX2_addPorch_9 <|
z_iret X Y dX2_addPorch_10 o kc_m1 : At E s0 0 [(0, .ref (G.2.2.1 3)), (1, .int (pI p1)), (2, .int (pI p2))] [])
set_option maxHeartbeats 4000000 in
set_option maxRecDepth 100000 in
theorem ct_X11_porch (p1 : Int) (p2 : Int) (hp1 : rg p1) (hp2 : rg p2) (G : Gw) (s0 : St) (r : Int) (σ1 : St) (e : fX11_porch p1 p2 s0 = some (r, σ1)) : Ct yX11_porch cX11_porch 4 (some .int) 1 22 SX G [.ref (G.2.2.1 0), .int (pI p1), .int (pI p2)] s0 (QI SX G r rg σ1) :=
  Ct.of (by decide +kernel) (Nat.le_of_ble_eq_true rfl) fun E X Y => by
    have o : Ok (fX11_porch p1 p2 s0) (fun x σ' => x = r ∧ σ' = σ1) := ⟨r, σ1, e, rfl, rfl⟩
    unfold fX11_porch at o
    exact (
z_iload_n X 1 dX11_porch_0 rfl <|
z_iconst X dX11_porch_1 <|
z_bipush X dX11_porch_2 bi_6 <|
z_callsI X dX11_porch_4 q_681 wX11_within  (by decide) [.int (pI p1), .int (pI 1), .int (pI 6)] [] rfl rfl (Nat.le_of_ble_eq_true rfl) (fun r σ1 e => ct_X11_within p1 1 6 hp1 kc_1 kc_6 G _ r σ1 e) o fun r1 s2 h3 o =>
z_if_eq (tgt := 20) X dX11_porch_7 (by decide) (r01_rg h3) o (fun o =>
z_iconst X dX11_porch_20 <|
z_iret X Y dX11_porch_21 o kc_m1) fun o =>
z_iload_n X 2 dX11_porch_10 rfl <|
z_iconst X dX11_porch_11 <|
z_bipush X dX11_porch_12 bi_99 <|
z_callsI X dX11_porch_14 q_681 wX11_within  (by decide) [.int (pI p2), .int (pI 0), .int (pI 99)] [] rfl rfl (Nat.le_of_ble_eq_true rfl) (fun r σ1 e => ct_X11_within p2 0 99 hp2 kc_0 kc_99 G _ r σ1 e) o fun r4 s5 h6 o =>
z_if_ne (tgt := 22) X dX11_porch_17 (by decide) (r01_rg h6) o (fun o =>
z_aload_n X 0 dX11_porch_22 rfl <|
z_getR (q := 3) X dX11_porch_23 fl_X11_19 sx_0 rfl <|
z_iload_n X 1 dX11_porch_26 rfl <|
z_iload_n X 2 dX11_porch_27 rfl <|
z_callvI X dX11_porch_28 q_684 wX2_addPorch sx_3 rfl (by decide) [.int (pI p1), .int (pI p2)] [] rfl rfl (Nat.le_of_ble_eq_true rfl) (fun r σ1 e => ct_X2_addPorch p1 p2 hp1 hp2 G _ r σ1 e) o fun r7 s8 h9 o =>
z_istore_n (L1 := [(3, .int (pI r7)), (0, .ref (G.2.2.1 0)), (1, .int (pI p1)), (2, .int (pI p2))]) X dX11_porch_31 rfl (by decide) rfl <|
z_iload_n X 0 dX11_porch_32 rfl <|
z_iconst X dX11_porch_33 <|
z_icmp_eq (tgt := 44) X dX11_porch_34 (by decide) h9 kc_m1 o (fun o =>
z_iload_n X 0 dX11_porch_44 rfl <|
z_iret X Y dX11_porch_45 o h9) fun o =>
z_aload_n X 1 dX11_porch_37 rfl <|
z_getR (q := 52) X dX11_porch_38 fl_X11_42 sx_0 rfl <|
z_callvV X dX11_porch_41 q_673 wX10_forget sx_52 rfl (by decide) [] [] rfl rfl (Nat.le_of_ble_eq_true rfl) (fun r σ1 e => ct_X10_forget G _ r σ1 e) o fun r10 s11 o =>
z_iload_n X 0 dX11_porch_44 rfl <|
z_iret X Y dX11_porch_45 o h9) fun o =>
z_iconst X dX11_porch_20 <|
z_iret X Y dX11_porch_21 o kc_m1 : At E s0 0 [(0, .ref (G.2.2.1 0)), (1, .int (pI p1)), (2, .int (pI p2))] [])
set_option maxHeartbeats 4000000 in
set_option maxRecDepth 100000 in
theorem ct_X2_sittersOf (p1 : Int) (hp1 : rg p1) (G : Gw) (s0 : St) (r : Int) (σ1 : St) (e : fX2_sittersOf p1 s0 = some (r, σ1)) : Ct yX2_sittersOf cX2_sittersOf 4 (some .int) 0 0 SX G [.ref (G.2.2.1 3), .int (pI p1)] s0 (QI SX G r rg σ1) :=
  Ct.of (by decide +kernel) (Nat.le_of_ble_eq_true rfl) fun E X Y => by
    have o : Ok (fX2_sittersOf p1 s0) (fun x σ' => x = r ∧ σ' = σ1) := ⟨r, σ1, e, rfl, rfl⟩
    unfold fX2_sittersOf at o
    exact (
z_iconst X dX2_sittersOf_0 <|
z_istore_n (L1 := [(2, .int (pI 0)), (0, .ref (G.2.2.1 3)), (1, .int (pI p1))]) X dX2_sittersOf_1 rfl (by decide) rfl <|
z_iconst X dX2_sittersOf_2 <|
z_istore_n (L1 := [(3, .int (pI 0)), (2, .int (pI 0)), (0, .ref (G.2.2.1 3)), (1, .int (pI p1))]) X dX2_sittersOf_3 rfl (by decide) rfl <|
z_join o (fun (y10 : Int) s11 => rg y10 → At E s11 34 [(2, .int (pI y10))] []) (fun y10 s11 o r12 =>
z_iload_n X 0 dX2_sittersOf_34 rfl <|
z_iret X Y dX2_sittersOf_35 o r12) fun o =>
z_sub (L1 := [(0, .ref (G.2.2.1 3)), (1, .int (pI p1)), (2, .int (pI 0)), (3, .int (pI 0))]) X [2, 3, 1, 0] rfl <|
z_iter (fun (x1 : Int × Int) s2 => rg x1.1 ∧ rg x1.2 → At E s2 4 [(0, .ref (G.2.2.1 3)), (1, .int (pI p1)), (2, .int (pI x1.1)), (3, .int (pI x1.2))] []) o (fun x1 s2 o r3 =>
z_iload_n X 3 dX2_sittersOf_4 rfl <|
z_aload_n X 0 dX2_sittersOf_5 rfl <|
z_getI X dX2_sittersOf_6 fl_X2_27 sx_3 rfl o fun v4 r5 o =>
z_icmp_ge (tgt := 34) X dX2_sittersOf_9 (by decide) r3.2 r5 o (fun o =>
z_sub (L1 := [(2, .int (pI x1.1))]) X [2] rfl <|
ok_some o r3.1) fun o =>
z_aload_n X 0 dX2_sittersOf_12 rfl <|
z_getR (q := 11) X dX2_sittersOf_13 fl_X2_52 sx_3 rfl <|
z_iload_n X 3 dX2_sittersOf_16 rfl <|
z_iald X dX2_sittersOf_17 sx_11 r3.2 o fun v6 r7 o =>
z_iload_n X 1 dX2_sittersOf_18 rfl <|
z_icmp_ne (tgt := 28) X dX2_sittersOf_19 (by decide) r7 hp1 o (fun o =>
z_iinc (L1 := [(3, .int (pI (w32 (x1.2 + 1)))), (0, .ref (G.2.2.1 3)), (1, .int (pI p1)), (2, .int (pI x1.1))]) X 3 dX2_sittersOf_28 rfl (by decide) rfl <|
z_goto (tgt := 4) X dX2_sittersOf_31 (by decide) <|
z_sub (L1 := [(0, .ref (G.2.2.1 3)), (1, .int (pI p1)), (2, .int (pI x1.1)), (3, .int (pI (w32 (x1.2 + 1))))]) X [1, 2, 3, 0] rfl <|
ok_some o ⟨r3.1, (w32_rg _)⟩) fun o =>
z_iload_n X 2 dX2_sittersOf_22 rfl <|
z_iconst X dX2_sittersOf_23 <|
z_iload_n X 3 dX2_sittersOf_24 rfl <|
z_ishl X dX2_sittersOf_25 <|
z_ior X dX2_sittersOf_26 <|
z_istoreL_n (L1 := fun v8 => [(2, .int (pI v8)), (0, .ref (G.2.2.1 3)), (1, .int (pI p1)), (3, .int (pI x1.2))]) (R := rg) X dX2_sittersOf_27 rfl (by decide) (fun _ => rfl) o (int_rg _) fun v8 r9 o =>
z_iinc (L1 := [(3, .int (pI (w32 (x1.2 + 1)))), (2, .int (pI v8)), (0, .ref (G.2.2.1 3)), (1, .int (pI p1))]) X 3 dX2_sittersOf_28 rfl (by decide) rfl <|
z_goto (tgt := 4) X dX2_sittersOf_31 (by decide) <|
z_sub (L1 := [(0, .ref (G.2.2.1 3)), (1, .int (pI p1)), (2, .int (pI v8)), (3, .int (pI (w32 (x1.2 + 1))))]) X [2, 3, 1, 0] rfl <|
ok_some o ⟨r9, (w32_rg _)⟩) ⟨kc_0, kc_0⟩ : At E s0 0 [(0, .ref (G.2.2.1 3)), (1, .int (pI p1))] [])
set_option maxHeartbeats 4000000 in
set_option maxRecDepth 100000 in
theorem ct_X11_porchOf (p1 : Int) (p2 : Int) (hp1 : rg p1) (hp2 : rg p2) (G : Gw) (s0 : St) (r : Int) (σ1 : St) (e : fX11_porchOf p1 p2 s0 = some (r, σ1)) : Ct yX11_porchOf cX11_porchOf 3 (some .int) 3 76 SX G [.ref (G.2.2.1 0), .int (pI p1), .int (pI p2)] s0 (QI SX G r rg σ1) :=
  Ct.of (by decide +kernel) (Nat.le_of_ble_eq_true rfl) fun E X Y => by
    have o : Ok (fX11_porchOf p1 p2 s0) (fun x σ' => x = r ∧ σ' = σ1) := ⟨r, σ1, e, rfl, rfl⟩
    unfold fX11_porchOf at o
    exact (
z_aload_n X 0 dX11_porchOf_0 rfl <|
z_getR (q := 3) X dX11_porchOf_1 fl_X11_19 sx_0 rfl <|
z_iload_n X 1 dX11_porchOf_4 rfl <|
z_callvI X dX11_porchOf_5 q_704 wX2_hasPorch sx_3 rfl (by decide) [.int (pI p1)] [] rfl rfl (Nat.le_of_ble_eq_true rfl) (fun r σ1 e => ct_X2_hasPorch p1 hp1 G _ r σ1 e) o fun r1 s2 h3 o =>
z_if_ne (tgt := 14) X dX11_porchOf_8 (by decide) (r01_rg h3) o (fun o =>
z_iload_n X 2 dX11_porchOf_14 rfl <|
z_cas o (fun c4 o =>
z_tin (tgt := 52) X 0 dX11_porchOf_15 hp2 (by omega) rfl (by omega) (by decide) <|
z_aload_n X 0 dX11_porchOf_52 rfl <|
z_getR (q := 3) X dX11_porchOf_53 fl_X11_19 sx_0 rfl <|
z_getRN (q := 4) X dX11_porchOf_56 fn_X11_243 sx_3 rfl <|
z_iload_n X 1 dX11_porchOf_59 rfl <|
z_iald X dX11_porchOf_60 sx_4 hp1 o fun v5 r6 o =>
z_iret X Y dX11_porchOf_61 o r6) fun c4 o =>
z_cas o (fun c7 o =>
z_tin (tgt := 62) X 1 dX11_porchOf_15 hp2 (by omega) rfl (by omega) (by decide) <|
z_aload_n X 0 dX11_porchOf_62 rfl <|
z_getR (q := 3) X dX11_porchOf_63 fl_X11_19 sx_0 rfl <|
z_getRN (q := 5) X dX11_porchOf_66 fn_X11_192 sx_3 rfl <|
z_iload_n X 1 dX11_porchOf_69 rfl <|
z_iald X dX11_porchOf_70 sx_5 hp1 o fun v8 r9 o =>
z_iret X Y dX11_porchOf_71 o r9) fun c7 o =>
z_cas o (fun c10 o =>
z_tin (tgt := 72) X 2 dX11_porchOf_15 hp2 (by omega) rfl (by omega) (by decide) <|
z_aload_n X 0 dX11_porchOf_72 rfl <|
z_getR (q := 3) X dX11_porchOf_73 fl_X11_19 sx_0 rfl <|
z_getRN (q := 6) X dX11_porchOf_76 fn_X11_138 sx_3 rfl <|
z_iload_n X 1 dX11_porchOf_79 rfl <|
z_iald X dX11_porchOf_80 sx_6 hp1 o fun v11 r12 o =>
z_iret X Y dX11_porchOf_81 o r12) fun c10 o =>
z_cas o (fun c13 o =>
z_tin (tgt := 82) X 3 dX11_porchOf_15 hp2 (by omega) rfl (by omega) (by decide) <|
z_aload_n X 0 dX11_porchOf_82 rfl <|
z_getR (q := 3) X dX11_porchOf_83 fl_X11_19 sx_0 rfl <|
z_getRN (q := 7) X dX11_porchOf_86 fn_X11_145 sx_3 rfl <|
z_iload_n X 1 dX11_porchOf_89 rfl <|
z_iald X dX11_porchOf_90 sx_7 hp1 o fun v14 r15 o =>
z_iret X Y dX11_porchOf_91 o r15) fun c13 o =>
z_cas o (fun c16 o =>
z_tin (tgt := 92) X 4 dX11_porchOf_15 hp2 (by omega) rfl (by omega) (by decide) <|
z_aload_n X 0 dX11_porchOf_92 rfl <|
z_getR (q := 3) X dX11_porchOf_93 fl_X11_19 sx_0 rfl <|
z_iload_n X 1 dX11_porchOf_96 rfl <|
z_callvI X dX11_porchOf_97 q_1167 wX2_sittersOf sx_3 rfl (by decide) [.int (pI p1)] [] rfl rfl (Nat.le_of_ble_eq_true rfl) (fun r σ1 e => ct_X2_sittersOf p1 hp1 G _ r σ1 e) o fun r17 s18 h19 o =>
z_iret X Y dX11_porchOf_100 o h19) fun c16 o =>
z_cas o (fun c20 o =>
z_tin (tgt := 101) X 5 dX11_porchOf_15 hp2 (by omega) rfl (by omega) (by decide) <|
z_aload_n X 0 dX11_porchOf_101 rfl <|
z_getR (q := 149) X dX11_porchOf_102 fl_X11_60 sx_0 rfl <|
z_sipush X dX11_porchOf_105 si_262 <|
z_iconst X dX11_porchOf_108 <|
z_iload_n X 1 dX11_porchOf_109 rfl <|
z_callvI X dX11_porchOf_110 q_1171 wX3_tells sx_149 rfl (by decide) [.int (pI 262), .int (pI (-1)), .int (pI p1)] [] rfl rfl (Nat.le_of_ble_eq_true rfl) (fun r σ1 e => ct_X3_tells 262 (-1) p1 kc_262 kc_m1 hp1 G _ r σ1 e) o fun r21 s22 h23 o =>
z_iret X Y dX11_porchOf_113 o h23) fun c20 o =>
z_tout (tgt := 114) X dX11_porchOf_15 hp2 (by omega) (by decide) <|
z_aload_n X 0 dX11_porchOf_114 rfl <|
z_getR (q := 3) X dX11_porchOf_115 fl_X11_19 sx_0 rfl <|
z_iload_n X 2 dX11_porchOf_118 rfl <|
z_bipush X dX11_porchOf_119 bi_10 <|
z_isub X dX11_porchOf_121 <|
z_callvI X dX11_porchOf_122 q_704 wX2_hasPorch sx_3 rfl (by decide) [.int (pI (w32 (p2 - 10)))] [] rfl rfl (Nat.le_of_ble_eq_true rfl) (fun r σ1 e => ct_X2_hasPorch (w32 (p2 - 10)) (w32_rg _) G _ r σ1 e) o fun r24 s25 h26 o =>
z_if_eq (tgt := 143) X dX11_porchOf_125 (by decide) (r01_rg h26) o (fun o =>
z_bipush X dX11_porchOf_143 bi_m2 <|
z_iret X Y dX11_porchOf_145 o kc_m2) fun o =>
z_aload_n X 0 dX11_porchOf_128 rfl <|
z_getR (q := 17) X dX11_porchOf_129 fl_X11_26 sx_0 rfl <|
z_iload_n X 1 dX11_porchOf_132 rfl <|
z_iload_n X 2 dX11_porchOf_133 rfl <|
z_bipush X dX11_porchOf_134 bi_10 <|
z_isub X dX11_porchOf_136 <|
z_callvI X dX11_porchOf_137 q_1172 wX9_feet sx_17 rfl (by decide) [.int (pI p1), .int (pI (w32 (p2 - 10)))] [] rfl rfl (Nat.le_of_ble_eq_true rfl) (fun r σ1 e => ct_X9_feet p1 (w32 (p2 - 10)) hp1 (w32_rg _) G _ r σ1 e) o fun r27 s28 h29 o =>
z_goto (tgt := 145) X dX11_porchOf_140 (by decide) <|
z_iret X Y dX11_porchOf_145 o h29) fun o =>
z_bipush X dX11_porchOf_11 bi_m2 <|
z_iret X Y dX11_porchOf_13 o kc_m2 : At E s0 0 [(0, .ref (G.2.2.1 0)), (1, .int (pI p1)), (2, .int (pI p2))] [])
set_option maxHeartbeats 4000000 in
set_option maxRecDepth 100000 in
theorem ct_X11_quarrel (p1 : Int) (p2 : Int) (hp1 : rg p1) (hp2 : rg p2) (G : Gw) (s0 : St) (r : Int) (σ1 : St) (e : fX11_quarrel p1 p2 s0 = some (r, σ1)) : Ct yX11_quarrel cX11_quarrel 3 (some .int) 2 52 SX G [.ref (G.2.2.1 0), .int (pI p1), .int (pI p2)] s0 (QI SX G r rg σ1) :=
  Ct.of (by decide +kernel) (Nat.le_of_ble_eq_true rfl) fun E X Y => by
    have o : Ok (fX11_quarrel p1 p2 s0) (fun x σ' => x = r ∧ σ' = σ1) := ⟨r, σ1, e, rfl, rfl⟩
    unfold fX11_quarrel at o
    exact (
z_iload_n X 1 dX11_quarrel_0 rfl <|
z_iconst X dX11_quarrel_1 <|
z_icmp_ne (tgt := 16) X dX11_quarrel_2 (by decide) hp1 kc_m1 o (fun o =>
z_iload_n X 1 dX11_quarrel_16 rfl <|
z_iconst X dX11_quarrel_17 <|
z_bipush X dX11_quarrel_18 bi_7 <|
z_callsI X dX11_quarrel_20 q_681 wX11_within  (by decide) [.int (pI p1), .int (pI 0), .int (pI 7)] [] rfl rfl (Nat.le_of_ble_eq_true rfl) (fun r σ1 e => ct_X11_within p1 0 7 hp1 kc_0 kc_7 G _ r σ1 e) o fun r1 s2 h3 o =>
z_if_eq (tgt := 41) X dX11_quarrel_23 (by decide) (r01_rg h3) o (fun o =>
z_iconst X dX11_quarrel_41 <|
z_iret X Y dX11_quarrel_42 o kc_m1) fun o =>
z_iload_n X 2 dX11_quarrel_26 rfl <|
z_iconst X dX11_quarrel_27 <|
z_bipush X dX11_quarrel_28 bi_7 <|
z_callsI X dX11_quarrel_30 q_681 wX11_within  (by decide) [.int (pI p2), .int (pI 0), .int (pI 7)] [] rfl rfl (Nat.le_of_ble_eq_true rfl) (fun r σ1 e => ct_X11_within p2 0 7 hp2 kc_0 kc_7 G _ r σ1 e) o fun r4 s5 h6 o =>
z_if_eq (tgt := 41) X dX11_quarrel_33 (by decide) (r01_rg h6) o (fun o =>
z_iconst X dX11_quarrel_41 <|
z_iret X Y dX11_quarrel_42 o kc_m1) fun o =>
z_iload_n X 1 dX11_quarrel_36 rfl <|
z_iload_n X 2 dX11_quarrel_37 rfl <|
z_icmp_ne (tgt := 43) X dX11_quarrel_38 (by decide) hp1 hp2 o (fun o =>
z_aload_n X 0 dX11_quarrel_43 rfl <|
z_getR (q := 17) X dX11_quarrel_44 fl_X11_26 sx_0 rfl <|
z_getRN (q := 48) X dX11_quarrel_47 fn_X11_358 sx_17 rfl <|
z_iload_n X 1 dX11_quarrel_50 rfl <|
z_iload_n X 2 dX11_quarrel_51 rfl <|
z_iconst X dX11_quarrel_52 <|
z_iconst X dX11_quarrel_53 <|
z_iconst X dX11_quarrel_54 <|
z_callvI X dX11_quarrel_55 q_1256 wX6_add_ sx_48 rfl (by decide) [.int (pI p1), .int (pI p2), .int (pI 0), .int (pI 0), .int (pI 0)] [] rfl rfl (Nat.le_of_ble_eq_true rfl) (fun r σ1 e => ct_X6_add_ SX 48 49 16 p1 p2 0 0 0 ⟨sx_48, sx_49, (by decide)⟩ hp1 hp2 kc_0 kc_0 kc_0 G _ r σ1 e) o fun r7 s8 h9 o =>
z_iret X Y dX11_quarrel_58 o h9) fun o =>
z_iconst X dX11_quarrel_41 <|
z_iret X Y dX11_quarrel_42 o kc_m1) fun o =>
z_aload_n X 0 dX11_quarrel_5 rfl <|
z_getR (q := 17) X dX11_quarrel_6 fl_X11_26 sx_0 rfl <|
z_getRN (q := 48) X dX11_quarrel_9 fn_X11_358 sx_17 rfl <|
z_callvI X dX11_quarrel_12 q_1255 wX6_clear sx_48 rfl (by decide) [] [] rfl rfl (Nat.le_of_ble_eq_true rfl) (fun r σ1 e => ct_X6_clear SX 48 49 16 ⟨sx_48, sx_49, (by decide)⟩ G _ r σ1 e) o fun r10 s11 h12 o =>
z_iret X Y dX11_quarrel_15 o h12 : At E s0 0 [(0, .ref (G.2.2.1 0)), (1, .int (pI p1)), (2, .int (pI p2))] [])
set_option maxHeartbeats 4000000 in
set_option maxRecDepth 100000 in
theorem ct_X4_carryOn (p1 : Int) (hp1 : rg p1) (G : Gw) (s0 : St) (r : Int) (σ1 : St) (e : fX4_carryOn p1 s0 = some (r, σ1)) : Ct yX4_carryOn cX4_carryOn 5 none 1 22 SX G [.ref (G.2.2.1 157), .int (pI p1)] s0 (QV SX G σ1) :=
  Ct.of (by decide +kernel) (Nat.le_of_ble_eq_true rfl) fun E X Y => by
    have o : Ok (fX4_carryOn p1 s0) (fun x σ' => x = r ∧ σ' = σ1) := ⟨r, σ1, e, rfl, rfl⟩
    unfold fX4_carryOn at o
    exact (
z_aload_n X 0 dX4_carryOn_0 rfl <|
z_getR (q := 17) X dX4_carryOn_1 fl_X4_56 sx_157 rfl <|
z_getRN (q := 32) X dX4_carryOn_4 fn_X4_94 sx_17 rfl <|
z_iload_n X 1 dX4_carryOn_7 rfl <|
z_iconst X dX4_carryOn_8 <|
z_callvI X dX4_carryOn_9 q_1266 wX6_get sx_32 rfl (by decide) [.int (pI p1), .int (pI 0)] [] rfl rfl (Nat.le_of_ble_eq_true rfl) (fun r σ1 e => ct_X6_get SX 32 33 48 p1 0 ⟨sx_32, sx_33, (by decide)⟩ hp1 kc_0 G _ r σ1 e) o fun r1 s2 h3 o =>
z_istore_n (L1 := [(2, .int (pI r1)), (0, .ref (G.2.2.1 157)), (1, .int (pI p1))]) X dX4_carryOn_12 rfl (by decide) rfl <|
z_aload_n X 1 dX4_carryOn_13 rfl <|
z_getR (q := 17) X dX4_carryOn_14 fl_X4_56 sx_157 rfl <|
z_getRN (q := 32) X dX4_carryOn_17 fn_X4_94 sx_17 rfl <|
z_iload_n X 2 dX4_carryOn_20 rfl <|
z_iconst X dX4_carryOn_21 <|
z_callvI X dX4_carryOn_22 q_1266 wX6_get sx_32 rfl (by decide) [.int (pI p1), .int (pI 1)] [] rfl rfl (Nat.le_of_ble_eq_true rfl) (fun r σ1 e => ct_X6_get SX 32 33 48 p1 1 ⟨sx_32, sx_33, (by decide)⟩ hp1 kc_1 G _ r σ1 e) o fun r4 s5 h6 o =>
z_istore_n (L1 := [(3, .int (pI r4)), (2, .int (pI r1)), (0, .ref (G.2.2.1 157)), (1, .int (pI p1))]) X dX4_carryOn_25 rfl (by decide) rfl <|
z_aload_n X 2 dX4_carryOn_26 rfl <|
z_getR (q := 17) X dX4_carryOn_27 fl_X4_56 sx_157 rfl <|
z_getRN (q := 32) X dX4_carryOn_30 fn_X4_94 sx_17 rfl <|
z_iload_n X 3 dX4_carryOn_33 rfl <|
z_iconst X dX4_carryOn_34 <|
z_callvI X dX4_carryOn_35 q_1266 wX6_get sx_32 rfl (by decide) [.int (pI p1), .int (pI 3)] [] rfl rfl (Nat.le_of_ble_eq_true rfl) (fun r σ1 e => ct_X6_get SX 32 33 48 p1 3 ⟨sx_32, sx_33, (by decide)⟩ hp1 kc_3 G _ r σ1 e) o fun r7 s8 h9 o =>
z_istore (L1 := [(4, .int (pI r7)), (3, .int (pI r4)), (2, .int (pI r1)), (0, .ref (G.2.2.1 157)), (1, .int (pI p1))]) X dX4_carryOn_38 (by decide) rfl <|
z_iload_n X 2 dX4_carryOn_40 rfl <|
z_iconst X dX4_carryOn_41 <|
z_bipush X dX4_carryOn_42 bi_7 <|
z_callsIN X dX4_carryOn_44 q_1288 wX11_within  (by decide) [.int (pI r1), .int (pI 0), .int (pI 7)] [] rfl rfl (Nat.le_of_ble_eq_true rfl) (fun r σ1 e => ct_X11_within r1 0 7 h3 kc_0 kc_7 G _ r σ1 e) o fun r10 s11 h12 o =>
z_if_eq (tgt := 60) X dX4_carryOn_47 (by decide) (r01_rg h12) o (fun o =>
z_vret (v := 0) X Y dX4_carryOn_60 o) fun o =>
z_iload_n X 1 dX4_carryOn_50 rfl <|
z_iconst X dX4_carryOn_51 <|
z_bipush X dX4_carryOn_52 bi_7 <|
z_callsIN X dX4_carryOn_54 q_1288 wX11_within  (by decide) [.int (pI r4), .int (pI 0), .int (pI 7)] [] rfl rfl (Nat.le_of_ble_eq_true rfl) (fun r σ1 e => ct_X11_within r4 0 7 h6 kc_0 kc_7 G _ r σ1 e) o fun r13 s14 h15 o =>
z_if_ne (tgt := 61) X dX4_carryOn_57 (by decide) (r01_rg h15) o (fun o =>
z_aload_n X 3 dX4_carryOn_61 rfl <|
z_getR (q := 161) X dX4_carryOn_62 fl_X4_21 sx_157 rfl <|
z_iload_n X 2 dX4_carryOn_65 rfl <|
z_iald X dX4_carryOn_66 sx_161 h3 o fun v16 r17 o =>
z_iconst X dX4_carryOn_67 <|
z_icmp_eq (tgt := 92) X dX4_carryOn_68 (by decide) r17 kc_m1 o (fun o =>
z_vret (v := 0) X Y dX4_carryOn_92 o) fun o =>
z_aload_n X 3 dX4_carryOn_71 rfl <|
z_getR (q := 161) X dX4_carryOn_72 fl_X4_21 sx_157 rfl <|
z_iload_n X 2 dX4_carryOn_75 rfl <|
z_iald X dX4_carryOn_76 sx_161 h3 o fun v18 r19 o =>
z_aload_n X 3 dX4_carryOn_77 rfl <|
z_getR (q := 17) X dX4_carryOn_78 fl_X4_56 sx_157 rfl <|
z_getRN (q := 32) X dX4_carryOn_81 fn_X4_94 sx_17 rfl <|
z_iload_n X 4 dX4_carryOn_84 rfl <|
z_iconst X dX4_carryOn_85 <|
z_callvI X dX4_carryOn_86 q_1266 wX6_get sx_32 rfl (by decide) [.int (pI p1), .int (pI 2)] [.int (pI v18)] rfl rfl (Nat.le_of_ble_eq_true rfl) (fun r σ1 e => ct_X6_get SX 32 33 48 p1 2 ⟨sx_32, sx_33, (by decide)⟩ hp1 kc_2 G _ r σ1 e) o fun r20 s21 h22 o =>
z_icmp_le (tgt := 93) X dX4_carryOn_89 (by decide) r19 h22 o (fun o =>
z_aload_n X 3 dX4_carryOn_93 rfl <|
z_getR (q := 161) X dX4_carryOn_94 fl_X4_21 sx_157 rfl <|
z_iload_n X 1 dX4_carryOn_97 rfl <|
z_iald X dX4_carryOn_98 sx_161 h6 o fun v23 r24 o =>
z_iconst X dX4_carryOn_99 <|
z_icmp_eq (tgt := 114) X dX4_carryOn_100 (by decide) r24 kc_m1 o (fun o =>
z_aload_n X 3 dX4_carryOn_114 rfl <|
z_getR (q := 161) X dX4_carryOn_115 fl_X4_21 sx_157 rfl <|
z_iload_n X 1 dX4_carryOn_118 rfl <|
z_iload X 0 dX4_carryOn_119 rfl <|
z_iast X dX4_carryOn_121 sx_161 h6 h9 o fun s25 o =>
z_vret (v := 0) X Y dX4_carryOn_122 o) fun o =>
z_iload X 0 dX4_carryOn_103 rfl <|
z_aload_n X 3 dX4_carryOn_105 rfl <|
z_getR (q := 161) X dX4_carryOn_106 fl_X4_21 sx_157 rfl <|
z_iload_n X 1 dX4_carryOn_109 rfl <|
z_iald X dX4_carryOn_110 sx_161 h6 o fun v26 r27 o =>
z_icmp_ge (tgt := 122) X dX4_carryOn_111 (by decide) h9 r27 o (fun o =>
z_vret (v := 0) X Y dX4_carryOn_122 o) fun o =>
z_aload_n X 3 dX4_carryOn_114 rfl <|
z_getR (q := 161) X dX4_carryOn_115 fl_X4_21 sx_157 rfl <|
z_iload_n X 1 dX4_carryOn_118 rfl <|
z_iload X 0 dX4_carryOn_119 rfl <|
z_iast X dX4_carryOn_121 sx_161 h6 h9 o fun s28 o =>
z_vret (v := 0) X Y dX4_carryOn_122 o) fun o =>
z_vret (v := 0) X Y dX4_carryOn_92 o) fun o =>
z_vret (v := 0) X Y dX4_carryOn_60 o : At E s0 0 [(0, .ref (G.2.2.1 157)), (1, .int (pI p1))] [])
set_option maxHeartbeats 4000000 in
set_option maxRecDepth 100000 in
theorem ct_X4_carried (p1 : Int) (p2 : Int) (p3 : Int) (hp1 : rg p1) (hp2 : rg p2) (hp3 : rg p3) (G : Gw) (s0 : St) (r : Int) (σ1 : St) (e : fX4_carried p1 p2 p3 s0 = some (r, σ1)) : Ct yX4_carried cX4_carried 6 (some .int) 2 46 SX G [.ref (G.2.2.1 157), .int (pI p1), .int (pI p2), .int (pI p3)] s0 (QI SX G r rg σ1) :=
  Ct.of (by decide +kernel) (Nat.le_of_ble_eq_true rfl) fun E X Y => by
    have o : Ok (fX4_carried p1 p2 p3 s0) (fun x σ' => x = r ∧ σ' = σ1) := ⟨r, σ1, e, rfl, rfl⟩
    unfold fX4_carried at o
    exact (
z_aload_n X 0 dX4_carried_0 rfl <|
z_getR (q := 161) X dX4_carried_1 fl_X4_21 sx_157 rfl <|
z_iconst X dX4_carried_4 <|
z_callsV X dX4_carried_5 q_1287 wJ7_fill_53178  (by decide) [.ref (G.2.2.1 161), .int (pI (-1))] [] rfl rfl (Nat.le_of_ble_eq_true rfl) (fun r σ1 e => ct_J7_fill_53178 SX 161 12 (-1) sx_161 (by decide) kc_m1 G _ r σ1 e) o fun r1 s2 o =>
z_iload_n X 1 dX4_carried_8 rfl <|
z_iconst X dX4_carried_9 <|
z_bipush X dX4_carried_10 bi_7 <|
z_callsIN X dX4_carried_12 q_1288 wX11_within  (by decide) [.int (pI p1), .int (pI 0), .int (pI 7)] [] rfl rfl (Nat.le_of_ble_eq_true rfl) (fun r σ1 e => ct_X11_within p1 0 7 hp1 kc_0 kc_7 G _ r σ1 e) o fun r4 s5 h6 o =>
z_if_eq (tgt := 28) X dX4_carried_15 (by decide) (r01_rg h6) o (fun o =>
z_iconst X dX4_carried_28 <|
z_iret X Y dX4_carried_29 o kc_m1) fun o =>
z_iload_n X 3 dX4_carried_18 rfl <|
z_iconst X dX4_carried_19 <|
z_bipush X dX4_carried_20 bi_7 <|
z_callsIN X dX4_carried_22 q_1288 wX11_within  (by decide) [.int (pI p3), .int (pI 0), .int (pI 7)] [] rfl rfl (Nat.le_of_ble_eq_true rfl) (fun r σ1 e => ct_X11_within p3 0 7 hp3 kc_0 kc_7 G _ r σ1 e) o fun r7 s8 h9 o =>
z_if_ne (tgt := 30) X dX4_carried_25 (by decide) (r01_rg h9) o (fun o =>
z_aload_n X 0 dX4_carried_30 rfl <|
z_getR (q := 161) X dX4_carried_31 fl_X4_21 sx_157 rfl <|
z_iload_n X 1 dX4_carried_34 rfl <|
z_iload_n X 2 dX4_carried_35 rfl <|
z_iast X dX4_carried_36 sx_161 hp1 hp2 o fun s10 o =>
z_iconst X dX4_carried_37 <|
z_istore (L1 := [(4, .int (pI 0)), (0, .ref (G.2.2.1 157)), (1, .int (pI p1)), (2, .int (pI p2)), (3, .int (pI p3))]) X dX4_carried_38 (by decide) rfl <|
z_join o (fun (y29 : Unit) s30 => True → At E s30 91 [(0, .ref (G.2.2.1 157)), (3, .int (pI p3))] []) (fun y29 s30 o r31 =>
z_aload_n X 0 dX4_carried_91 rfl <|
z_getR (q := 161) X dX4_carried_92 fl_X4_21 sx_157 rfl <|
z_iload_n X 1 dX4_carried_95 rfl <|
z_iald X dX4_carried_96 sx_161 hp3 o fun v32 r33 o =>
z_iret X Y dX4_carried_97 o r33) fun o =>
z_sub (L1 := [(0, .ref (G.2.2.1 157)), (3, .int (pI p3)), (4, .int (pI 0))]) X [1, 4, 0] rfl <|
z_iter (fun (x11 : Int) s12 => rg x11 → At E s12 40 [(0, .ref (G.2.2.1 157)), (3, .int (pI p3)), (4, .int (pI x11))] []) o (fun x11 s12 o r13 =>
z_iload X 2 dX4_carried_40 rfl <|
z_aload_n X 0 dX4_carried_42 rfl <|
z_getR (q := 17) X dX4_carried_43 fl_X4_56 sx_157 rfl <|
z_getRN (q := 32) X dX4_carried_46 fn_X4_94 sx_17 rfl <|
z_callvI X dX4_carried_49 q_1265 wX6_size sx_32 rfl (by decide) [] [.int (pI x11)] rfl rfl (Nat.le_of_ble_eq_true rfl) (fun r σ1 e => ct_X6_size SX 32 33 48 ⟨sx_32, sx_33, (by decide)⟩ G _ r σ1 e) o fun r14 s15 h16 o =>
z_icmp_ge (tgt := 91) X dX4_carried_52 (by decide) r13 h16 o (fun o =>
z_sub (L1 := [(0, .ref (G.2.2.1 157)), (3, .int (pI p3))]) X [0, 1] rfl <|
ok_some o trivial) fun o =>
z_iconst X dX4_carried_55 <|
z_istore (L1 := [(5, .int (pI 0)), (0, .ref (G.2.2.1 157)), (3, .int (pI p3)), (4, .int (pI x11))]) X dX4_carried_56 (by decide) rfl <|
z_join o (fun (y26 : Unit) s27 => True → At E s27 85 [(0, .ref (G.2.2.1 157)), (3, .int (pI p3)), (4, .int (pI x11))] []) (fun y26 s27 o r28 =>
z_iinc (L1 := [(4, .int (pI (w32 (x11 + 1)))), (0, .ref (G.2.2.1 157)), (3, .int (pI p3))]) X 2 dX4_carried_85 rfl (by decide) rfl <|
z_goto (tgt := 40) X dX4_carried_88 (by decide) <|
z_sub (L1 := [(0, .ref (G.2.2.1 157)), (3, .int (pI p3)), (4, .int (pI (w32 (x11 + 1))))]) X [1, 2, 0] rfl <|
ok_some o (w32_rg _)) fun o =>
z_sub (L1 := [(0, .ref (G.2.2.1 157)), (3, .int (pI p3)), (4, .int (pI x11)), (5, .int (pI 0))]) X [1, 2, 3, 0] rfl <|
z_iter (fun (x17 : Int) s18 => rg x17 → At E s18 58 [(0, .ref (G.2.2.1 157)), (3, .int (pI p3)), (4, .int (pI x11)), (5, .int (pI x17))] []) o (fun x17 s18 o r19 =>
z_iload X 3 dX4_carried_58 rfl <|
z_aload_n X 0 dX4_carried_60 rfl <|
z_getR (q := 17) X dX4_carried_61 fl_X4_56 sx_157 rfl <|
z_getRN (q := 32) X dX4_carried_64 fn_X4_94 sx_17 rfl <|
z_callvI X dX4_carried_67 q_1265 wX6_size sx_32 rfl (by decide) [] [.int (pI x17)] rfl rfl (Nat.le_of_ble_eq_true rfl) (fun r σ1 e => ct_X6_size SX 32 33 48 ⟨sx_32, sx_33, (by decide)⟩ G _ r σ1 e) o fun r20 s21 h22 o =>
z_icmp_ge (tgt := 85) X dX4_carried_70 (by decide) r19 h22 o (fun o =>
z_sub (L1 := [(0, .ref (G.2.2.1 157)), (3, .int (pI p3)), (4, .int (pI x11))]) X [0, 1, 2] rfl <|
ok_some o trivial) fun o =>
z_aload_n X 0 dX4_carried_73 rfl <|
z_iload X 3 dX4_carried_74 rfl <|
z_callvV X dX4_carried_76 q_1289 wX4_carryOn sx_157 rfl (by decide) [.int (pI x17)] [] rfl rfl (Nat.le_of_ble_eq_true rfl) (fun r σ1 e => ct_X4_carryOn x17 r19 G _ r σ1 e) o fun r23 s24 o =>
z_iinc (L1 := [(5, .int (pI (w32 (x17 + 1)))), (0, .ref (G.2.2.1 157)), (3, .int (pI p3)), (4, .int (pI x11))]) X 3 dX4_carried_79 rfl (by decide) rfl <|
z_goto (tgt := 58) X dX4_carried_82 (by decide) <|
z_sub (L1 := [(0, .ref (G.2.2.1 157)), (3, .int (pI p3)), (4, .int (pI x11)), (5, .int (pI (w32 (x17 + 1))))]) X [1, 2, 3, 0] rfl <|
ok_some o (w32_rg _)) kc_0) kc_0) fun o =>
z_iconst X dX4_carried_28 <|
z_iret X Y dX4_carried_29 o kc_m1 : At E s0 0 [(0, .ref (G.2.2.1 157)), (1, .int (pI p1)), (2, .int (pI p2)), (3, .int (pI p3))] [])
set_option maxHeartbeats 4000000 in
set_option maxRecDepth 100000 in
theorem ct_X11_reply (p1 : Int) (p2 : Int) (p3 : Int) (hp1 : rg p1) (hp2 : rg p2) (hp3 : rg p3) (G : Gw) (s0 : St) (r : Int) (σ1 : St) (e : fX11_reply p1 p2 p3 s0 = some (r, σ1)) : Ct yX11_reply cX11_reply 4 (some .int) 3 71 SX G [.ref (G.2.2.1 0), .int (pI p1), .int (pI p2), .int (pI p3)] s0 (QI SX G r rg σ1) :=
  Ct.of (by decide +kernel) (Nat.le_of_ble_eq_true rfl) fun E X Y => by
    have o : Ok (fX11_reply p1 p2 p3 s0) (fun x σ' => x = r ∧ σ' = σ1) := ⟨r, σ1, e, rfl, rfl⟩
    unfold fX11_reply at o
    exact (
z_iload_n X 1 dX11_reply_0 rfl <|
z_iconst X dX11_reply_1 <|
z_bipush X dX11_reply_2 bi_7 <|
z_callsI X dX11_reply_4 q_681 wX11_within  (by decide) [.int (pI p1), .int (pI 0), .int (pI 7)] [] rfl rfl (Nat.le_of_ble_eq_true rfl) (fun r σ1 e => ct_X11_within p1 0 7 hp1 kc_0 kc_7 G _ r σ1 e) o fun r1 s2 h3 o =>
z_if_eq (tgt := 30) X dX11_reply_7 (by decide) (r01_rg h3) o (fun o =>
z_iconst X dX11_reply_30 <|
z_iret X Y dX11_reply_31 o kc_m1) fun o =>
z_iload_n X 2 dX11_reply_10 rfl <|
z_iconst X dX11_reply_11 <|
z_bipush X dX11_reply_12 bi_99 <|
z_callsI X dX11_reply_14 q_681 wX11_within  (by decide) [.int (pI p2), .int (pI 0), .int (pI 99)] [] rfl rfl (Nat.le_of_ble_eq_true rfl) (fun r σ1 e => ct_X11_within p2 0 99 hp2 kc_0 kc_99 G _ r σ1 e) o fun r4 s5 h6 o =>
z_if_eq (tgt := 30) X dX11_reply_17 (by decide) (r01_rg h6) o (fun o =>
z_iconst X dX11_reply_30 <|
z_iret X Y dX11_reply_31 o kc_m1) fun o =>
z_iload_n X 3 dX11_reply_20 rfl <|
z_iconst X dX11_reply_21 <|
z_bipush X dX11_reply_22 bi_7 <|
z_callsI X dX11_reply_24 q_681 wX11_within  (by decide) [.int (pI p3), .int (pI 0), .int (pI 7)] [] rfl rfl (Nat.le_of_ble_eq_true rfl) (fun r σ1 e => ct_X11_within p3 0 7 hp3 kc_0 kc_7 G _ r σ1 e) o fun r7 s8 h9 o =>
z_if_ne (tgt := 32) X dX11_reply_27 (by decide) (r01_rg h9) o (fun o =>
z_aload_n X 0 dX11_reply_32 rfl <|
z_getR (q := 157) X dX11_reply_33 fl_X11_90 sx_0 rfl <|
z_iload_n X 1 dX11_reply_36 rfl <|
z_iload_n X 2 dX11_reply_37 rfl <|
z_iload_n X 3 dX11_reply_38 rfl <|
z_callvI X dX11_reply_39 q_1283 wX4_carried sx_157 rfl (by decide) [.int (pI p1), .int (pI p2), .int (pI p3)] [] rfl rfl (Nat.le_of_ble_eq_true rfl) (fun r σ1 e => ct_X4_carried p1 p2 p3 hp1 hp2 hp3 G _ r σ1 e) o fun r10 s11 h12 o =>
z_iret X Y dX11_reply_42 o h12) fun o =>
z_iconst X dX11_reply_30 <|
z_iret X Y dX11_reply_31 o kc_m1 : At E s0 0 [(0, .ref (G.2.2.1 0)), (1, .int (pI p1)), (2, .int (pI p2)), (3, .int (pI p3))] [])
set_option maxHeartbeats 4000000 in
set_option maxRecDepth 100000 in
theorem ct_X4_mostForward   (G : Gw) (s0 : St) (r : Int) (σ1 : St) (e : fX4_mostForward s0 = some (r, σ1)) : Ct yX4_mostForward cX4_mostForward 6 (some .int) 1 22 SX G [.ref (G.2.2.1 157)] s0 (QI SX G r rg σ1) :=
  Ct.of (by decide +kernel) (Nat.le_of_ble_eq_true rfl) fun E X Y => by
    have o : Ok (fX4_mostForward s0) (fun x σ' => x = r ∧ σ' = σ1) := ⟨r, σ1, e, rfl, rfl⟩
    unfold fX4_mostForward at o
    exact (
z_iconst X dX4_mostForward_0 <|
z_istore_n (L1 := [(1, .int (pI 0)), (0, .ref (G.2.2.1 157))]) X dX4_mostForward_1 rfl (by decide) rfl <|
z_iconst X dX4_mostForward_2 <|
z_istore_n (L1 := [(2, .int (pI 0)), (1, .int (pI 0)), (0, .ref (G.2.2.1 157))]) X dX4_mostForward_3 rfl (by decide) rfl <|
z_join o (fun (y22 : Int) s23 => rg y22 → At E s23 91 [(1, .int (pI y22))] []) (fun y22 s23 o r24 =>
z_iload_n X 0 dX4_mostForward_91 rfl <|
z_iret X Y dX4_mostForward_92 o r24) fun o =>
z_sub (L1 := [(0, .ref (G.2.2.1 157)), (1, .int (pI 0)), (2, .int (pI 0))]) X [2, 1, 0] rfl <|
z_iter (fun (x1 : Int × Int) s2 => rg x1.1 ∧ rg x1.2 → At E s2 4 [(0, .ref (G.2.2.1 157)), (1, .int (pI x1.1)), (2, .int (pI x1.2))] []) o (fun x1 s2 o r3 =>
z_iload_n X 2 dX4_mostForward_4 rfl <|
z_bipush X dX4_mostForward_5 bi_100 <|
z_icmp_ge (tgt := 91) X dX4_mostForward_7 (by decide) r3.2 kc_100 o (fun o =>
z_sub (L1 := [(1, .int (pI x1.1))]) X [1] rfl <|
ok_some o r3.1) fun o =>
z_iconst X dX4_mostForward_10 <|
z_istore_n (L1 := [(3, .int (pI 0)), (0, .ref (G.2.2.1 157)), (1, .int (pI x1.1)), (2, .int (pI x1.2))]) X dX4_mostForward_11 rfl (by decide) rfl <|
z_iconst X dX4_mostForward_12 <|
z_istore (L1 := [(4, .int (pI 0)), (3, .int (pI 0)), (0, .ref (G.2.2.1 157)), (1, .int (pI x1.1)), (2, .int (pI x1.2))]) X dX4_mostForward_13 (by decide) rfl <|
z_join o (fun (y17 : Int) s18 => rg y17 → At E s18 79 [(0, .ref (G.2.2.1 157)), (1, .int (pI x1.1)), (2, .int (pI x1.2)), (3, .int (pI y17))] []) (fun y17 s18 o r19 =>
z_iload_n X 1 dX4_mostForward_79 rfl <|
z_iload_n X 3 dX4_mostForward_80 rfl <|
z_mmax X dX4_mostForward_81 q_1274 q_840 q_174 q_841 (by decide) (Nat.le_of_ble_eq_true rfl) r3.1 r19 <|
z_istoreL_n (L1 := fun v20 => [(1, .int (pI v20)), (0, .ref (G.2.2.1 157)), (2, .int (pI x1.2)), (3, .int (pI y17))]) (R := rg) X dX4_mostForward_84 rfl (by decide) (fun _ => rfl) o (imx_rg r3.1 r19) fun v20 r21 o =>
z_iinc (L1 := [(2, .int (pI (w32 (x1.2 + 1)))), (1, .int (pI v20)), (0, .ref (G.2.2.1 157)), (3, .int (pI y17))]) X 2 dX4_mostForward_85 rfl (by decide) rfl <|
z_goto (tgt := 4) X dX4_mostForward_88 (by decide) <|
z_sub (L1 := [(0, .ref (G.2.2.1 157)), (1, .int (pI v20)), (2, .int (pI (w32 (x1.2 + 1))))]) X [2, 1, 0] rfl <|
ok_some o ⟨r21, (w32_rg _)⟩) fun o =>
z_sub (L1 := [(0, .ref (G.2.2.1 157)), (1, .int (pI x1.1)), (2, .int (pI x1.2)), (3, .int (pI 0)), (4, .int (pI 0))]) X [2, 3, 4, 1, 0] rfl <|
z_iter (fun (x4 : Int × Int) s5 => rg x4.1 ∧ rg x4.2 → At E s5 15 [(0, .ref (G.2.2.1 157)), (1, .int (pI x1.1)), (2, .int (pI x1.2)), (3, .int (pI x4.1)), (4, .int (pI x4.2))] []) o (fun x4 s5 o r6 =>
z_iload X 4 dX4_mostForward_15 rfl <|
z_aload_n X 0 dX4_mostForward_17 rfl <|
z_getR (q := 17) X dX4_mostForward_18 fl_X4_56 sx_157 rfl <|
z_getRN (q := 30) X dX4_mostForward_21 fn_X4_60 sx_17 rfl <|
z_callvI X dX4_mostForward_24 q_1265 wX6_size sx_30 rfl (by decide) [] [.int (pI x4.2)] rfl rfl (Nat.le_of_ble_eq_true rfl) (fun r σ1 e => ct_X6_size SX 30 31 10 ⟨sx_30, sx_31, (by decide)⟩ G _ r σ1 e) o fun r7 s8 h9 o =>
z_icmp_ge (tgt := 79) X dX4_mostForward_27 (by decide) r6.2 h9 o (fun o =>
z_sub (L1 := [(0, .ref (G.2.2.1 157)), (1, .int (pI x1.1)), (2, .int (pI x1.2)), (3, .int (pI x4.1))]) X [0, 1, 2, 3] rfl <|
ok_some o r6.1) fun o =>
z_aload_n X 0 dX4_mostForward_30 rfl <|
z_getR (q := 17) X dX4_mostForward_31 fl_X4_56 sx_157 rfl <|
z_getRN (q := 30) X dX4_mostForward_34 fn_X4_60 sx_17 rfl <|
z_iload X 4 dX4_mostForward_37 rfl <|
z_iconst X dX4_mostForward_39 <|
z_callvI X dX4_mostForward_40 q_1266 wX6_get sx_30 rfl (by decide) [.int (pI x4.2), .int (pI 0)] [] rfl rfl (Nat.le_of_ble_eq_true rfl) (fun r σ1 e => ct_X6_get SX 30 31 10 x4.2 0 ⟨sx_30, sx_31, (by decide)⟩ r6.2 kc_0 G _ r σ1 e) o fun r10 s11 h12 o =>
z_istore (L1 := [(5, .int (pI r10)), (0, .ref (G.2.2.1 157)), (1, .int (pI x1.1)), (2, .int (pI x1.2)), (3, .int (pI x4.1)), (4, .int (pI x4.2))]) X dX4_mostForward_43 (by decide) rfl <|
z_iload X 0 dX4_mostForward_45 rfl <|
z_if_le (tgt := 73) X dX4_mostForward_47 (by decide) h12 o (fun o =>
z_iinc (L1 := [(4, .int (pI (w32 (x4.2 + 1)))), (5, .int (pI r10)), (0, .ref (G.2.2.1 157)), (1, .int (pI x1.1)), (2, .int (pI x1.2)), (3, .int (pI x4.1))]) X 5 dX4_mostForward_73 rfl (by decide) rfl <|
z_goto (tgt := 15) X dX4_mostForward_76 (by decide) <|
z_sub (L1 := [(0, .ref (G.2.2.1 157)), (1, .int (pI x1.1)), (2, .int (pI x1.2)), (3, .int (pI x4.1)), (4, .int (pI (w32 (x4.2 + 1))))]) X [2, 3, 4, 5, 0] rfl <|
ok_some o ⟨r6.1, (w32_rg _)⟩) fun o =>
z_iload_n X 3 dX4_mostForward_50 rfl <|
z_iload X 0 dX4_mostForward_51 rfl <|
z_irem X dX4_mostForward_53 r3.2 h12 o fun z13 o =>
z_aload_n X 1 dX4_mostForward_54 rfl <|
z_getR (q := 17) X dX4_mostForward_55 fl_X4_56 sx_157 rfl <|
z_getRN (q := 30) X dX4_mostForward_58 fn_X4_60 sx_17 rfl <|
z_iload X 5 dX4_mostForward_61 rfl <|
z_iconst X dX4_mostForward_63 <|
z_callvI X dX4_mostForward_64 q_1266 wX6_get sx_30 rfl (by decide) [.int (pI x4.2), .int (pI 1)] [.int (pI (irm x1.2 r10))] rfl rfl (Nat.le_of_ble_eq_true rfl) (fun r σ1 e => ct_X6_get SX 30 31 10 x4.2 1 ⟨sx_30, sx_31, (by decide)⟩ r6.2 kc_1 G _ r σ1 e) o fun r14 s15 h16 o =>
z_icmp_ne (tgt := 73) X dX4_mostForward_67 (by decide) (irm_rg h12 z13) h16 o (fun o =>
z_iinc (L1 := [(4, .int (pI (w32 (x4.2 + 1)))), (5, .int (pI r10)), (0, .ref (G.2.2.1 157)), (1, .int (pI x1.1)), (2, .int (pI x1.2)), (3, .int (pI x4.1))]) X 5 dX4_mostForward_73 rfl (by decide) rfl <|
z_goto (tgt := 15) X dX4_mostForward_76 (by decide) <|
z_sub (L1 := [(0, .ref (G.2.2.1 157)), (1, .int (pI x1.1)), (2, .int (pI x1.2)), (3, .int (pI x4.1)), (4, .int (pI (w32 (x4.2 + 1))))]) X [2, 3, 4, 5, 0] rfl <|
ok_some o ⟨r6.1, (w32_rg _)⟩) fun o =>
z_iinc (L1 := [(3, .int (pI (w32 (x4.1 + 1)))), (5, .int (pI r10)), (0, .ref (G.2.2.1 157)), (1, .int (pI x1.1)), (2, .int (pI x1.2)), (4, .int (pI x4.2))]) X 4 dX4_mostForward_70 rfl (by decide) rfl <|
z_iinc (L1 := [(4, .int (pI (w32 (x4.2 + 1)))), (3, .int (pI (w32 (x4.1 + 1)))), (5, .int (pI r10)), (0, .ref (G.2.2.1 157)), (1, .int (pI x1.1)), (2, .int (pI x1.2))]) X 5 dX4_mostForward_73 rfl (by decide) rfl <|
z_goto (tgt := 15) X dX4_mostForward_76 (by decide) <|
z_sub (L1 := [(0, .ref (G.2.2.1 157)), (1, .int (pI x1.1)), (2, .int (pI x1.2)), (3, .int (pI (w32 (x4.1 + 1)))), (4, .int (pI (w32 (x4.2 + 1))))]) X [3, 4, 5, 1, 0] rfl <|
ok_some o ⟨(w32_rg _), (w32_rg _)⟩) ⟨kc_0, kc_0⟩) ⟨kc_0, kc_0⟩ : At E s0 0 [(0, .ref (G.2.2.1 157))] [])
set_option maxHeartbeats 4000000 in
set_option maxRecDepth 100000 in
theorem ct_X4_commonStride (p1 : Int) (p2 : Int) (hp1 : rg p1) (hp2 : rg p2) (G : Gw) (s0 : St) (r : Int) (σ1 : St) (e : fX4_commonStride p1 p2 s0 = some (r, σ1)) : Ct yX4_commonStride cX4_commonStride 4 (some .int) 0 0 SX G [.int (pI p1), .int (pI p2)] s0 (QI SX G r rg σ1) :=
  Ct.of (by decide +kernel) (Nat.le_of_ble_eq_true rfl) fun E X Y => by
    have o : Ok (fX4_commonStride p1 p2 s0) (fun x σ' => x = r ∧ σ' = σ1) := ⟨r, σ1, e, rfl, rfl⟩
    unfold fX4_commonStride at o
    exact (
z_iload_n X 0 dX4_commonStride_0 rfl <|
z_istore_n (L1 := [(2, .int (pI p1)), (0, .int (pI p1)), (1, .int (pI p2))]) X dX4_commonStride_1 rfl (by decide) rfl <|
z_iconst X dX4_commonStride_2 <|
z_istore_n (L1 := [(3, .int (pI 1)), (2, .int (pI p1)), (0, .int (pI p1)), (1, .int (pI p2))]) X dX4_commonStride_3 rfl (by decide) rfl <|
z_join o (fun (y7 : Int) s8 => rg y7 → At E s8 25 [(2, .int (pI y7))] []) (fun y7 s8 o r9 =>
z_iload_n X 0 dX4_commonStride_25 rfl <|
z_iret X Y dX4_commonStride_26 o r9) fun o =>
z_sub (L1 := [(0, .int (pI p1)), (1, .int (pI p2)), (2, .int (pI p1)), (3, .int (pI 1))]) X [2, 3, 1, 0] rfl <|
z_iter (fun (x1 : Int × Int) s2 => rg x1.1 ∧ rg x1.2 → At E s2 4 [(0, .int (pI p1)), (1, .int (pI p2)), (2, .int (pI x1.1)), (3, .int (pI x1.2))] []) o (fun x1 s2 o r3 =>
z_iload_n X 3 dX4_commonStride_4 rfl <|
z_iload_n X 1 dX4_commonStride_5 rfl <|
z_icmp_ge (tgt := 25) X dX4_commonStride_6 (by decide) r3.2 hp2 o (fun o =>
z_sub (L1 := [(2, .int (pI x1.1))]) X [2] rfl <|
ok_some o r3.1) fun o =>
z_iload_n X 2 dX4_commonStride_9 rfl <|
z_iload_n X 1 dX4_commonStride_10 rfl <|
z_irem X dX4_commonStride_11 r3.1 hp2 o fun z4 o =>
z_if_eq (tgt := 25) X dX4_commonStride_12 (by decide) (irm_rg hp2 z4) o (fun o =>
z_sub (L1 := [(2, .int (pI x1.1))]) X [2] rfl <|
ok_some o r3.1) fun o =>
z_iload_n X 2 dX4_commonStride_15 rfl <|
z_iload_n X 0 dX4_commonStride_16 rfl <|
z_iadd X dX4_commonStride_17 <|
z_istoreL_n (L1 := fun v5 => [(2, .int (pI v5)), (0, .int (pI p1)), (1, .int (pI p2)), (3, .int (pI x1.2))]) (R := rg) X dX4_commonStride_18 rfl (by decide) (fun _ => rfl) o (w32_rg _) fun v5 r6 o =>
z_iinc (L1 := [(3, .int (pI (w32 (x1.2 + 1)))), (2, .int (pI v5)), (0, .int (pI p1)), (1, .int (pI p2))]) X 3 dX4_commonStride_19 rfl (by decide) rfl <|
z_goto (tgt := 4) X dX4_commonStride_22 (by decide) <|
z_sub (L1 := [(0, .int (pI p1)), (1, .int (pI p2)), (2, .int (pI v5)), (3, .int (pI (w32 (x1.2 + 1))))]) X [2, 3, 1, 0] rfl <|
ok_some o ⟨r6, (w32_rg _)⟩) ⟨hp1, kc_1⟩ : At E s0 0 [(0, .int (pI p1)), (1, .int (pI p2))] [])
set_option maxHeartbeats 4000000 in
set_option maxRecDepth 100000 in
theorem ct_X4_allForward   (G : Gw) (s0 : St) (r : Int) (σ1 : St) (e : fX4_allForward s0 = some (r, σ1)) : Ct yX4_allForward cX4_allForward 7 (some .int) 1 23 SX G [.ref (G.2.2.1 157)] s0 (QI SX G r rg σ1) :=
  Ct.of (by decide +kernel) (Nat.le_of_ble_eq_true rfl) fun E X Y => by
    have o : Ok (fX4_allForward s0) (fun x σ' => x = r ∧ σ' = σ1) := ⟨r, σ1, e, rfl, rfl⟩
    unfold fX4_allForward at o
    exact (
z_iconst X dX4_allForward_0 <|
z_istore_n (L1 := [(1, .int (pI 0)), (0, .ref (G.2.2.1 157))]) X dX4_allForward_1 rfl (by decide) rfl <|
z_iconst X dX4_allForward_2 <|
z_istore_n (L1 := [(2, .int (pI 1)), (1, .int (pI 0)), (0, .ref (G.2.2.1 157))]) X dX4_allForward_3 rfl (by decide) rfl <|
z_iconst X dX4_allForward_4 <|
z_istore_n (L1 := [(3, .int (pI 0)), (2, .int (pI 1)), (1, .int (pI 0)), (0, .ref (G.2.2.1 157))]) X dX4_allForward_5 rfl (by decide) rfl <|
z_joix o (fun (y26 : Unit) s27 => True → At E s27 54 [] []) (fun y26 s27 o r28 =>
z_iconst X dX4_allForward_54 <|
z_iret X Y dX4_allForward_55 o kc_m1) fun o =>
z_sub (L1 := [(0, .ref (G.2.2.1 157)), (1, .int (pI 0)), (2, .int (pI 1)), (3, .int (pI 0))]) X [3, 2, 1, 0] rfl <|
z_iter (fun (x1 : Int × Int × Int) s2 => rg x1.1 ∧ rg x1.2.1 ∧ rg x1.2.2 → At E s2 6 [(0, .ref (G.2.2.1 157)), (1, .int (pI x1.1)), (2, .int (pI x1.2.1)), (3, .int (pI x1.2.2))] []) o (fun x1 s2 o r3 =>
z_iload_n X 3 dX4_allForward_6 rfl <|
z_aload_n X 0 dX4_allForward_7 rfl <|
z_getR (q := 17) X dX4_allForward_8 fl_X4_56 sx_157 rfl <|
z_getRN (q := 30) X dX4_allForward_11 fn_X4_60 sx_17 rfl <|
z_callvI X dX4_allForward_14 q_1265 wX6_size sx_30 rfl (by decide) [] [.int (pI x1.2.2)] rfl rfl (Nat.le_of_ble_eq_true rfl) (fun r σ1 e => ct_X6_size SX 30 31 10 ⟨sx_30, sx_31, (by decide)⟩ G _ r σ1 e) o fun r4 s5 h6 o =>
z_icmp_ge (tgt := 109) X dX4_allForward_17 (by decide) r3.2.2 h6 o (fun o =>
z_iload_n X 1 dX4_allForward_109 rfl <|
z_sipush X dX4_allForward_110 si_9999 <|
z_icmp_gt (tgt := 120) X dX4_allForward_113 (by decide) r3.1 kc_9999 o (fun o =>
z_iconst X dX4_allForward_120 <|
z_iret X Y dX4_allForward_121 (ok_ret (ok_some o)) kc_m1) fun o =>
z_iload_n X 1 dX4_allForward_116 rfl <|
z_goto (tgt := 121) X dX4_allForward_117 (by decide) <|
z_iret X Y dX4_allForward_121 (ok_ret (ok_some o)) r3.1) fun o =>
z_aload_n X 0 dX4_allForward_20 rfl <|
z_getR (q := 17) X dX4_allForward_21 fl_X4_56 sx_157 rfl <|
z_getRN (q := 30) X dX4_allForward_24 fn_X4_60 sx_17 rfl <|
z_iload_n X 3 dX4_allForward_27 rfl <|
z_iconst X dX4_allForward_28 <|
z_callvI X dX4_allForward_29 q_1266 wX6_get sx_30 rfl (by decide) [.int (pI x1.2.2), .int (pI 0)] [] rfl rfl (Nat.le_of_ble_eq_true rfl) (fun r σ1 e => ct_X6_get SX 30 31 10 x1.2.2 0 ⟨sx_30, sx_31, (by decide)⟩ r3.2.2 kc_0 G _ r σ1 e) o fun r7 s8 h9 o =>
z_istore (L1 := [(4, .int (pI r7)), (0, .ref (G.2.2.1 157)), (1, .int (pI x1.1)), (2, .int (pI x1.2.1)), (3, .int (pI x1.2.2))]) X dX4_allForward_32 (by decide) rfl <|
z_aload_n X 1 dX4_allForward_34 rfl <|
z_getR (q := 17) X dX4_allForward_35 fl_X4_56 sx_157 rfl <|
z_getRN (q := 30) X dX4_allForward_38 fn_X4_60 sx_17 rfl <|
z_iload_n X 4 dX4_allForward_41 rfl <|
z_iconst X dX4_allForward_42 <|
z_callvI X dX4_allForward_43 q_1266 wX6_get sx_30 rfl (by decide) [.int (pI x1.2.2), .int (pI 1)] [] rfl rfl (Nat.le_of_ble_eq_true rfl) (fun r σ1 e => ct_X6_get SX 30 31 10 x1.2.2 1 ⟨sx_30, sx_31, (by decide)⟩ r3.2.2 kc_1 G _ r σ1 e) o fun r10 s11 h12 o =>
z_istore (L1 := [(5, .int (pI r10)), (4, .int (pI r7)), (0, .ref (G.2.2.1 157)), (1, .int (pI x1.1)), (2, .int (pI x1.2.1)), (3, .int (pI x1.2.2))]) X dX4_allForward_46 (by decide) rfl <|
z_iload X 1 dX4_allForward_48 rfl <|
z_iconst X dX4_allForward_50 <|
z_icmp_ge (tgt := 56) X dX4_allForward_51 (by decide) h9 kc_1 o (fun o =>
z_iconst X dX4_allForward_56 <|
z_istore (L1 := [(6, .int (pI 1)), (5, .int (pI r10)), (4, .int (pI r7)), (0, .ref (G.2.2.1 157)), (1, .int (pI x1.1)), (2, .int (pI x1.2.1)), (3, .int (pI x1.2.2))]) X dX4_allForward_57 (by decide) rfl <|
z_join o (fun (y19 : Int) s20 => rg y19 → At E s20 85 [(0, .ref (G.2.2.1 157)), (1, .int (pI y19)), (2, .int (pI x1.2.1)), (3, .int (pI x1.2.2)), (4, .int (pI r7)), (5, .int (pI r10))] []) (fun y19 s20 o r21 =>
z_iload_n X 1 dX4_allForward_85 rfl <|
z_iload X 4 dX4_allForward_86 rfl <|
z_irem X dX4_allForward_88 r21 h9 o fun z22 o =>
z_iload X 5 dX4_allForward_89 rfl <|
z_icmp_eq (tgt := 96) X dX4_allForward_91 (by decide) (irm_rg h9 z22) h12 o (fun o =>
z_iload_n X 2 dX4_allForward_96 rfl <|
z_iload X 4 dX4_allForward_97 rfl <|
z_callsI X dX4_allForward_99 q_1267 wX4_commonStride  (by decide) [.int (pI x1.2.1), .int (pI r7)] [] rfl rfl (Nat.le_of_ble_eq_true rfl) (fun r σ1 e => ct_X4_commonStride x1.2.1 r7 r3.2.1 h9 G _ r σ1 e) o fun r23 s24 h25 o =>
z_istore_n (L1 := [(2, .int (pI r23)), (0, .ref (G.2.2.1 157)), (1, .int (pI y19)), (3, .int (pI x1.2.2)), (4, .int (pI r7)), (5, .int (pI r10))]) X dX4_allForward_102 rfl (by decide) rfl <|
z_iinc (L1 := [(3, .int (pI (w32 (x1.2.2 + 1)))), (2, .int (pI r23)), (0, .ref (G.2.2.1 157)), (1, .int (pI y19)), (4, .int (pI r7)), (5, .int (pI r10))]) X 3 dX4_allForward_103 rfl (by decide) rfl <|
z_goto (tgt := 6) X dX4_allForward_106 (by decide) <|
z_sub (L1 := [(0, .ref (G.2.2.1 157)), (1, .int (pI y19)), (2, .int (pI r23)), (3, .int (pI (w32 (x1.2.2 + 1))))]) X [2, 3, 1, 0] rfl <|
ok_some o ⟨r21, h25, (w32_rg _)⟩) fun o =>
z_iconst X dX4_allForward_94 <|
z_iret X Y dX4_allForward_95 (ok_ret (ok_some o)) kc_m1) fun o =>
z_sub (L1 := [(0, .ref (G.2.2.1 157)), (1, .int (pI x1.1)), (2, .int (pI x1.2.1)), (3, .int (pI x1.2.2)), (4, .int (pI r7)), (5, .int (pI r10)), (6, .int (pI 1))]) X [3, 4, 5, 6, 2, 1, 0] rfl <|
z_iter (fun (x13 : Int × Int) s14 => rg x13.1 ∧ rg x13.2 → At E s14 59 [(0, .ref (G.2.2.1 157)), (1, .int (pI x13.1)), (2, .int (pI x1.2.1)), (3, .int (pI x1.2.2)), (4, .int (pI r7)), (5, .int (pI r10)), (6, .int (pI x13.2))] []) o (fun x13 s14 o r15 =>
z_iload X 6 dX4_allForward_59 rfl <|
z_iload X 4 dX4_allForward_61 rfl <|
z_icmp_ge (tgt := 85) X dX4_allForward_63 (by decide) r15.2 h9 o (fun o =>
z_sub (L1 := [(0, .ref (G.2.2.1 157)), (1, .int (pI x13.1)), (2, .int (pI x1.2.1)), (3, .int (pI x1.2.2)), (4, .int (pI r7)), (5, .int (pI r10))]) X [0, 1, 2, 3, 4, 5] rfl <|
ok_some o r15.1) fun o =>
z_iload_n X 1 dX4_allForward_66 rfl <|
z_iload X 4 dX4_allForward_67 rfl <|
z_irem X dX4_allForward_69 r15.1 h9 o fun z16 o =>
z_iload X 5 dX4_allForward_70 rfl <|
z_icmp_eq (tgt := 85) X dX4_allForward_72 (by decide) (irm_rg h9 z16) h12 o (fun o =>
z_sub (L1 := [(0, .ref (G.2.2.1 157)), (1, .int (pI x13.1)), (2, .int (pI x1.2.1)), (3, .int (pI x1.2.2)), (4, .int (pI r7)), (5, .int (pI r10))]) X [0, 1, 2, 3, 4, 5] rfl <|
ok_some o r15.1) fun o =>
z_iload_n X 1 dX4_allForward_75 rfl <|
z_iload_n X 2 dX4_allForward_76 rfl <|
z_iadd X dX4_allForward_77 <|
z_istoreL_n (L1 := fun v17 => [(1, .int (pI v17)), (0, .ref (G.2.2.1 157)), (2, .int (pI x1.2.1)), (3, .int (pI x1.2.2)), (4, .int (pI r7)), (5, .int (pI r10)), (6, .int (pI x13.2))]) (R := rg) X dX4_allForward_78 rfl (by decide) (fun _ => rfl) o (w32_rg _) fun v17 r18 o =>
z_iinc (L1 := [(6, .int (pI (w32 (x13.2 + 1)))), (1, .int (pI v17)), (0, .ref (G.2.2.1 157)), (2, .int (pI x1.2.1)), (3, .int (pI x1.2.2)), (4, .int (pI r7)), (5, .int (pI r10))]) X 6 dX4_allForward_79 rfl (by decide) rfl <|
z_goto (tgt := 59) X dX4_allForward_82 (by decide) <|
z_sub (L1 := [(0, .ref (G.2.2.1 157)), (1, .int (pI v17)), (2, .int (pI x1.2.1)), (3, .int (pI x1.2.2)), (4, .int (pI r7)), (5, .int (pI r10)), (6, .int (pI (w32 (x13.2 + 1))))]) X [2, 1, 3, 4, 5, 6, 0] rfl <|
ok_some o ⟨r18, (w32_rg _)⟩) ⟨r3.1, kc_1⟩) fun o =>
z_sub (L1 := []) X [] rfl <|
ok_some o trivial) ⟨kc_0, kc_1, kc_0⟩ : At E s0 0 [(0, .ref (G.2.2.1 157))] [])
set_option maxHeartbeats 4000000 in
set_option maxRecDepth 100000 in
theorem ct_X11_rocks (p1 : Int) (hp1 : rg p1) (G : Gw) (s0 : St) (r : Int) (σ1 : St) (e : fX11_rocks p1 s0 = some (r, σ1)) : Ct yX11_rocks cX11_rocks 2 (some .int) 2 49 SX G [.ref (G.2.2.1 0), .int (pI p1)] s0 (QI SX G r rg σ1) :=
  Ct.of (by decide +kernel) (Nat.le_of_ble_eq_true rfl) fun E X Y => by
    have o : Ok (fX11_rocks p1 s0) (fun x σ' => x = r ∧ σ' = σ1) := ⟨r, σ1, e, rfl, rfl⟩
    unfold fX11_rocks at o
    exact (
z_iload_n X 1 dX11_rocks_0 rfl <|
z_if_ne (tgt := 12) X dX11_rocks_1 (by decide) hp1 o (fun o =>
z_iload_n X 1 dX11_rocks_12 rfl <|
z_iconst X dX11_rocks_13 <|
z_icmp_ne (tgt := 27) X dX11_rocks_14 (by decide) hp1 kc_1 o (fun o =>
z_iconst X dX11_rocks_27 <|
z_iret X Y dX11_rocks_28 o kc_m1) fun o =>
z_aload_n X 0 dX11_rocks_17 rfl <|
z_getR (q := 157) X dX11_rocks_18 fl_X11_90 sx_0 rfl <|
z_callvI X dX11_rocks_21 q_1270 wX4_mostForward sx_157 rfl (by decide) [] [] rfl rfl (Nat.le_of_ble_eq_true rfl) (fun r σ1 e => ct_X4_mostForward G _ r σ1 e) o fun r1 s2 h3 o =>
z_goto (tgt := 28) X dX11_rocks_24 (by decide) <|
z_iret X Y dX11_rocks_28 o h3) fun o =>
z_aload_n X 0 dX11_rocks_4 rfl <|
z_getR (q := 157) X dX11_rocks_5 fl_X11_90 sx_0 rfl <|
z_callvI X dX11_rocks_8 q_1261 wX4_allForward sx_157 rfl (by decide) [] [] rfl rfl (Nat.le_of_ble_eq_true rfl) (fun r σ1 e => ct_X4_allForward G _ r σ1 e) o fun r4 s5 h6 o =>
z_iret X Y dX11_rocks_11 o h6 : At E s0 0 [(0, .ref (G.2.2.1 0)), (1, .int (pI p1))] [])
set_option maxHeartbeats 4000000 in
set_option maxRecDepth 100000 in
theorem ct_X4_findEnemies (p1 : Int) (hp1 : rg p1) (G : Gw) (s0 : St) (r : Int) (σ1 : St) (e : fX4_findEnemies p1 s0 = some (r, σ1)) : Ct yX4_findEnemies cX4_findEnemies 5 none 1 23 SX G [.ref (G.2.2.1 157), .int (pI p1)] s0 (QV SX G σ1) :=
  Ct.of (by decide +kernel) (Nat.le_of_ble_eq_true rfl) fun E X Y => by
    have o : Ok (fX4_findEnemies p1 s0) (fun x σ' => x = r ∧ σ' = σ1) := ⟨r, σ1, e, rfl, rfl⟩
    unfold fX4_findEnemies at o
    exact (
z_aload_n X 0 dX4_findEnemies_0 rfl <|
z_getR (q := 162) X dX4_findEnemies_1 fl_X4_24 sx_157 rfl <|
z_iconst X dX4_findEnemies_4 <|
z_callsV X dX4_findEnemies_5 q_1287 wJ7_fill_53178  (by decide) [.ref (G.2.2.1 162), .int (pI 0)] [] rfl rfl (Nat.le_of_ble_eq_true rfl) (fun r σ1 e => ct_J7_fill_53178 SX 162 8 0 sx_162 (by decide) kc_0 G _ r σ1 e) o fun r1 s2 o =>
z_iconst X dX4_findEnemies_8 <|
z_istore_n (L1 := [(2, .int (pI 0)), (0, .ref (G.2.2.1 157)), (1, .int (pI p1))]) X dX4_findEnemies_9 rfl (by decide) rfl <|
z_join o (fun (y28 : Unit) s29 => True → At E s29 109 [] []) (fun y28 s29 o r30 =>
z_vret (v := 0) X Y dX4_findEnemies_109 o) fun o =>
z_sub (L1 := [(0, .ref (G.2.2.1 157)), (1, .int (pI p1)), (2, .int (pI 0))]) X [1, 2, 0] rfl <|
z_iter (fun (x4 : Int) s5 => rg x4 → At E s5 10 [(0, .ref (G.2.2.1 157)), (1, .int (pI p1)), (2, .int (pI x4))] []) o (fun x4 s5 o r6 =>
z_iload_n X 2 dX4_findEnemies_10 rfl <|
z_aload_n X 0 dX4_findEnemies_11 rfl <|
z_getR (q := 17) X dX4_findEnemies_12 fl_X4_56 sx_157 rfl <|
z_getRN (q := 48) X dX4_findEnemies_15 fn_X4_147 sx_17 rfl <|
z_callvI X dX4_findEnemies_18 q_1265 wX6_size sx_48 rfl (by decide) [] [.int (pI x4)] rfl rfl (Nat.le_of_ble_eq_true rfl) (fun r σ1 e => ct_X6_size SX 48 49 16 ⟨sx_48, sx_49, (by decide)⟩ G _ r σ1 e) o fun r7 s8 h9 o =>
z_icmp_ge (tgt := 109) X dX4_findEnemies_21 (by decide) r6 h9 o (fun o =>
z_sub (L1 := []) X [] rfl <|
ok_some o trivial) fun o =>
z_aload_n X 0 dX4_findEnemies_24 rfl <|
z_getR (q := 17) X dX4_findEnemies_25 fl_X4_56 sx_157 rfl <|
z_getRN (q := 48) X dX4_findEnemies_28 fn_X4_147 sx_17 rfl <|
z_iload_n X 2 dX4_findEnemies_31 rfl <|
z_iconst X dX4_findEnemies_32 <|
z_callvI X dX4_findEnemies_33 q_1266 wX6_get sx_48 rfl (by decide) [.int (pI x4), .int (pI 0)] [] rfl rfl (Nat.le_of_ble_eq_true rfl) (fun r σ1 e => ct_X6_get SX 48 49 16 x4 0 ⟨sx_48, sx_49, (by decide)⟩ r6 kc_0 G _ r σ1 e) o fun r10 s11 h12 o =>
z_istore_n (L1 := [(3, .int (pI r10)), (0, .ref (G.2.2.1 157)), (1, .int (pI p1)), (2, .int (pI x4))]) X dX4_findEnemies_36 rfl (by decide) rfl <|
z_aload_n X 1 dX4_findEnemies_37 rfl <|
z_getR (q := 17) X dX4_findEnemies_38 fl_X4_56 sx_157 rfl <|
z_getRN (q := 48) X dX4_findEnemies_41 fn_X4_147 sx_17 rfl <|
z_iload_n X 3 dX4_findEnemies_44 rfl <|
z_iconst X dX4_findEnemies_45 <|
z_callvI X dX4_findEnemies_46 q_1266 wX6_get sx_48 rfl (by decide) [.int (pI x4), .int (pI 1)] [] rfl rfl (Nat.le_of_ble_eq_true rfl) (fun r σ1 e => ct_X6_get SX 48 49 16 x4 1 ⟨sx_48, sx_49, (by decide)⟩ r6 kc_1 G _ r σ1 e) o fun r13 s14 h15 o =>
z_istore (L1 := [(4, .int (pI r13)), (3, .int (pI r10)), (0, .ref (G.2.2.1 157)), (1, .int (pI p1)), (2, .int (pI x4))]) X dX4_findEnemies_49 (by decide) rfl <|
z_iload_n X 1 dX4_findEnemies_51 rfl <|
z_iconst X dX4_findEnemies_52 <|
z_iload_n X 3 dX4_findEnemies_53 rfl <|
z_iconst X dX4_findEnemies_54 <|
z_isub X dX4_findEnemies_55 <|
z_callsIN X dX4_findEnemies_56 q_1288 wX11_within  (by decide) [.int (pI r10), .int (pI 0), .int (pI (w32 (p1 - 1)))] [] rfl rfl (Nat.le_of_ble_eq_true rfl) (fun r σ1 e => ct_X11_within r10 0 (w32 (p1 - 1)) h12 kc_0 (w32_rg _) G _ r σ1 e) o fun r16 s17 h18 o =>
z_if_eq (tgt := 103) X dX4_findEnemies_59 (by decide) (r01_rg h18) o (fun o =>
z_iinc (L1 := [(2, .int (pI (w32 (x4 + 1)))), (4, .int (pI r13)), (3, .int (pI r10)), (0, .ref (G.2.2.1 157)), (1, .int (pI p1))]) X 4 dX4_findEnemies_103 rfl (by decide) rfl <|
z_goto (tgt := 10) X dX4_findEnemies_106 (by decide) <|
z_sub (L1 := [(0, .ref (G.2.2.1 157)), (1, .int (pI p1)), (2, .int (pI (w32 (x4 + 1))))]) X [3, 4, 0] rfl <|
ok_some o (w32_rg _)) fun o =>
z_iload X 0 dX4_findEnemies_62 rfl <|
z_iconst X dX4_findEnemies_64 <|
z_iload_n X 3 dX4_findEnemies_65 rfl <|
z_iconst X dX4_findEnemies_66 <|
z_isub X dX4_findEnemies_67 <|
z_callsIN X dX4_findEnemies_68 q_1288 wX11_within  (by decide) [.int (pI r13), .int (pI 0), .int (pI (w32 (p1 - 1)))] [] rfl rfl (Nat.le_of_ble_eq_true rfl) (fun r σ1 e => ct_X11_within r13 0 (w32 (p1 - 1)) h15 kc_0 (w32_rg _) G _ r σ1 e) o fun r19 s20 h21 o =>
z_if_ne (tgt := 77) X dX4_findEnemies_71 (by decide) (r01_rg h21) o (fun o =>
z_aload_n X 2 dX4_findEnemies_77 rfl <|
z_getR (q := 162) X dX4_findEnemies_78 fl_X4_24 sx_157 rfl <|
z_iload_n X 1 dX4_findEnemies_81 rfl <|
z_dup2 X dX4_findEnemies_82 rfl rfl <|
z_iald X dX4_findEnemies_83 sx_162 h12 o fun v22 r23 o =>
z_iconst X dX4_findEnemies_84 <|
z_iload X 0 dX4_findEnemies_85 rfl <|
z_ishl X dX4_findEnemies_87 <|
z_ior X dX4_findEnemies_88 <|
z_iast X dX4_findEnemies_89 sx_162 h12 (int_rg _) o fun s24 o =>
z_aload_n X 2 dX4_findEnemies_90 rfl <|
z_getR (q := 162) X dX4_findEnemies_91 fl_X4_24 sx_157 rfl <|
z_iload X 0 dX4_findEnemies_94 rfl <|
z_dup2 X dX4_findEnemies_96 rfl rfl <|
z_iald X dX4_findEnemies_97 sx_162 h15 o fun v25 r26 o =>
z_iconst X dX4_findEnemies_98 <|
z_iload_n X 1 dX4_findEnemies_99 rfl <|
z_ishl X dX4_findEnemies_100 <|
z_ior X dX4_findEnemies_101 <|
z_iast X dX4_findEnemies_102 sx_162 h15 (int_rg _) o fun s27 o =>
z_iinc (L1 := [(2, .int (pI (w32 (x4 + 1)))), (4, .int (pI r13)), (3, .int (pI r10)), (0, .ref (G.2.2.1 157)), (1, .int (pI p1))]) X 4 dX4_findEnemies_103 rfl (by decide) rfl <|
z_goto (tgt := 10) X dX4_findEnemies_106 (by decide) <|
z_sub (L1 := [(0, .ref (G.2.2.1 157)), (1, .int (pI p1)), (2, .int (pI (w32 (x4 + 1))))]) X [3, 4, 0] rfl <|
ok_some o (w32_rg _)) fun o =>
z_goto (tgt := 103) X dX4_findEnemies_74 (by decide) <|
z_iinc (L1 := [(2, .int (pI (w32 (x4 + 1)))), (4, .int (pI r13)), (3, .int (pI r10)), (0, .ref (G.2.2.1 157)), (1, .int (pI p1))]) X 4 dX4_findEnemies_103 rfl (by decide) rfl <|
z_goto (tgt := 10) X dX4_findEnemies_106 (by decide) <|
z_sub (L1 := [(0, .ref (G.2.2.1 157)), (1, .int (pI p1)), (2, .int (pI (w32 (x4 + 1))))]) X [3, 4, 0] rfl <|
ok_some o (w32_rg _)) kc_0 : At E s0 0 [(0, .ref (G.2.2.1 157)), (1, .int (pI p1))] [])
set_option maxHeartbeats 4000000 in
set_option maxRecDepth 100000 in
theorem ct_X4_seatBehind (p1 : Int) (p2 : Int) (p3 : Int) (p4 : Int) (hp1 : rg p1) (hp2 : rg p2) (hp3 : rg p3) (hp4 : r01 p4) (G : Gw) (s0 : St) (r : Int) (σ1 : St) (e : fX4_seatBehind p1 p2 p3 p4 s0 = some (r, σ1)) : Ct yX4_seatBehind cX4_seatBehind 8 (some .int) 0 0 SX G [.ref (G.2.2.1 157), .int (pI p1), .int (pI p2), .int (pI p3), .int (pI p4)] s0 (QI SX G r rg σ1) :=
  Ct.of (by decide +kernel) (Nat.le_of_ble_eq_true rfl) fun E X Y => by
    have o : Ok (fX4_seatBehind p1 p2 p3 p4 s0) (fun x σ' => x = r ∧ σ' = σ1) := ⟨r, σ1, e, rfl, rfl⟩
    unfold fX4_seatBehind at o
    exact (
z_iload_n X 1 dX4_seatBehind_0 rfl <|
z_iload_n X 2 dX4_seatBehind_1 rfl <|
z_ishr X dX4_seatBehind_2 <|
z_iconst X dX4_seatBehind_3 <|
z_iand X dX4_seatBehind_4 <|
z_if_ne (tgt := 10) X dX4_seatBehind_5 (by decide) (int_rg _) o (fun o =>
z_iload_n X 1 dX4_seatBehind_10 rfl <|
z_iconst X dX4_seatBehind_11 <|
z_iload_n X 2 dX4_seatBehind_12 rfl <|
z_ishl X dX4_seatBehind_13 <|
z_isub X dX4_seatBehind_14 <|
z_istoreL (L1 := fun v1 => [(5, .int (pI v1)), (0, .ref (G.2.2.1 157)), (1, .int (pI p1)), (2, .int (pI p2)), (3, .int (pI p3)), (4, .int (pI p4))]) (R := rg) X dX4_seatBehind_15 (by decide) (fun _ => rfl) o (w32_rg _) fun v1 r2 o =>
z_iload X 0 dX4_seatBehind_17 rfl <|
z_if_ne (tgt := 37) X dX4_seatBehind_19 (by decide) r2 o (fun o =>
z_iconst X dX4_seatBehind_37 <|
z_istore (L1 := [(6, .int (pI 0)), (5, .int (pI v1)), (0, .ref (G.2.2.1 157)), (1, .int (pI p1)), (2, .int (pI p2)), (3, .int (pI p3)), (4, .int (pI p4))]) X dX4_seatBehind_38 (by decide) rfl <|
z_iconst X dX4_seatBehind_40 <|
z_istore (L1 := [(7, .int (pI 0)), (6, .int (pI 0)), (5, .int (pI v1)), (0, .ref (G.2.2.1 157)), (1, .int (pI p1)), (2, .int (pI p2)), (3, .int (pI p3)), (4, .int (pI p4))]) X dX4_seatBehind_41 (by decide) rfl <|
z_join o (fun (y12 : Int) s13 => rg y12 → At E s13 87 [(6, .int (pI y12))] []) (fun y12 s13 o r14 =>
z_iload X 0 dX4_seatBehind_87 rfl <|
z_iret X Y dX4_seatBehind_89 o r14) fun o =>
z_sub (L1 := [(0, .ref (G.2.2.1 157)), (2, .int (pI p2)), (3, .int (pI p3)), (5, .int (pI v1)), (6, .int (pI 0)), (7, .int (pI 0))]) X [3, 5, 6, 2, 1, 0] rfl <|
z_iter (fun (x3 : Int × Int) s4 => rg x3.1 ∧ rg x3.2 → At E s4 43 [(0, .ref (G.2.2.1 157)), (2, .int (pI p2)), (3, .int (pI p3)), (5, .int (pI v1)), (6, .int (pI x3.1)), (7, .int (pI x3.2))] []) o (fun x3 s4 o r5 =>
z_iload X 5 dX4_seatBehind_43 rfl <|
z_iload_n X 2 dX4_seatBehind_45 rfl <|
z_icmp_ge (tgt := 87) X dX4_seatBehind_46 (by decide) r5.2 hp3 o (fun o =>
z_sub (L1 := [(6, .int (pI x3.1))]) X [4] rfl <|
ok_some o r5.1) fun o =>
z_aload_n X 0 dX4_seatBehind_49 rfl <|
z_getR (q := 162) X dX4_seatBehind_50 fl_X4_24 sx_157 rfl <|
z_iload_n X 1 dX4_seatBehind_53 rfl <|
z_iald X dX4_seatBehind_54 sx_162 hp2 o fun v6 r7 o =>
z_iload X 5 dX4_seatBehind_55 rfl <|
z_ishr X dX4_seatBehind_57 <|
z_iconst X dX4_seatBehind_58 <|
z_iand X dX4_seatBehind_59 <|
z_if_ne (tgt := 81) X dX4_seatBehind_60 (by decide) (int_rg _) o (fun o =>
z_iinc (L1 := [(7, .int (pI (w32 (x3.2 + 1)))), (0, .ref (G.2.2.1 157)), (2, .int (pI p2)), (3, .int (pI p3)), (5, .int (pI v1)), (6, .int (pI x3.1))]) X 5 dX4_seatBehind_81 rfl (by decide) rfl <|
z_goto (tgt := 43) X dX4_seatBehind_84 (by decide) <|
z_sub (L1 := [(0, .ref (G.2.2.1 157)), (2, .int (pI p2)), (3, .int (pI p3)), (5, .int (pI v1)), (6, .int (pI x3.1)), (7, .int (pI (w32 (x3.2 + 1))))]) X [1, 2, 3, 4, 5, 0] rfl <|
ok_some o ⟨r5.1, (w32_rg _)⟩) fun o =>
z_iload X 4 dX4_seatBehind_63 rfl <|
z_aload_n X 0 dX4_seatBehind_65 rfl <|
z_getR (q := 160) X dX4_seatBehind_66 fl_X4_18 sx_157 rfl <|
z_iload X 3 dX4_seatBehind_69 rfl <|
z_bipush X dX4_seatBehind_71 bi_8 <|
z_imul X dX4_seatBehind_73 <|
z_iload X 5 dX4_seatBehind_74 rfl <|
z_iadd X dX4_seatBehind_76 <|
z_iald X dX4_seatBehind_77 sx_160 (w32_rg _) o fun v8 r9 o =>
z_iadd X dX4_seatBehind_78 <|
z_istoreL (L1 := fun v10 => [(6, .int (pI v10)), (0, .ref (G.2.2.1 157)), (2, .int (pI p2)), (3, .int (pI p3)), (5, .int (pI v1)), (7, .int (pI x3.2))]) (R := rg) X dX4_seatBehind_79 (by decide) (fun _ => rfl) o (w32_rg _) fun v10 r11 o =>
z_iinc (L1 := [(7, .int (pI (w32 (x3.2 + 1)))), (6, .int (pI v10)), (0, .ref (G.2.2.1 157)), (2, .int (pI p2)), (3, .int (pI p3)), (5, .int (pI v1))]) X 5 dX4_seatBehind_81 rfl (by decide) rfl <|
z_goto (tgt := 43) X dX4_seatBehind_84 (by decide) <|
z_sub (L1 := [(0, .ref (G.2.2.1 157)), (2, .int (pI p2)), (3, .int (pI p3)), (5, .int (pI v1)), (6, .int (pI v10)), (7, .int (pI (w32 (x3.2 + 1))))]) X [2, 3, 4, 5, 1, 0] rfl <|
ok_some o ⟨r11, (w32_rg _)⟩) ⟨kc_0, kc_0⟩) fun o =>
z_iload X 5 dX4_seatBehind_22 rfl <|
z_if_eq (tgt := 35) X dX4_seatBehind_24 (by decide) (r01_rg hp4) o (fun o =>
z_iconst X dX4_seatBehind_35 <|
z_iret X Y dX4_seatBehind_36 o kc_1) fun o =>
z_iload_n X 3 dX4_seatBehind_27 rfl <|
z_if_eq (tgt := 35) X dX4_seatBehind_28 (by decide) hp2 o (fun o =>
z_iconst X dX4_seatBehind_35 <|
z_iret X Y dX4_seatBehind_36 o kc_1) fun o =>
z_iconst X dX4_seatBehind_31 <|
z_goto (tgt := 36) X dX4_seatBehind_32 (by decide) <|
z_iret X Y dX4_seatBehind_36 o kc_0) fun o =>
z_iconst X dX4_seatBehind_8 <|
z_iret X Y dX4_seatBehind_9 o kc_0 : At E s0 0 [(0, .ref (G.2.2.1 157)), (1, .int (pI p1)), (2, .int (pI p2)), (3, .int (pI p3)), (4, .int (pI p4))] [])
