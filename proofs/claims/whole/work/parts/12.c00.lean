set_option maxHeartbeats 4000000 in
set_option maxRecDepth 100000 in
theorem ct_X6_get (S : List Kd) (ro rc rn : Nat) (p1 : Int) (p2 : Int) (hR : isR S ro rc rn) (hp1 : rg p1) (hp2 : rg p2) (G : Gw) (s0 : St) (r : Int) (σ1 : St) (e : fX6_get ro rc rn p1 p2 s0 = some (r, σ1)) : Ct yX6_get cX6_get 3 (some .int) 0 0 S G [.ref (G.2.2.1 ro), .int (pI p1), .int (pI p2)] s0 (QI S G r rg σ1) :=
  Ct.of (by decide +kernel) (Nat.le_of_ble_eq_true rfl) fun E X Y => by
    have o : Ok (fX6_get ro rc rn p1 p2 s0) (fun x σ' => x = r ∧ σ' = σ1) := ⟨r, σ1, e, rfl, rfl⟩
    unfold fX6_get at o
    exact (
z_iload_n X 1 dX6_get_0 rfl <|
z_if_lt (tgt := 24) X dX6_get_1 (by decide) hp1 o (fun o =>
z_iconst X dX6_get_24 <|
z_iret X Y dX6_get_25 o kc_m1) fun o =>
z_iload_n X 1 dX6_get_4 rfl <|
z_aload_n X 0 dX6_get_5 rfl <|
z_getI X dX6_get_6 fl_X6_19 hR.1 rfl o fun v1 r2 o =>
z_icmp_ge (tgt := 24) X dX6_get_9 (by decide) hp1 r2 o (fun o =>
z_iconst X dX6_get_24 <|
z_iret X Y dX6_get_25 o kc_m1) fun o =>
z_iload_n X 2 dX6_get_12 rfl <|
z_if_lt (tgt := 24) X dX6_get_13 (by decide) hp2 o (fun o =>
z_iconst X dX6_get_24 <|
z_iret X Y dX6_get_25 o kc_m1) fun o =>
z_iload_n X 2 dX6_get_16 rfl <|
z_aload_n X 0 dX6_get_17 rfl <|
z_getI X dX6_get_18 fl_X6_9 hR.1 rfl o fun v3 r4 o =>
z_icmp_lt (tgt := 26) X dX6_get_21 (by decide) hp2 r4 o (fun o =>
z_aload_n X 0 dX6_get_26 rfl <|
z_getR (q := rc) X dX6_get_27 fl_X6_15 hR.1 rfl <|
z_iload_n X 1 dX6_get_30 rfl <|
z_aload_n X 0 dX6_get_31 rfl <|
z_getI X dX6_get_32 fl_X6_9 hR.1 rfl o fun v5 r6 o =>
z_imul X dX6_get_35 <|
z_iload_n X 2 dX6_get_36 rfl <|
z_iadd X dX6_get_37 <|
z_iald X dX6_get_38 hR.2.1 (w32_rg _) o fun v7 r8 o =>
z_iret X Y dX6_get_39 o r8) fun o =>
z_iconst X dX6_get_24 <|
z_iret X Y dX6_get_25 o kc_m1 : At E s0 0 [(0, .ref (G.2.2.1 ro)), (1, .int (pI p1)), (2, .int (pI p2))] [])
set_option maxHeartbeats 4000000 in
set_option maxRecDepth 100000 in
theorem ct_X11_within (p1 : Int) (p2 : Int) (p3 : Int) (hp1 : rg p1) (hp2 : rg p2) (hp3 : rg p3) (G : Gw) (s0 : St) (r : Int) (σ1 : St) (e : fX11_within p1 p2 p3 s0 = some (r, σ1)) : Ct yX11_within cX11_within 3 (some .boolean) 0 0 SX G [.int (pI p1), .int (pI p2), .int (pI p3)] s0 (QI SX G r r01 σ1) :=
  Ct.of (by decide +kernel) (Nat.le_of_ble_eq_true rfl) fun E X Y => by
    have o : Ok (fX11_within p1 p2 p3 s0) (fun x σ' => x = r ∧ σ' = σ1) := ⟨r, σ1, e, rfl, rfl⟩
    unfold fX11_within at o
    exact (
z_iload_n X 0 dX11_within_0 rfl <|
z_iload_n X 1 dX11_within_1 rfl <|
z_icmp_lt (tgt := 14) X dX11_within_2 (by decide) hp1 hp2 o (fun o =>
z_iconst X dX11_within_14 <|
z_zret X Y dX11_within_15 o kb_0 kb_0) fun o =>
z_iload_n X 0 dX11_within_5 rfl <|
z_iload_n X 2 dX11_within_6 rfl <|
z_icmp_gt (tgt := 14) X dX11_within_7 (by decide) hp1 hp3 o (fun o =>
z_iconst X dX11_within_14 <|
z_zret X Y dX11_within_15 o kb_0 kb_0) fun o =>
z_iconst X dX11_within_10 <|
z_goto (tgt := 15) X dX11_within_11 (by decide) <|
z_zret X Y dX11_within_15 o kb_1 kb_1 : At E s0 0 [(0, .int (pI p1)), (1, .int (pI p2)), (2, .int (pI p3))] [])
set_option maxHeartbeats 4000000 in
set_option maxRecDepth 100000 in
theorem ct_X0_rank (p1 : Int) (p2 : Int) (p3 : Int) (hp1 : rg p1) (hp2 : rg p2) (hp3 : rg p3) (G : Gw) (s0 : St) (r : Int) (σ1 : St) (e : fX0_rank p1 p2 p3 s0 = some (r, σ1)) : Ct yX0_rank cX0_rank 5 (some .int) 1 22 SX G [.ref (G.2.2.1 153), .int (pI p1), .int (pI p2), .int (pI p3)] s0 (QI SX G r rg σ1) :=
  Ct.of (by decide +kernel) (Nat.le_of_ble_eq_true rfl) fun E X Y => by
    have o : Ok (fX0_rank p1 p2 p3 s0) (fun x σ' => x = r ∧ σ' = σ1) := ⟨r, σ1, e, rfl, rfl⟩
    unfold fX0_rank at o
    exact (
z_iconst X dX0_rank_0 <|
z_istore (L1 := [(4, .int (pI 0)), (0, .ref (G.2.2.1 153)), (1, .int (pI p1)), (2, .int (pI p2)), (3, .int (pI p3))]) X dX0_rank_1 (by decide) rfl <|
z_joix o (fun (y7 : Int) s8 => rg y7 → At E s8 27 [(4, .int (pI y7))] []) (fun y7 s8 o r9 =>
z_iload X 0 dX0_rank_27 rfl <|
z_iret X Y dX0_rank_29 o r9) fun o =>
z_sub (L1 := [(0, .ref (G.2.2.1 153)), (1, .int (pI p1)), (2, .int (pI p2)), (3, .int (pI p3)), (4, .int (pI 0))]) X [1, 2, 3, 4, 0] rfl <|
z_iter (fun (x1 : Int) s2 => rg x1 → At E s2 3 [(0, .ref (G.2.2.1 153)), (1, .int (pI p1)), (2, .int (pI p2)), (3, .int (pI p3)), (4, .int (pI x1))] []) o (fun x1 s2 o r3 =>
z_iload X 4 dX0_rank_3 rfl <|
z_iconst X dX0_rank_5 <|
z_icmp_ge (tgt := 36) X dX0_rank_6 (by decide) r3 kc_5 o (fun o =>
z_iconst X dX0_rank_36 <|
z_iret X Y dX0_rank_37 (ok_ret (ok_some o)) kc_5) fun o =>
z_aload_n X 0 dX0_rank_9 rfl <|
z_getR (q := 28) X dX0_rank_10 fl_X0_21 sx_153 rfl <|
z_iconst X dX0_rank_13 <|
z_iload_n X 1 dX0_rank_14 rfl <|
z_imul X dX0_rank_15 <|
z_iload_n X 2 dX0_rank_16 rfl <|
z_iadd X dX0_rank_17 <|
z_iload X 4 dX0_rank_18 rfl <|
z_callvI X dX0_rank_20 q_1236 wX6_get sx_28 rfl (by decide) [.int (pI (w32 (w32 (5 * p1) + p2))), .int (pI x1)] [] rfl rfl (Nat.le_of_ble_eq_true rfl) (fun r σ1 e => ct_X6_get SX 28 29 50 (w32 (w32 (5 * p1) + p2)) x1 ⟨sx_28, sx_29, (by decide)⟩ (w32_rg _) r3 G _ r σ1 e) o fun r4 s5 h6 o =>
z_iload_n X 3 dX0_rank_23 rfl <|
z_icmp_ne (tgt := 30) X dX0_rank_24 (by decide) h6 hp3 o (fun o =>
z_iinc (L1 := [(4, .int (pI (w32 (x1 + 1)))), (0, .ref (G.2.2.1 153)), (1, .int (pI p1)), (2, .int (pI p2)), (3, .int (pI p3))]) X 4 dX0_rank_30 rfl (by decide) rfl <|
z_goto (tgt := 3) X dX0_rank_33 (by decide) <|
z_sub (L1 := [(0, .ref (G.2.2.1 153)), (1, .int (pI p1)), (2, .int (pI p2)), (3, .int (pI p3)), (4, .int (pI (w32 (x1 + 1))))]) X [1, 2, 3, 4, 0] rfl <|
ok_some o (w32_rg _)) fun o =>
z_sub (L1 := [(4, .int (pI x1))]) X [4] rfl <|
ok_some o r3) kc_0 : At E s0 0 [(0, .ref (G.2.2.1 153)), (1, .int (pI p1)), (2, .int (pI p2)), (3, .int (pI p3))] [])
set_option maxHeartbeats 4000000 in
set_option maxRecDepth 100000 in
theorem ct_X0_prefers (p1 : Int) (p2 : Int) (p3 : Int) (p4 : Int) (hp1 : rg p1) (hp2 : rg p2) (hp3 : rg p3) (hp4 : rg p4) (G : Gw) (s0 : St) (r : Int) (σ1 : St) (e : fX0_prefers p1 p2 p3 p4 s0 = some (r, σ1)) : Ct yX0_prefers cX0_prefers 5 (some .boolean) 2 46 SX G [.ref (G.2.2.1 153), .int (pI p1), .int (pI p2), .int (pI p3), .int (pI p4)] s0 (QI SX G r r01 σ1) :=
  Ct.of (by decide +kernel) (Nat.le_of_ble_eq_true rfl) fun E X Y => by
    have o : Ok (fX0_prefers p1 p2 p3 p4 s0) (fun x σ' => x = r ∧ σ' = σ1) := ⟨r, σ1, e, rfl, rfl⟩
    unfold fX0_prefers at o
    exact (
z_aload_n X 0 dX0_prefers_0 rfl <|
z_iload_n X 1 dX0_prefers_1 rfl <|
z_iload_n X 2 dX0_prefers_2 rfl <|
z_iload_n X 3 dX0_prefers_3 rfl <|
z_callvI X dX0_prefers_4 q_1232 wX0_rank sx_153 rfl (by decide) [.int (pI p1), .int (pI p2), .int (pI p3)] [] rfl rfl (Nat.le_of_ble_eq_true rfl) (fun r σ1 e => ct_X0_rank p1 p2 p3 hp1 hp2 hp3 G _ r σ1 e) o fun r1 s2 h3 o =>
z_aload_n X 0 dX0_prefers_7 rfl <|
z_iload_n X 1 dX0_prefers_8 rfl <|
z_iload_n X 2 dX0_prefers_9 rfl <|
z_iload X 4 dX0_prefers_10 rfl <|
z_callvI X dX0_prefers_12 q_1232 wX0_rank sx_153 rfl (by decide) [.int (pI p1), .int (pI p2), .int (pI p4)] [.int (pI r1)] rfl rfl (Nat.le_of_ble_eq_true rfl) (fun r σ1 e => ct_X0_rank p1 p2 p4 hp1 hp2 hp4 G _ r σ1 e) o fun r4 s5 h6 o =>
z_icmp_ge (tgt := 22) X dX0_prefers_15 (by decide) h3 h6 o (fun o =>
z_iconst X dX0_prefers_22 <|
z_zret X Y dX0_prefers_23 o kb_0 kb_0) fun o =>
z_iconst X dX0_prefers_18 <|
z_goto (tgt := 23) X dX0_prefers_19 (by decide) <|
z_zret X Y dX0_prefers_23 o kb_1 kb_1 : At E s0 0 [(0, .ref (G.2.2.1 153)), (1, .int (pI p1)), (2, .int (pI p2)), (3, .int (pI p3)), (4, .int (pI p4))] [])
set_option maxHeartbeats 4000000 in
set_option maxRecDepth 100000 in
theorem ct_X0_ask (p1 : Int) (p2 : Int) (hp1 : rg p1) (hp2 : rg p2) (G : Gw) (s0 : St) (r : Int) (σ1 : St) (e : fX0_ask p1 p2 s0 = some (r, σ1)) : Ct yX0_ask cX0_ask 5 (some .int) 3 70 SX G [.ref (G.2.2.1 153), .int (pI p1), .int (pI p2)] s0 (QI SX G r rg σ1) :=
  Ct.of (by decide +kernel) (Nat.le_of_ble_eq_true rfl) fun E X Y => by
    have o : Ok (fX0_ask p1 p2 s0) (fun x σ' => x = r ∧ σ' = σ1) := ⟨r, σ1, e, rfl, rfl⟩
    unfold fX0_ask at o
    exact (
z_aload_n X 0 dX0_ask_0 rfl <|
z_getR (q := 28) X dX0_ask_1 fl_X0_21 sx_153 rfl <|
z_iconst X dX0_ask_4 <|
z_iload_n X 1 dX0_ask_5 rfl <|
z_imul X dX0_ask_6 <|
z_iload_n X 2 dX0_ask_7 rfl <|
z_iadd X dX0_ask_8 <|
z_aload_n X 0 dX0_ask_9 rfl <|
z_getR (q := 154) X dX0_ask_10 fl_X0_11 sx_153 rfl <|
z_iload_n X 2 dX0_ask_13 rfl <|
z_iald X dX0_ask_14 sx_154 hp2 o fun v1 r2 o =>
z_callvI X dX0_ask_15 q_1236 wX6_get sx_28 rfl (by decide) [.int (pI (w32 (w32 (5 * p1) + p2))), .int (pI v1)] [] rfl rfl (Nat.le_of_ble_eq_true rfl) (fun r σ1 e => ct_X6_get SX 28 29 50 (w32 (w32 (5 * p1) + p2)) v1 ⟨sx_28, sx_29, (by decide)⟩ (w32_rg _) r2 G _ r σ1 e) o fun r3 s4 h5 o =>
z_istore_n (L1 := [(3, .int (pI r3)), (0, .ref (G.2.2.1 153)), (1, .int (pI p1)), (2, .int (pI p2))]) X dX0_ask_18 rfl (by decide) rfl <|
z_iload_n X 0 dX0_ask_19 rfl <|
z_iconst X dX0_ask_20 <|
z_iconst X dX0_ask_21 <|
z_callsIN X dX0_ask_22 q_1250 wX11_within  (by decide) [.int (pI r3), .int (pI 0), .int (pI 4)] [] rfl rfl (Nat.le_of_ble_eq_true rfl) (fun r σ1 e => ct_X11_within r3 0 4 h5 kc_0 kc_4 G _ r σ1 e) o fun r6 s7 h8 o =>
z_if_ne (tgt := 30) X dX0_ask_25 (by decide) (r01_rg h8) o (fun o =>
z_aload_n X 1 dX0_ask_30 rfl <|
z_getR (q := 154) X dX0_ask_31 fl_X0_11 sx_153 rfl <|
z_iload_n X 3 dX0_ask_34 rfl <|
z_dup2 X dX0_ask_35 rfl rfl <|
z_iald X dX0_ask_36 sx_154 hp2 o fun v9 r10 o =>
z_iconst X dX0_ask_37 <|
z_iadd X dX0_ask_38 <|
z_iast X dX0_ask_39 sx_154 hp2 (w32_rg _) o fun s11 o =>
z_aload_n X 1 dX0_ask_40 rfl <|
z_getR (q := 155) X dX0_ask_41 fl_X0_15 sx_153 rfl <|
z_iload_n X 0 dX0_ask_44 rfl <|
z_iald X dX0_ask_45 sx_155 h5 o fun v12 r13 o =>
z_istore (L1 := [(4, .int (pI v12)), (3, .int (pI r3)), (0, .ref (G.2.2.1 153)), (1, .int (pI p1)), (2, .int (pI p2))]) X dX0_ask_46 (by decide) rfl <|
z_iload X 0 dX0_ask_48 rfl <|
z_iconst X dX0_ask_50 <|
z_icmp_eq (tgt := 70) X dX0_ask_51 (by decide) r13 kc_m1 o (fun o =>
z_aload_n X 2 dX0_ask_70 rfl <|
z_getR (q := 155) X dX0_ask_71 fl_X0_15 sx_153 rfl <|
z_iload_n X 1 dX0_ask_74 rfl <|
z_iload_n X 4 dX0_ask_75 rfl <|
z_iast X dX0_ask_76 sx_155 h5 hp2 o fun s14 o =>
z_iload X 0 dX0_ask_77 rfl <|
z_iret X Y dX0_ask_79 o r13) fun o =>
z_aload_n X 2 dX0_ask_54 rfl <|
z_iconst X dX0_ask_55 <|
z_iload_n X 3 dX0_ask_56 rfl <|
z_isub X dX0_ask_57 <|
z_iload_n X 1 dX0_ask_58 rfl <|
z_iload X 0 dX0_ask_59 rfl <|
z_iload_n X 4 dX0_ask_61 rfl <|
z_callvI X dX0_ask_62 q_1228 wX0_prefers sx_153 rfl (by decide) [.int (pI (w32 (1 - p1))), .int (pI r3), .int (pI v12), .int (pI p2)] [] rfl rfl (Nat.le_of_ble_eq_true rfl) (fun r σ1 e => ct_X0_prefers (w32 (1 - p1)) r3 v12 p2 (w32_rg _) h5 r13 hp2 G _ r σ1 e) o fun r15 s16 h17 o =>
z_if_eq (tgt := 70) X dX0_ask_65 (by decide) (r01_rg h17) o (fun o =>
z_aload_n X 2 dX0_ask_70 rfl <|
z_getR (q := 155) X dX0_ask_71 fl_X0_15 sx_153 rfl <|
z_iload_n X 1 dX0_ask_74 rfl <|
z_iload_n X 4 dX0_ask_75 rfl <|
z_iast X dX0_ask_76 sx_155 h5 hp2 o fun s18 o =>
z_iload X 0 dX0_ask_77 rfl <|
z_iret X Y dX0_ask_79 o r13) fun o =>
z_iload_n X 4 dX0_ask_68 rfl <|
z_iret X Y dX0_ask_69 o hp2) fun o =>
z_iconst X dX0_ask_28 <|
z_iret X Y dX0_ask_29 o kc_m1 : At E s0 0 [(0, .ref (G.2.2.1 153)), (1, .int (pI p1)), (2, .int (pI p2))] [])
set_option maxHeartbeats 4000000 in
set_option maxRecDepth 100000 in
theorem ct_X6_change (S : List Kd) (ro rc rn : Nat) (p1 : Int) (p2 : Int) (p3 : Int) (p4 : Int) (p5 : Int) (p6 : Int) (hR : isR S ro rc rn) (hp1 : rg p1) (hp2 : rg p2) (hp3 : rg p3) (hp4 : rg p4) (hp5 : rg p5) (hp6 : rg p6) (G : Gw) (s0 : St) (r : Int) (σ1 : St) (e : fX6_change ro rc rn p1 p2 p3 p4 p5 p6 s0 = some (r, σ1)) : Ct yX6_change cX6_change 8 none 0 0 S G [.ref (G.2.2.1 ro), .int (pI p1), .int (pI p2), .int (pI p3), .int (pI p4), .int (pI p5), .int (pI p6)] s0 (QV S G σ1) :=
  Ct.of (by decide +kernel) (Nat.le_of_ble_eq_true rfl) fun E X Y => by
    have o : Ok (fX6_change ro rc rn p1 p2 p3 p4 p5 p6 s0) (fun x σ' => x = r ∧ σ' = σ1) := ⟨r, σ1, e, rfl, rfl⟩
    unfold fX6_change at o
    exact (
z_iload_n X 1 dX6_change_0 rfl <|
z_if_lt (tgt := 12) X dX6_change_1 (by decide) hp1 o (fun o =>
z_vret (v := 0) X Y dX6_change_12 o) fun o =>
z_iload_n X 1 dX6_change_4 rfl <|
z_aload_n X 0 dX6_change_5 rfl <|
z_getI X dX6_change_6 fl_X6_19 hR.1 rfl o fun v1 r2 o =>
z_icmp_lt (tgt := 13) X dX6_change_9 (by decide) hp1 r2 o (fun o =>
z_iload_n X 1 dX6_change_13 rfl <|
z_aload_n X 0 dX6_change_14 rfl <|
z_getI X dX6_change_15 fl_X6_9 hR.1 rfl o fun v3 r4 o =>
z_imul X dX6_change_18 <|
z_istoreL (L1 := fun v5 => [(7, .int (pI v5)), (0, .ref (G.2.2.1 ro)), (1, .int (pI p1)), (2, .int (pI p2)), (3, .int (pI p3)), (4, .int (pI p4)), (5, .int (pI p5)), (6, .int (pI p6))]) (R := rg) X dX6_change_19 (by decide) (fun _ => rfl) o (w32_rg _) fun v5 r6 o =>
z_aload_n X 1 dX6_change_21 rfl <|
z_getI X dX6_change_22 fl_X6_9 hR.1 rfl o fun v7 r8 o =>
z_join o (fun (y10 : Unit) s11 => True → At E s11 36 [(0, .ref (G.2.2.1 ro)), (3, .int (pI p3)), (4, .int (pI p4)), (5, .int (pI p5)), (6, .int (pI p6)), (7, .int (pI v5))] []) (fun y10 s11 o r12 =>
z_aload_n X 0 dX6_change_36 rfl <|
z_getI X dX6_change_37 fl_X6_9 hR.1 rfl o fun v13 r14 o =>
z_iconst X dX6_change_40 <|
z_join o (fun (y16 : Unit) s17 => True → At E s17 54 [(0, .ref (G.2.2.1 ro)), (4, .int (pI p4)), (5, .int (pI p5)), (6, .int (pI p6)), (7, .int (pI v5))] []) (fun y16 s17 o r18 =>
z_aload_n X 0 dX6_change_54 rfl <|
z_getI X dX6_change_55 fl_X6_9 hR.1 rfl o fun v19 r20 o =>
z_iconst X dX6_change_58 <|
z_join o (fun (y22 : Unit) s23 => True → At E s23 73 [(0, .ref (G.2.2.1 ro)), (5, .int (pI p5)), (6, .int (pI p6)), (7, .int (pI v5))] []) (fun y22 s23 o r24 =>
z_aload_n X 0 dX6_change_73 rfl <|
z_getI X dX6_change_74 fl_X6_9 hR.1 rfl o fun v25 r26 o =>
z_iconst X dX6_change_77 <|
z_join o (fun (y28 : Unit) s29 => True → At E s29 92 [(0, .ref (G.2.2.1 ro)), (6, .int (pI p6)), (7, .int (pI v5))] []) (fun y28 s29 o r30 =>
z_aload_n X 0 dX6_change_92 rfl <|
z_getI X dX6_change_93 fl_X6_9 hR.1 rfl o fun v31 r32 o =>
z_iconst X dX6_change_96 <|
z_icmp_le (tgt := 111) X dX6_change_97 (by decide) r32 kc_4 o (fun o =>
z_vret (v := 0) X Y dX6_change_111 o) fun o =>
z_aload_n X 0 dX6_change_100 rfl <|
z_getR (q := rc) X dX6_change_101 fl_X6_15 hR.1 rfl <|
z_iload X 2 dX6_change_104 rfl <|
z_iconst X dX6_change_106 <|
z_iadd X dX6_change_107 <|
z_iload X 1 dX6_change_108 rfl <|
z_iast X dX6_change_110 hR.2.1 (w32_rg _) hp6 o fun s33 o =>
z_vret (v := 0) X Y dX6_change_111 o) fun o =>
z_icmp_le (tgt := 92) X dX6_change_78 (by decide) r26 kc_3 o (fun o =>
z_sub (L1 := [(0, .ref (G.2.2.1 ro)), (6, .int (pI p6)), (7, .int (pI v5))]) X [0, 2, 3] rfl <|
ok_some o trivial) fun o =>
z_aload_n X 0 dX6_change_81 rfl <|
z_getR (q := rc) X dX6_change_82 fl_X6_15 hR.1 rfl <|
z_iload X 3 dX6_change_85 rfl <|
z_iconst X dX6_change_87 <|
z_iadd X dX6_change_88 <|
z_iload X 1 dX6_change_89 rfl <|
z_iast X dX6_change_91 hR.2.1 (w32_rg _) hp5 o fun s27 o =>
z_sub (L1 := [(0, .ref (G.2.2.1 ro)), (6, .int (pI p6)), (7, .int (pI v5))]) X [0, 2, 3] rfl <|
ok_some o trivial) fun o =>
z_icmp_le (tgt := 73) X dX6_change_59 (by decide) r20 kc_2 o (fun o =>
z_sub (L1 := [(0, .ref (G.2.2.1 ro)), (5, .int (pI p5)), (6, .int (pI p6)), (7, .int (pI v5))]) X [0, 2, 3, 4] rfl <|
ok_some o trivial) fun o =>
z_aload_n X 0 dX6_change_62 rfl <|
z_getR (q := rc) X dX6_change_63 fl_X6_15 hR.1 rfl <|
z_iload X 4 dX6_change_66 rfl <|
z_iconst X dX6_change_68 <|
z_iadd X dX6_change_69 <|
z_iload X 1 dX6_change_70 rfl <|
z_iast X dX6_change_72 hR.2.1 (w32_rg _) hp4 o fun s21 o =>
z_sub (L1 := [(0, .ref (G.2.2.1 ro)), (5, .int (pI p5)), (6, .int (pI p6)), (7, .int (pI v5))]) X [0, 2, 3, 4] rfl <|
ok_some o trivial) fun o =>
z_icmp_le (tgt := 54) X dX6_change_41 (by decide) r14 kc_1 o (fun o =>
z_sub (L1 := [(0, .ref (G.2.2.1 ro)), (4, .int (pI p4)), (5, .int (pI p5)), (6, .int (pI p6)), (7, .int (pI v5))]) X [0, 2, 3, 4, 5] rfl <|
ok_some o trivial) fun o =>
z_aload_n X 0 dX6_change_44 rfl <|
z_getR (q := rc) X dX6_change_45 fl_X6_15 hR.1 rfl <|
z_iload X 5 dX6_change_48 rfl <|
z_iconst X dX6_change_50 <|
z_iadd X dX6_change_51 <|
z_iload_n X 1 dX6_change_52 rfl <|
z_iast X dX6_change_53 hR.2.1 (w32_rg _) hp3 o fun s15 o =>
z_sub (L1 := [(0, .ref (G.2.2.1 ro)), (4, .int (pI p4)), (5, .int (pI p5)), (6, .int (pI p6)), (7, .int (pI v5))]) X [0, 2, 3, 4, 5] rfl <|
ok_some o trivial) fun o =>
z_if_le (tgt := 36) X dX6_change_25 (by decide) r8 o (fun o =>
z_sub (L1 := [(0, .ref (G.2.2.1 ro)), (3, .int (pI p3)), (4, .int (pI p4)), (5, .int (pI p5)), (6, .int (pI p6)), (7, .int (pI v5))]) X [1, 4, 5, 6, 7, 0] rfl <|
ok_some o trivial) fun o =>
z_aload_n X 1 dX6_change_28 rfl <|
z_getR (q := rc) X dX6_change_29 fl_X6_15 hR.1 rfl <|
z_iload X 0 dX6_change_32 rfl <|
z_iload_n X 3 dX6_change_34 rfl <|
z_iast X dX6_change_35 hR.2.1 r6 hp2 o fun s9 o =>
z_sub (L1 := [(0, .ref (G.2.2.1 ro)), (3, .int (pI p3)), (4, .int (pI p4)), (5, .int (pI p5)), (6, .int (pI p6)), (7, .int (pI v5))]) X [1, 4, 5, 6, 7, 0] rfl <|
ok_some o trivial) fun o =>
z_vret (v := 0) X Y dX6_change_12 o : At E s0 0 [(0, .ref (G.2.2.1 ro)), (1, .int (pI p1)), (2, .int (pI p2)), (3, .int (pI p3)), (4, .int (pI p4)), (5, .int (pI p5)), (6, .int (pI p6))] [])
set_option maxHeartbeats 4000000 in
set_option maxRecDepth 100000 in
theorem ct_X0_change (p1 : Int) (p2 : Int) (p3 : Int) (hp1 : rg p1) (hp2 : rg p2) (hp3 : rg p3) (G : Gw) (s0 : St) (r : Int) (σ1 : St) (e : fX0_change p1 p2 p3 s0 = some (r, σ1)) : Ct yX0_change cX0_change 10 (some .boolean) 1 27 SX G [.ref (G.2.2.1 153), .int (pI p1), .int (pI p2), .int (pI p3)] s0 (QI SX G r r01 σ1) :=
  Ct.of (by decide +kernel) (Nat.le_of_ble_eq_true rfl) fun E X Y => by
    have o : Ok (fX0_change p1 p2 p3 s0) (fun x σ' => x = r ∧ σ' = σ1) := ⟨r, σ1, e, rfl, rfl⟩
    unfold fX0_change at o
    exact (
z_iload_n X 3 dX0_change_0 rfl <|
z_if_lt (tgt := 10) X dX0_change_1 (by decide) hp3 o (fun o =>
z_iconst X dX0_change_10 <|
z_zret X Y dX0_change_11 o kb_0 kb_0) fun o =>
z_iload_n X 3 dX0_change_4 rfl <|
z_ldc X dX0_change_5 q_1207 ki_43210 <|
z_icmp_le (tgt := 12) X dX0_change_7 (by decide) hp3 kc_43210 o (fun o =>
z_iload_n X 3 dX0_change_12 rfl <|
z_sipush X dX0_change_13 si_10000 <|
z_idiv X dX0_change_16 hp3 kc_10000 o fun z1 o =>
z_istoreL (L1 := fun v2 => [(4, .int (pI v2)), (0, .ref (G.2.2.1 153)), (1, .int (pI p1)), (2, .int (pI p2)), (3, .int (pI p3))]) (R := rg) X dX0_change_17 (by decide) (fun _ => rfl) o (w32_rg _) fun v2 r3 o =>
z_iload_n X 4 dX0_change_19 rfl <|
z_sipush X dX0_change_20 si_1000 <|
z_idiv X dX0_change_23 hp3 kc_1000 o fun z4 o =>
z_bipush X dX0_change_24 bi_10 <|
z_irem X dX0_change_26 (w32_rg _) kc_10 o fun z5 o =>
z_istoreL (L1 := fun v6 => [(5, .int (pI v6)), (4, .int (pI v2)), (0, .ref (G.2.2.1 153)), (1, .int (pI p1)), (2, .int (pI p2)), (3, .int (pI p3))]) (R := rg) X dX0_change_27 (by decide) (fun _ => rfl) o (irm_rg kc_10 z5) fun v6 r7 o =>
z_iload_n X 5 dX0_change_29 rfl <|
z_bipush X dX0_change_30 bi_100 <|
z_idiv X dX0_change_32 hp3 kc_100 o fun z8 o =>
z_bipush X dX0_change_33 bi_10 <|
z_irem X dX0_change_35 (w32_rg _) kc_10 o fun z9 o =>
z_istoreL (L1 := fun v10 => [(6, .int (pI v10)), (5, .int (pI v6)), (4, .int (pI v2)), (0, .ref (G.2.2.1 153)), (1, .int (pI p1)), (2, .int (pI p2)), (3, .int (pI p3))]) (R := rg) X dX0_change_36 (by decide) (fun _ => rfl) o (irm_rg kc_10 z9) fun v10 r11 o =>
z_iload_n X 6 dX0_change_38 rfl <|
z_bipush X dX0_change_39 bi_10 <|
z_idiv X dX0_change_41 hp3 kc_10 o fun z12 o =>
z_bipush X dX0_change_42 bi_10 <|
z_irem X dX0_change_44 (w32_rg _) kc_10 o fun z13 o =>
z_istoreL (L1 := fun v14 => [(7, .int (pI v14)), (6, .int (pI v10)), (5, .int (pI v6)), (4, .int (pI v2)), (0, .ref (G.2.2.1 153)), (1, .int (pI p1)), (2, .int (pI p2)), (3, .int (pI p3))]) (R := rg) X dX0_change_45 (by decide) (fun _ => rfl) o (irm_rg kc_10 z13) fun v14 r15 o =>
z_iload_n X 7 dX0_change_47 rfl <|
z_bipush X dX0_change_48 bi_10 <|
z_irem X dX0_change_50 hp3 kc_10 o fun z16 o =>
z_istoreL (L1 := fun v17 => [(8, .int (pI v17)), (7, .int (pI v14)), (6, .int (pI v10)), (5, .int (pI v6)), (4, .int (pI v2)), (0, .ref (G.2.2.1 153)), (1, .int (pI p1)), (2, .int (pI p2)), (3, .int (pI p3))]) (R := rg) X dX0_change_51 (by decide) (fun _ => rfl) o (irm_rg kc_10 z16) fun v17 r18 o =>
z_iconst X dX0_change_53 <|
z_iload X 4 dX0_change_54 rfl <|
z_ishl X dX0_change_56 <|
z_iconst X dX0_change_57 <|
z_iload X 3 dX0_change_58 rfl <|
z_ishl X dX0_change_60 <|
z_ior X dX0_change_61 <|
z_iconst X dX0_change_62 <|
z_iload X 2 dX0_change_63 rfl <|
z_ishl X dX0_change_65 <|
z_ior X dX0_change_66 <|
z_iconst X dX0_change_67 <|
z_iload X 1 dX0_change_68 rfl <|
z_ishl X dX0_change_70 <|
z_ior X dX0_change_71 <|
z_iconst X dX0_change_72 <|
z_iload X 0 dX0_change_73 rfl <|
z_ishl X dX0_change_75 <|
z_ior X dX0_change_76 <|
z_istoreL (L1 := fun v19 => [(9, .int (pI v19)), (8, .int (pI v17)), (7, .int (pI v14)), (6, .int (pI v10)), (5, .int (pI v6)), (4, .int (pI v2)), (0, .ref (G.2.2.1 153)), (1, .int (pI p1)), (2, .int (pI p2)), (3, .int (pI p3))]) (R := rg) X dX0_change_77 (by decide) (fun _ => rfl) o (int_rg _) fun v19 r20 o =>
z_iload X 0 dX0_change_79 rfl <|
z_bipush X dX0_change_81 bi_31 <|
z_icmp_eq (tgt := 88) X dX0_change_83 (by decide) r20 kc_31 o (fun o =>
z_aload_n X 6 dX0_change_88 rfl <|
z_getR (q := 28) X dX0_change_89 fl_X0_21 sx_153 rfl <|
z_iconst X dX0_change_92 <|
z_iload_n X 7 dX0_change_93 rfl <|
z_imul X dX0_change_94 <|
z_iload_n X 8 dX0_change_95 rfl <|
z_iadd X dX0_change_96 <|
z_iload X 5 dX0_change_97 rfl <|
z_iload X 4 dX0_change_99 rfl <|
z_iload X 3 dX0_change_101 rfl <|
z_iload X 2 dX0_change_103 rfl <|
z_iload X 1 dX0_change_105 rfl <|
z_callvV X dX0_change_107 q_1208 wX6_change sx_28 rfl (by decide) [.int (pI (w32 (w32 (5 * p1) + p2))), .int (pI v2), .int (pI v6), .int (pI v10), .int (pI v14), .int (pI v17)] [] rfl rfl (Nat.le_of_ble_eq_true rfl) (fun r σ1 e => ct_X6_change SX 28 29 50 (w32 (w32 (5 * p1) + p2)) v2 v6 v10 v14 v17 ⟨sx_28, sx_29, (by decide)⟩ (w32_rg _) r3 r7 r11 r15 r18 G _ r σ1 e) o fun r21 s22 o =>
z_iconst X dX0_change_110 <|
z_zret X Y dX0_change_111 o kb_1 kb_1) fun o =>
z_iconst X dX0_change_86 <|
z_zret X Y dX0_change_87 o kb_0 kb_0) fun o =>
z_iconst X dX0_change_10 <|
z_zret X Y dX0_change_11 o kb_0 kb_0 : At E s0 0 [(0, .ref (G.2.2.1 153)), (1, .int (pI p1)), (2, .int (pI p2)), (3, .int (pI p3))] [])
set_option maxHeartbeats 4000000 in
set_option maxRecDepth 100000 in
theorem ct_J7_fill_53178 (S : List Kd) (ra rn : Nat) (p2 : Int) (hA : S[ra]? = some (.inl (0, rn))) (hAn : rn ≤ 65536) (hp2 : rg p2) (G : Gw) (s0 : St) (r : Int) (σ1 : St) (e : fJ7_fill_53178 ra rn p2 s0 = some (r, σ1)) : Ct yJ7_fill_53178 cJ7_fill_53178 4 none 0 0 S G [.ref (G.2.2.1 ra), .int (pI p2)] s0 (QV S G σ1) :=
  Ct.of (by decide +kernel) (Nat.le_of_ble_eq_true rfl) fun E X Y => by
    have o : Ok (fJ7_fill_53178 ra rn p2 s0) (fun x σ' => x = r ∧ σ' = σ1) := ⟨r, σ1, e, rfl, rfl⟩
    unfold fJ7_fill_53178 at o
    exact (
z_iconst X dJ7_fill_53178_0 <|
z_istore_n (L1 := [(2, .int (pI 0)), (0, .ref (G.2.2.1 ra)), (1, .int (pI p2))]) X dJ7_fill_53178_1 rfl (by decide) rfl <|
z_aload_n X 1 dJ7_fill_53178_2 rfl <|
z_alen X dJ7_fill_53178_3 hA <|
z_istoreL_n (L1 := fun v1 => [(3, .int (pI v1)), (2, .int (pI 0)), (0, .ref (G.2.2.1 ra)), (1, .int (pI p2))]) (R := rg) X dJ7_fill_53178_4 rfl (by decide) (fun _ => rfl) o (nrg hAn) fun v1 r2 o =>
z_join o (fun (y7 : Unit) s8 => True → At E s8 20 [] []) (fun y7 s8 o r9 =>
z_vret (v := 0) X Y dJ7_fill_53178_20 o) fun o =>
z_sub (L1 := [(0, .ref (G.2.2.1 ra)), (1, .int (pI p2)), (2, .int (pI 0)), (3, .int (pI v1))]) X [2, 3, 1, 0] rfl <|
z_iter (fun (x3 : Int) s4 => rg x3 → At E s4 5 [(0, .ref (G.2.2.1 ra)), (1, .int (pI p2)), (2, .int (pI x3)), (3, .int (pI v1))] []) o (fun x3 s4 o r5 =>
z_iload_n X 2 dJ7_fill_53178_5 rfl <|
z_iload_n X 3 dJ7_fill_53178_6 rfl <|
z_icmp_ge (tgt := 20) X dJ7_fill_53178_7 (by decide) r5 r2 o (fun o =>
z_sub (L1 := []) X [] rfl <|
ok_some o trivial) fun o =>
z_aload_n X 0 dJ7_fill_53178_10 rfl <|
z_iload_n X 2 dJ7_fill_53178_11 rfl <|
z_iload_n X 1 dJ7_fill_53178_12 rfl <|
z_iast X dJ7_fill_53178_13 hA r5 hp2 o fun s6 o =>
z_iinc (L1 := [(2, .int (pI (w32 (x3 + 1)))), (0, .ref (G.2.2.1 ra)), (1, .int (pI p2)), (3, .int (pI v1))]) X 2 dJ7_fill_53178_14 rfl (by decide) rfl <|
z_goto (tgt := 5) X dJ7_fill_53178_17 (by decide) <|
z_sub (L1 := [(0, .ref (G.2.2.1 ra)), (1, .int (pI p2)), (2, .int (pI (w32 (x3 + 1)))), (3, .int (pI v1))]) X [1, 2, 0, 3] rfl <|
ok_some o (w32_rg _)) kc_0 : At E s0 0 [(0, .ref (G.2.2.1 ra)), (1, .int (pI p2))] [])
set_option maxHeartbeats 4000000 in
set_option maxRecDepth 100000 in
theorem ct_X0_engage (p1 : Int) (hp1 : rg p1) (G : Gw) (s0 : St) (r : Int) (σ1 : St) (e : fX0_engage p1 s0 = some (r, σ1)) : Ct yX0_engage cX0_engage 5 none 4 94 SX G [.ref (G.2.2.1 153), .int (pI p1)] s0 (QV SX G σ1) :=
  Ct.of (by decide +kernel) (Nat.le_of_ble_eq_true rfl) fun E X Y => by
    have o : Ok (fX0_engage p1 s0) (fun x σ' => x = r ∧ σ' = σ1) := ⟨r, σ1, e, rfl, rfl⟩
    unfold fX0_engage at o
    exact (
z_aload_n X 0 dX0_engage_0 rfl <|
z_getR (q := 154) X dX0_engage_1 fl_X0_11 sx_153 rfl <|
z_iconst X dX0_engage_4 <|
z_callsV X dX0_engage_5 q_1245 wJ7_fill_53178  (by decide) [.ref (G.2.2.1 154), .int (pI 0)] [] rfl rfl (Nat.le_of_ble_eq_true rfl) (fun r σ1 e => ct_J7_fill_53178 SX 154 5 0 sx_154 (by decide) kc_0 G _ r σ1 e) o fun r1 s2 o =>
z_aload_n X 0 dX0_engage_8 rfl <|
z_getR (q := 155) X dX0_engage_9 fl_X0_15 sx_153 rfl <|
z_iconst X dX0_engage_12 <|
z_callsV X dX0_engage_13 q_1245 wJ7_fill_53178  (by decide) [.ref (G.2.2.1 155), .int (pI (-1))] [] rfl rfl (Nat.le_of_ble_eq_true rfl) (fun r σ1 e => ct_J7_fill_53178 SX 155 5 (-1) sx_155 (by decide) kc_m1 G _ r σ1 e) o fun r4 s5 o =>
z_iconst X dX0_engage_16 <|
z_istore_n (L1 := [(2, .int (pI 0)), (0, .ref (G.2.2.1 153)), (1, .int (pI p1))]) X dX0_engage_17 rfl (by decide) rfl <|
z_join o (fun (y19 : Unit) s20 => True → At E s20 59 [] []) (fun y19 s20 o r21 =>
z_vret (v := 0) X Y dX0_engage_59 o) fun o =>
z_sub (L1 := [(0, .ref (G.2.2.1 153)), (1, .int (pI p1)), (2, .int (pI 0))]) X [1, 2, 0] rfl <|
z_iter (fun (x7 : Int) s8 => rg x7 → At E s8 18 [(0, .ref (G.2.2.1 153)), (1, .int (pI p1)), (2, .int (pI x7))] []) o (fun x7 s8 o r9 =>
z_iload_n X 2 dX0_engage_18 rfl <|
z_iconst X dX0_engage_19 <|
z_icmp_ge (tgt := 59) X dX0_engage_20 (by decide) r9 kc_5 o (fun o =>
z_sub (L1 := []) X [] rfl <|
ok_some o trivial) fun o =>
z_iload_n X 2 dX0_engage_23 rfl <|
z_istore_n (L1 := [(3, .int (pI x7)), (0, .ref (G.2.2.1 153)), (1, .int (pI p1)), (2, .int (pI x7))]) X dX0_engage_24 rfl (by decide) rfl <|
z_iconst X dX0_engage_25 <|
z_istore (L1 := [(4, .int (pI 0)), (3, .int (pI x7)), (0, .ref (G.2.2.1 153)), (1, .int (pI p1)), (2, .int (pI x7))]) X dX0_engage_26 (by decide) rfl <|
z_join o (fun (y16 : Unit) s17 => True → At E s17 53 [(0, .ref (G.2.2.1 153)), (1, .int (pI p1)), (2, .int (pI x7))] []) (fun y16 s17 o r18 =>
z_iinc (L1 := [(2, .int (pI (w32 (x7 + 1)))), (0, .ref (G.2.2.1 153)), (1, .int (pI p1))]) X 2 dX0_engage_53 rfl (by decide) rfl <|
z_goto (tgt := 18) X dX0_engage_56 (by decide) <|
z_sub (L1 := [(0, .ref (G.2.2.1 153)), (1, .int (pI p1)), (2, .int (pI (w32 (x7 + 1))))]) X [1, 2, 0] rfl <|
ok_some o (w32_rg _)) fun o =>
z_sub (L1 := [(0, .ref (G.2.2.1 153)), (1, .int (pI p1)), (2, .int (pI x7)), (3, .int (pI x7)), (4, .int (pI 0))]) X [2, 3, 4, 1, 0] rfl <|
z_iter (fun (x10 : Int × Int) s11 => rg x10.1 ∧ rg x10.2 → At E s11 28 [(0, .ref (G.2.2.1 153)), (1, .int (pI p1)), (2, .int (pI x7)), (3, .int (pI x10.1)), (4, .int (pI x10.2))] []) o (fun x10 s11 o r12 =>
z_iload X 4 dX0_engage_28 rfl <|
z_bipush X dX0_engage_30 bi_25 <|
z_icmp_ge (tgt := 53) X dX0_engage_32 (by decide) r12.2 kc_25 o (fun o =>
z_sub (L1 := [(0, .ref (G.2.2.1 153)), (1, .int (pI p1)), (2, .int (pI x7))]) X [0, 1, 2] rfl <|
ok_some o trivial) fun o =>
z_iload_n X 3 dX0_engage_35 rfl <|
z_iconst X dX0_engage_36 <|
z_icmp_eq (tgt := 53) X dX0_engage_37 (by decide) r12.1 kc_m1 o (fun o =>
z_sub (L1 := [(0, .ref (G.2.2.1 153)), (1, .int (pI p1)), (2, .int (pI x7))]) X [0, 1, 2] rfl <|
ok_some o trivial) fun o =>
z_aload_n X 0 dX0_engage_40 rfl <|
z_iload_n X 1 dX0_engage_41 rfl <|
z_iload_n X 3 dX0_engage_42 rfl <|
z_callvI X dX0_engage_43 q_1246 wX0_ask sx_153 rfl (by decide) [.int (pI p1), .int (pI x10.1)] [] rfl rfl (Nat.le_of_ble_eq_true rfl) (fun r σ1 e => ct_X0_ask p1 x10.1 hp1 r12.1 G _ r σ1 e) o fun r13 s14 h15 o =>
z_istore_n (L1 := [(3, .int (pI r13)), (0, .ref (G.2.2.1 153)), (1, .int (pI p1)), (2, .int (pI x7)), (4, .int (pI x10.2))]) X dX0_engage_46 rfl (by decide) rfl <|
z_iinc (L1 := [(4, .int (pI (w32 (x10.2 + 1)))), (3, .int (pI r13)), (0, .ref (G.2.2.1 153)), (1, .int (pI p1)), (2, .int (pI x7))]) X 4 dX0_engage_47 rfl (by decide) rfl <|
z_goto (tgt := 28) X dX0_engage_50 (by decide) <|
z_sub (L1 := [(0, .ref (G.2.2.1 153)), (1, .int (pI p1)), (2, .int (pI x7)), (3, .int (pI r13)), (4, .int (pI (w32 (x10.2 + 1))))]) X [2, 3, 4, 1, 0] rfl <|
ok_some o ⟨h15, (w32_rg _)⟩) ⟨r9, kc_0⟩) kc_0 : At E s0 0 [(0, .ref (G.2.2.1 153)), (1, .int (pI p1))] [])
set_option maxHeartbeats 4000000 in
set_option maxRecDepth 100000 in
theorem ct_X0_freeOne (p1 : Int) (p2 : Int) (hp1 : rg p1) (hp2 : rg p2) (G : Gw) (s0 : St) (r : Int) (σ1 : St) (e : fX0_freeOne p1 p2 s0 = some (r, σ1)) : Ct yX0_freeOne cX0_freeOne 4 (some .int) 0 0 SX G [.int (pI p1), .int (pI p2)] s0 (QI SX G r rg σ1) :=
  Ct.of (by decide +kernel) (Nat.le_of_ble_eq_true rfl) fun E X Y => by
    have o : Ok (fX0_freeOne p1 p2 s0) (fun x σ' => x = r ∧ σ' = σ1) := ⟨r, σ1, e, rfl, rfl⟩
    unfold fX0_freeOne at o
    exact (
z_iload_n X 1 dX0_freeOne_0 rfl <|
z_istore_n (L1 := [(2, .int (pI p2)), (0, .int (pI p1)), (1, .int (pI p2))]) X dX0_freeOne_1 rfl (by decide) rfl <|
z_iconst X dX0_freeOne_2 <|
z_istore_n (L1 := [(3, .int (pI 0)), (2, .int (pI p2)), (0, .int (pI p1)), (1, .int (pI p2))]) X dX0_freeOne_3 rfl (by decide) rfl <|
z_joix o (fun (y4 : Int) s5 => rg y4 → At E s5 25 [(3, .int (pI y4))] []) (fun y4 s5 o r6 =>
z_iload_n X 0 dX0_freeOne_25 rfl <|
z_iret X Y dX0_freeOne_26 o r6) fun o =>
z_sub (L1 := [(0, .int (pI p1)), (2, .int (pI p2)), (3, .int (pI 0))]) X [2, 1, 0] rfl <|
z_iter (fun (x1 : Int × Int) s2 => rg x1.1 ∧ rg x1.2 → At E s2 4 [(0, .int (pI p1)), (2, .int (pI x1.1)), (3, .int (pI x1.2))] []) o (fun x1 s2 o r3 =>
z_iload_n X 2 dX0_freeOne_4 rfl <|
z_iconst X dX0_freeOne_5 <|
z_icmp_ge (tgt := 36) X dX0_freeOne_6 (by decide) r3.2 kc_5 o (fun o =>
z_iconst X dX0_freeOne_36 <|
z_iret X Y dX0_freeOne_37 (ok_ret (ok_some o)) kc_0) fun o =>
z_iload_n X 0 dX0_freeOne_9 rfl <|
z_iload_n X 2 dX0_freeOne_10 rfl <|
z_ishr X dX0_freeOne_11 <|
z_iconst X dX0_freeOne_12 <|
z_iand X dX0_freeOne_13 <|
z_iconst X dX0_freeOne_14 <|
z_icmp_ne (tgt := 21) X dX0_freeOne_15 (by decide) (int_rg _) kc_1 o (fun o =>
z_iload_n X 1 dX0_freeOne_21 rfl <|
z_if_ne (tgt := 27) X dX0_freeOne_22 (by decide) r3.1 o (fun o =>
z_iinc (L1 := [(2, .int (pI (w32 (x1.1 + (-1))))), (0, .int (pI p1)), (3, .int (pI x1.2))]) X 1 dX0_freeOne_27 rfl (by decide) rfl <|
z_iinc (L1 := [(3, .int (pI (w32 (x1.2 + 1)))), (2, .int (pI (w32 (x1.1 + (-1))))), (0, .int (pI p1))]) X 2 dX0_freeOne_30 rfl (by decide) rfl <|
z_goto (tgt := 4) X dX0_freeOne_33 (by decide) <|
z_sub (L1 := [(0, .int (pI p1)), (2, .int (pI (w32 (x1.1 + (-1))))), (3, .int (pI (w32 (x1.2 + 1))))]) X [2, 1, 0] rfl <|
ok_some o ⟨(w32_rg _), (w32_rg _)⟩) fun o =>
z_sub (L1 := [(3, .int (pI x1.2))]) X [2] rfl <|
ok_some o r3.2) fun o =>
z_goto (tgt := 30) X dX0_freeOne_18 (by decide) <|
z_iinc (L1 := [(3, .int (pI (w32 (x1.2 + 1)))), (0, .int (pI p1)), (2, .int (pI x1.1))]) X 2 dX0_freeOne_30 rfl (by decide) rfl <|
z_goto (tgt := 4) X dX0_freeOne_33 (by decide) <|
z_sub (L1 := [(0, .int (pI p1)), (2, .int (pI x1.1)), (3, .int (pI (w32 (x1.2 + 1))))]) X [1, 2, 0] rfl <|
ok_some o ⟨r3.1, (w32_rg _)⟩) ⟨hp2, kc_0⟩ : At E s0 0 [(0, .int (pI p1)), (1, .int (pI p2))] [])
set_option maxHeartbeats 4000000 in
set_option maxRecDepth 100000 in
theorem ct_X0_isSettled   (G : Gw) (s0 : St) (r : Int) (σ1 : St) (e : fX0_isSettled s0 = some (r, σ1)) : Ct yX0_isSettled cX0_isSettled 3 (some .boolean) 3 70 SX G [.ref (G.2.2.1 153)] s0 (QI SX G r r01 σ1) :=
  Ct.of (by decide +kernel) (Nat.le_of_ble_eq_true rfl) fun E X Y => by
    have o : Ok (fX0_isSettled s0) (fun x σ' => x = r ∧ σ' = σ1) := ⟨r, σ1, e, rfl, rfl⟩
    unfold fX0_isSettled at o
    exact (
z_iconst X dX0_isSettled_0 <|
z_istore_n (L1 := [(1, .int (pI 0)), (0, .ref (G.2.2.1 153))]) X dX0_isSettled_1 rfl (by decide) rfl <|
z_joix o (fun (y22 : Unit) s23 => True → At E s23 56 [] []) (fun y22 s23 o r24 =>
z_iconst X dX0_isSettled_56 <|
z_zret X Y dX0_isSettled_57 o kb_0 kb_0) fun o =>
z_sub (L1 := [(0, .ref (G.2.2.1 153)), (1, .int (pI 0))]) X [1, 0] rfl <|
z_iter (fun (x1 : Int) s2 => rg x1 → At E s2 2 [(0, .ref (G.2.2.1 153)), (1, .int (pI x1))] []) o (fun x1 s2 o r3 =>
z_iload_n X 1 dX0_isSettled_2 rfl <|
z_iconst X dX0_isSettled_3 <|
z_icmp_ge (tgt := 70) X dX0_isSettled_4 (by decide) r3 kc_5 o (fun o =>
z_iconst X dX0_isSettled_70 <|
z_zret X Y dX0_isSettled_71 (ok_ret (ok_some o)) kb_1 kb_1) fun o =>
z_iconst X dX0_isSettled_7 <|
z_istore_n (L1 := [(2, .int (pI 0)), (0, .ref (G.2.2.1 153)), (1, .int (pI x1))]) X dX0_isSettled_8 rfl (by decide) rfl <|
z_joix o (fun (y19 : Unit) s20 => True → At E s20 64 [(0, .ref (G.2.2.1 153)), (1, .int (pI x1))] []) (fun y19 s20 o r21 =>
z_iinc (L1 := [(1, .int (pI (w32 (x1 + 1)))), (0, .ref (G.2.2.1 153))]) X 1 dX0_isSettled_64 rfl (by decide) rfl <|
z_goto (tgt := 2) X dX0_isSettled_67 (by decide) <|
z_sub (L1 := [(0, .ref (G.2.2.1 153)), (1, .int (pI (w32 (x1 + 1))))]) X [1, 0] rfl <|
ok_some o (w32_rg _)) fun o =>
z_sub (L1 := [(0, .ref (G.2.2.1 153)), (1, .int (pI x1)), (2, .int (pI 0))]) X [1, 2, 0] rfl <|
z_iter (fun (x4 : Int) s5 => rg x4 → At E s5 9 [(0, .ref (G.2.2.1 153)), (1, .int (pI x1)), (2, .int (pI x4))] []) o (fun x4 s5 o r6 =>
z_iload_n X 2 dX0_isSettled_9 rfl <|
z_iconst X dX0_isSettled_10 <|
z_icmp_ge (tgt := 64) X dX0_isSettled_11 (by decide) r6 kc_5 o (fun o =>
z_sub (L1 := [(0, .ref (G.2.2.1 153)), (1, .int (pI x1))]) X [0, 1] rfl <|
ok_some o trivial) fun o =>
z_iload_n X 1 dX0_isSettled_14 rfl <|
z_iload_n X 2 dX0_isSettled_15 rfl <|
z_icmp_eq (tgt := 58) X dX0_isSettled_16 (by decide) r3 r6 o (fun o =>
z_iinc (L1 := [(2, .int (pI (w32 (x4 + 1)))), (0, .ref (G.2.2.1 153)), (1, .int (pI x1))]) X 2 dX0_isSettled_58 rfl (by decide) rfl <|
z_goto (tgt := 9) X dX0_isSettled_61 (by decide) <|
z_sub (L1 := [(0, .ref (G.2.2.1 153)), (1, .int (pI x1)), (2, .int (pI (w32 (x4 + 1))))]) X [1, 2, 0] rfl <|
ok_some o (w32_rg _)) fun o =>
z_aload_n X 0 dX0_isSettled_19 rfl <|
z_iconst X dX0_isSettled_20 <|
z_iload_n X 1 dX0_isSettled_21 rfl <|
z_aload_n X 0 dX0_isSettled_22 rfl <|
z_getR (q := 156) X dX0_isSettled_23 fl_X0_18 sx_153 rfl <|
z_iload_n X 2 dX0_isSettled_26 rfl <|
z_iald X dX0_isSettled_27 sx_156 r6 o fun v7 r8 o =>
z_aload_n X 0 dX0_isSettled_28 rfl <|
z_getR (q := 156) X dX0_isSettled_29 fl_X0_18 sx_153 rfl <|
z_iload_n X 1 dX0_isSettled_32 rfl <|
z_iald X dX0_isSettled_33 sx_156 r3 o fun v9 r10 o =>
z_callvI X dX0_isSettled_34 q_1228 wX0_prefers sx_153 rfl (by decide) [.int (pI 0), .int (pI x1), .int (pI v7), .int (pI v9)] [] rfl rfl (Nat.le_of_ble_eq_true rfl) (fun r σ1 e => ct_X0_prefers 0 x1 v7 v9 kc_0 r3 r8 r10 G _ r σ1 e) o fun r11 s12 h13 o =>
z_if_eq (tgt := 58) X dX0_isSettled_37 (by decide) (r01_rg h13) o (fun o =>
z_iinc (L1 := [(2, .int (pI (w32 (x4 + 1)))), (0, .ref (G.2.2.1 153)), (1, .int (pI x1))]) X 2 dX0_isSettled_58 rfl (by decide) rfl <|
z_goto (tgt := 9) X dX0_isSettled_61 (by decide) <|
z_sub (L1 := [(0, .ref (G.2.2.1 153)), (1, .int (pI x1)), (2, .int (pI (w32 (x4 + 1))))]) X [1, 2, 0] rfl <|
ok_some o (w32_rg _)) fun o =>
z_aload_n X 0 dX0_isSettled_40 rfl <|
z_iconst X dX0_isSettled_41 <|
z_aload_n X 0 dX0_isSettled_42 rfl <|
z_getR (q := 156) X dX0_isSettled_43 fl_X0_18 sx_153 rfl <|
z_iload_n X 2 dX0_isSettled_46 rfl <|
z_iald X dX0_isSettled_47 sx_156 r6 o fun v14 r15 o =>
z_iload_n X 1 dX0_isSettled_48 rfl <|
z_iload_n X 2 dX0_isSettled_49 rfl <|
z_callvI X dX0_isSettled_50 q_1228 wX0_prefers sx_153 rfl (by decide) [.int (pI 1), .int (pI v14), .int (pI x1), .int (pI x4)] [] rfl rfl (Nat.le_of_ble_eq_true rfl) (fun r σ1 e => ct_X0_prefers 1 v14 x1 x4 kc_1 r15 r3 r6 G _ r σ1 e) o fun r16 s17 h18 o =>
z_if_eq (tgt := 58) X dX0_isSettled_53 (by decide) (r01_rg h18) o (fun o =>
z_iinc (L1 := [(2, .int (pI (w32 (x4 + 1)))), (0, .ref (G.2.2.1 153)), (1, .int (pI x1))]) X 2 dX0_isSettled_58 rfl (by decide) rfl <|
z_goto (tgt := 9) X dX0_isSettled_61 (by decide) <|
z_sub (L1 := [(0, .ref (G.2.2.1 153)), (1, .int (pI x1)), (2, .int (pI (w32 (x4 + 1))))]) X [1, 2, 0] rfl <|
ok_some o (w32_rg _)) fun o =>
z_sub (L1 := []) X [] rfl <|
ok_some o trivial) kc_0) kc_0 : At E s0 0 [(0, .ref (G.2.2.1 153))] [])
set_option maxHeartbeats 4000000 in
set_option maxRecDepth 100000 in
theorem ct_X0_pairUp (p1 : Int) (hp1 : rg p1) (G : Gw) (s0 : St) (r : Int) (σ1 : St) (e : fX0_pairUp p1 s0 = some (r, σ1)) : Ct yX0_pairUp cX0_pairUp 5 none 1 23 SX G [.ref (G.2.2.1 153), .int (pI p1)] s0 (QV SX G σ1) :=
  Ct.of (by decide +kernel) (Nat.le_of_ble_eq_true rfl) fun E X Y => by
    have o : Ok (fX0_pairUp p1 s0) (fun x σ' => x = r ∧ σ' = σ1) := ⟨r, σ1, e, rfl, rfl⟩
    unfold fX0_pairUp at o
    exact (
z_iconst X dX0_pairUp_0 <|
z_istore_n (L1 := [(2, .int (pI 0)), (0, .ref (G.2.2.1 153)), (1, .int (pI p1))]) X dX0_pairUp_1 rfl (by decide) rfl <|
z_iload_n X 2 dX0_pairUp_2 rfl <|
z_istore_n (L1 := [(3, .int (pI p1)), (2, .int (pI 0)), (0, .ref (G.2.2.1 153)), (1, .int (pI p1))]) X dX0_pairUp_3 rfl (by decide) rfl <|
z_iconst X dX0_pairUp_4 <|
z_istore (L1 := [(4, .int (pI 0)), (3, .int (pI p1)), (2, .int (pI 0)), (0, .ref (G.2.2.1 153)), (1, .int (pI p1))]) X dX0_pairUp_5 (by decide) rfl <|
z_join o (fun (y16 : Unit) s17 => True → At E s17 55 [] []) (fun y16 s17 o r18 =>
z_vret (v := 0) X Y dX0_pairUp_55 o) fun o =>
z_sub (L1 := [(0, .ref (G.2.2.1 153)), (2, .int (pI 0)), (3, .int (pI p1)), (4, .int (pI 0))]) X [3, 2, 1, 0] rfl <|
z_iter (fun (x1 : Int × Int × Int) s2 => rg x1.1 ∧ rg x1.2.1 ∧ rg x1.2.2 → At E s2 7 [(0, .ref (G.2.2.1 153)), (2, .int (pI x1.1)), (3, .int (pI x1.2.1)), (4, .int (pI x1.2.2))] []) o (fun x1 s2 o r3 =>
z_iload X 3 dX0_pairUp_7 rfl <|
z_iconst X dX0_pairUp_9 <|
z_icmp_ge (tgt := 55) X dX0_pairUp_10 (by decide) r3.2.2 kc_5 o (fun o =>
z_sub (L1 := []) X [] rfl <|
ok_some o trivial) fun o =>
z_aload_n X 0 dX0_pairUp_13 rfl <|
z_getR (q := 156) X dX0_pairUp_14 fl_X0_18 sx_153 rfl <|
z_iload X 3 dX0_pairUp_17 rfl <|
z_iload_n X 1 dX0_pairUp_19 rfl <|
z_iload_n X 2 dX0_pairUp_20 rfl <|
z_iconst X dX0_pairUp_21 <|
z_iload X 3 dX0_pairUp_22 rfl <|
z_isub X dX0_pairUp_24 <|
z_irem X dX0_pairUp_25 r3.2.1 (w32_rg _) o fun z4 o =>
z_callsI X dX0_pairUp_26 q_1221 wX0_freeOne  (by decide) [.int (pI x1.1), .int (pI (irm x1.2.1 (w32 (5 - x1.2.2))))] [.int (pI x1.2.2), .ref (G.2.2.1 156)] rfl rfl (Nat.le_of_ble_eq_true rfl) (fun r σ1 e => ct_X0_freeOne x1.1 (irm x1.2.1 (w32 (5 - x1.2.2))) r3.1 (irm_rg (w32_rg _) z4) G _ r σ1 e) o fun r5 s6 h7 o =>
z_iast X dX0_pairUp_29 sx_156 r3.2.2 h7 o fun s8 o =>
z_iload_n X 1 dX0_pairUp_30 rfl <|
z_iconst X dX0_pairUp_31 <|
z_aload_n X 0 dX0_pairUp_32 rfl <|
z_getR (q := 156) X dX0_pairUp_33 fl_X0_18 sx_153 rfl <|
z_iload X 3 dX0_pairUp_36 rfl <|
z_iald X dX0_pairUp_38 sx_156 r3.2.2 o fun v9 r10 o =>
z_ishl X dX0_pairUp_39 <|
z_ior X dX0_pairUp_40 <|
z_istoreL_n (L1 := fun v11 => [(2, .int (pI v11)), (0, .ref (G.2.2.1 153)), (3, .int (pI x1.2.1)), (4, .int (pI x1.2.2))]) (R := rg) X dX0_pairUp_41 rfl (by decide) (fun _ => rfl) o (int_rg _) fun v11 r12 o =>
z_iload_n X 2 dX0_pairUp_42 rfl <|
z_iconst X dX0_pairUp_43 <|
z_iload X 3 dX0_pairUp_44 rfl <|
z_isub X dX0_pairUp_46 <|
z_idiv X dX0_pairUp_47 r3.2.1 (w32_rg _) o fun z13 o =>
z_istoreL_n (L1 := fun v14 => [(3, .int (pI v14)), (2, .int (pI v11)), (0, .ref (G.2.2.1 153)), (4, .int (pI x1.2.2))]) (R := rg) X dX0_pairUp_48 rfl (by decide) (fun _ => rfl) o (w32_rg _) fun v14 r15 o =>
z_iinc (L1 := [(4, .int (pI (w32 (x1.2.2 + 1)))), (3, .int (pI v14)), (2, .int (pI v11)), (0, .ref (G.2.2.1 153))]) X 3 dX0_pairUp_49 rfl (by decide) rfl <|
z_goto (tgt := 7) X dX0_pairUp_52 (by decide) <|
z_sub (L1 := [(0, .ref (G.2.2.1 153)), (2, .int (pI v11)), (3, .int (pI v14)), (4, .int (pI (w32 (x1.2.2 + 1))))]) X [3, 2, 1, 0] rfl <|
ok_some o ⟨r12, r15, (w32_rg _)⟩) ⟨kc_0, hp1, kc_0⟩ : At E s0 0 [(0, .ref (G.2.2.1 153)), (1, .int (pI p1))] [])
set_option maxHeartbeats 4000000 in
set_option maxRecDepth 100000 in
theorem ct_X0_partner (p1 : Int) (p2 : Int) (p3 : Int) (hp1 : rg p1) (hp2 : rg p2) (hp3 : rg p3) (G : Gw) (s0 : St) (r : Int) (σ1 : St) (e : fX0_partner p1 p2 p3 s0 = some (r, σ1)) : Ct yX0_partner cX0_partner 5 (some .int) 5 118 SX G [.ref (G.2.2.1 153), .int (pI p1), .int (pI p2), .int (pI p3)] s0 (QI SX G r rg σ1) :=
  Ct.of (by decide +kernel) (Nat.le_of_ble_eq_true rfl) fun E X Y => by
    have o : Ok (fX0_partner p1 p2 p3 s0) (fun x σ' => x = r ∧ σ' = σ1) := ⟨r, σ1, e, rfl, rfl⟩
    unfold fX0_partner at o
    exact (
z_aload_n X 0 dX0_partner_0 rfl <|
z_iload_n X 3 dX0_partner_1 rfl <|
z_callvV X dX0_partner_2 q_1241 wX0_engage sx_153 rfl (by decide) [.int (pI p3)] [] rfl rfl (Nat.le_of_ble_eq_true rfl) (fun r σ1 e => ct_X0_engage p3 hp3 G _ r σ1 e) o fun r1 s2 o =>
z_iconst X dX0_partner_5 <|
z_istore (L1 := [(4, .int (pI 0)), (0, .ref (G.2.2.1 153)), (1, .int (pI p1)), (2, .int (pI p2)), (3, .int (pI p3))]) X dX0_partner_6 (by decide) rfl <|
z_joix o (fun (y14 : Int) s15 => rg y14 → At E s15 30 [(4, .int (pI y14))] []) (fun y14 s15 o r16 =>
z_iload X 0 dX0_partner_30 rfl <|
z_iret X Y dX0_partner_32 o r16) fun o =>
z_sub (L1 := [(0, .ref (G.2.2.1 153)), (1, .int (pI p1)), (2, .int (pI p2)), (3, .int (pI p3)), (4, .int (pI 0))]) X [1, 2, 3, 4, 0] rfl <|
z_iter (fun (x4 : Int) s5 => rg x4 → At E s5 8 [(0, .ref (G.2.2.1 153)), (1, .int (pI p1)), (2, .int (pI p2)), (3, .int (pI p3)), (4, .int (pI x4))] []) o (fun x4 s5 o r6 =>
z_iload X 4 dX0_partner_8 rfl <|
z_iconst X dX0_partner_10 <|
z_icmp_ge (tgt := 58) X dX0_partner_11 (by decide) r6 kc_5 o (fun o =>
z_iconst X dX0_partner_58 <|
z_iret X Y dX0_partner_59 (ok_ret (ok_some o)) kc_m1) fun o =>
z_iload_n X 1 dX0_partner_14 rfl <|
z_iload_n X 3 dX0_partner_15 rfl <|
z_joix o (fun (y9 : Unit) s10 => True → At E s10 33 [(0, .ref (G.2.2.1 153)), (1, .int (pI p1)), (2, .int (pI p2)), (3, .int (pI p3)), (4, .int (pI x4))] []) (fun y9 s10 o r11 =>
z_iload_n X 1 dX0_partner_33 rfl <|
z_iload_n X 3 dX0_partner_34 rfl <|
z_icmp_eq (tgt := 52) X dX0_partner_35 (by decide) hp1 hp3 o (fun o =>
z_iinc (L1 := [(4, .int (pI (w32 (x4 + 1)))), (0, .ref (G.2.2.1 153)), (1, .int (pI p1)), (2, .int (pI p2)), (3, .int (pI p3))]) X 4 dX0_partner_52 rfl (by decide) rfl <|
z_goto (tgt := 8) X dX0_partner_55 (by decide) <|
z_sub (L1 := [(0, .ref (G.2.2.1 153)), (1, .int (pI p1)), (2, .int (pI p2)), (3, .int (pI p3)), (4, .int (pI (w32 (x4 + 1))))]) X [1, 2, 3, 4, 0] rfl <|
ok_some o (w32_rg _)) fun o =>
z_iload X 4 dX0_partner_38 rfl <|
z_iload_n X 2 dX0_partner_40 rfl <|
z_icmp_ne (tgt := 52) X dX0_partner_41 (by decide) r6 hp2 o (fun o =>
z_iinc (L1 := [(4, .int (pI (w32 (x4 + 1)))), (0, .ref (G.2.2.1 153)), (1, .int (pI p1)), (2, .int (pI p2)), (3, .int (pI p3))]) X 4 dX0_partner_52 rfl (by decide) rfl <|
z_goto (tgt := 8) X dX0_partner_55 (by decide) <|
z_sub (L1 := [(0, .ref (G.2.2.1 153)), (1, .int (pI p1)), (2, .int (pI p2)), (3, .int (pI p3)), (4, .int (pI (w32 (x4 + 1))))]) X [1, 2, 3, 4, 0] rfl <|
ok_some o (w32_rg _)) fun o =>
z_aload_n X 0 dX0_partner_44 rfl <|
z_getR (q := 155) X dX0_partner_45 fl_X0_15 sx_153 rfl <|
z_iload X 4 dX0_partner_48 rfl <|
z_iald X dX0_partner_50 sx_155 r6 o fun v12 r13 o =>
z_iret X Y dX0_partner_51 (ok_ret (ok_some o)) r13) fun o =>
z_icmp_ne (tgt := 33) X dX0_partner_16 (by decide) hp1 hp3 o (fun o =>
ok_some o trivial) fun o =>
z_aload_n X 0 dX0_partner_19 rfl <|
z_getR (q := 155) X dX0_partner_20 fl_X0_15 sx_153 rfl <|
z_iload X 4 dX0_partner_23 rfl <|
z_iald X dX0_partner_25 sx_155 r6 o fun v7 r8 o =>
z_iload_n X 2 dX0_partner_26 rfl <|
z_icmp_ne (tgt := 33) X dX0_partner_27 (by decide) r8 hp2 o (fun o =>
ok_some o trivial) fun o =>
z_sub (L1 := [(4, .int (pI x4))]) X [4] rfl <|
ok_some o r6) kc_0 : At E s0 0 [(0, .ref (G.2.2.1 153)), (1, .int (pI p1)), (2, .int (pI p2)), (3, .int (pI p3))] [])
set_option maxHeartbeats 4000000 in
set_option maxRecDepth 100000 in
theorem ct_X0_settled   (G : Gw) (s0 : St) (r : Int) (σ1 : St) (e : fX0_settled s0 = some (r, σ1)) : Ct yX0_settled cX0_settled 3 (some .int) 4 92 SX G [.ref (G.2.2.1 153)] s0 (QI SX G r rg σ1) :=
  Ct.of (by decide +kernel) (Nat.le_of_ble_eq_true rfl) fun E X Y => by
    have o : Ok (fX0_settled s0) (fun x σ' => x = r ∧ σ' = σ1) := ⟨r, σ1, e, rfl, rfl⟩
    unfold fX0_settled at o
    exact (
z_iconst X dX0_settled_0 <|
z_istore_n (L1 := [(1, .int (pI 0)), (0, .ref (G.2.2.1 153))]) X dX0_settled_1 rfl (by decide) rfl <|
z_iconst X dX0_settled_2 <|
z_istore_n (L1 := [(2, .int (pI 0)), (1, .int (pI 0)), (0, .ref (G.2.2.1 153))]) X dX0_settled_3 rfl (by decide) rfl <|
z_join o (fun (y10 : Int) s11 => rg y10 → At E s11 31 [(1, .int (pI y10))] []) (fun y10 s11 o r12 =>
z_iload_n X 0 dX0_settled_31 rfl <|
z_iret X Y dX0_settled_32 o r12) fun o =>
z_sub (L1 := [(0, .ref (G.2.2.1 153)), (1, .int (pI 0)), (2, .int (pI 0))]) X [2, 1, 0] rfl <|
z_iter (fun (x1 : Int × Int) s2 => rg x1.1 ∧ rg x1.2 → At E s2 4 [(0, .ref (G.2.2.1 153)), (1, .int (pI x1.1)), (2, .int (pI x1.2))] []) o (fun x1 s2 o r3 =>
z_iload_n X 2 dX0_settled_4 rfl <|
z_bipush X dX0_settled_5 bi_120 <|
z_icmp_ge (tgt := 31) X dX0_settled_7 (by decide) r3.2 kc_120 o (fun o =>
z_sub (L1 := [(1, .int (pI x1.1))]) X [1] rfl <|
ok_some o r3.1) fun o =>
z_aload_n X 0 dX0_settled_10 rfl <|
z_iload_n X 2 dX0_settled_11 rfl <|
z_callvV X dX0_settled_12 q_1217 wX0_pairUp sx_153 rfl (by decide) [.int (pI x1.2)] [] rfl rfl (Nat.le_of_ble_eq_true rfl) (fun r σ1 e => ct_X0_pairUp x1.2 r3.2 G _ r σ1 e) o fun r4 s5 o =>
z_aload_n X 0 dX0_settled_15 rfl <|
z_callvI X dX0_settled_16 q_1224 wX0_isSettled sx_153 rfl (by decide) [] [] rfl rfl (Nat.le_of_ble_eq_true rfl) (fun r σ1 e => ct_X0_isSettled G _ r σ1 e) o fun r7 s8 h9 o =>
z_if_eq (tgt := 25) X dX0_settled_19 (by decide) (r01_rg h9) o (fun o =>
z_iinc (L1 := [(2, .int (pI (w32 (x1.2 + 1)))), (0, .ref (G.2.2.1 153)), (1, .int (pI x1.1))]) X 2 dX0_settled_25 rfl (by decide) rfl <|
z_goto (tgt := 4) X dX0_settled_28 (by decide) <|
z_sub (L1 := [(0, .ref (G.2.2.1 153)), (1, .int (pI x1.1)), (2, .int (pI (w32 (x1.2 + 1))))]) X [1, 2, 0] rfl <|
ok_some o ⟨r3.1, (w32_rg _)⟩) fun o =>
z_iinc (L1 := [(1, .int (pI (w32 (x1.1 + 1)))), (0, .ref (G.2.2.1 153)), (2, .int (pI x1.2))]) X 1 dX0_settled_22 rfl (by decide) rfl <|
z_iinc (L1 := [(2, .int (pI (w32 (x1.2 + 1)))), (1, .int (pI (w32 (x1.1 + 1)))), (0, .ref (G.2.2.1 153))]) X 2 dX0_settled_25 rfl (by decide) rfl <|
z_goto (tgt := 4) X dX0_settled_28 (by decide) <|
z_sub (L1 := [(0, .ref (G.2.2.1 153)), (1, .int (pI (w32 (x1.1 + 1)))), (2, .int (pI (w32 (x1.2 + 1))))]) X [2, 1, 0] rfl <|
ok_some o ⟨(w32_rg _), (w32_rg _)⟩) ⟨kc_0, kc_0⟩ : At E s0 0 [(0, .ref (G.2.2.1 153))] [])
set_option maxHeartbeats 4000000 in
set_option maxRecDepth 100000 in
theorem ct_X10_forget   (G : Gw) (s0 : St) (r : Int) (σ1 : St) (e : fX10_forget s0 = some (r, σ1)) : Ct yX10_forget cX10_forget 1 none 0 0 SX G [.ref (G.2.2.1 52)] s0 (QV SX G σ1) :=
  Ct.of (by decide +kernel) (Nat.le_of_ble_eq_true rfl) fun E X Y => by
    have o : Ok (fX10_forget s0) (fun x σ' => x = r ∧ σ' = σ1) := ⟨r, σ1, e, rfl, rfl⟩
    unfold fX10_forget at o
    exact (
z_aload_n X 0 dX10_forget_0 rfl <|
z_iconst X dX10_forget_1 <|
z_putI X dX10_forget_2 fl_X10_21 sx_52 ft_X10_2 rfl kc_0 o fun s1 o =>
z_vret (v := 0) X Y dX10_forget_5 o : At E s0 0 [(0, .ref (G.2.2.1 52))] [])
set_option maxHeartbeats 4000000 in
set_option maxRecDepth 100000 in
theorem ct_X2_copyFrom (h : Nat) (h2 : Nat) (hH : isH SX h) (hH2 : isH SX h2) (G : Gw) (s0 : St) (r : Int) (σ1 : St) (e : fX2_copyFrom h h2 s0 = some (r, σ1)) : Ct yX2_copyFrom cX2_copyFrom 2 none 1 40 SX G [.ref (G.2.2.1 h), .ref (G.2.2.1 h2)] s0 (QV SX G σ1) :=
  Ct.of (by decide +kernel) (Nat.le_of_ble_eq_true rfl) fun E X Y => by
    have o : Ok (fX2_copyFrom h h2 s0) (fun x σ' => x = r ∧ σ' = σ1) := ⟨r, σ1, e, rfl, rfl⟩
    unfold fX2_copyFrom at o
    exact (
z_aload_n X 0 dX2_copyFrom_0 rfl <|
z_aload_n X 1 dX2_copyFrom_1 rfl <|
z_getI X dX2_copyFrom_2 fl_X2_9 hH2.1 rfl o fun v1 r2 o =>
z_putI X dX2_copyFrom_5 fl_X2_9 hH.1 ft_X2_0 rfl r2 o fun s3 o =>
z_aload_n X 0 dX2_copyFrom_8 rfl <|
z_aload_n X 1 dX2_copyFrom_9 rfl <|
z_getI X dX2_copyFrom_10 fl_X2_15 hH2.1 rfl o fun v4 r5 o =>
z_putI X dX2_copyFrom_13 fl_X2_15 hH.1 ft_X2_1 rfl r5 o fun s6 o =>
z_aload_n X 0 dX2_copyFrom_16 rfl <|
z_aload_n X 1 dX2_copyFrom_17 rfl <|
z_getI X dX2_copyFrom_18 fl_X2_18 hH2.1 rfl o fun v7 r8 o =>
z_putI X dX2_copyFrom_21 fl_X2_18 hH.1 ft_X2_2 rfl r8 o fun s9 o =>
z_aload_n X 0 dX2_copyFrom_24 rfl <|
z_aload_n X 1 dX2_copyFrom_25 rfl <|
z_getI X dX2_copyFrom_26 fl_X2_21 hH2.1 rfl o fun v10 r11 o =>
z_putI X dX2_copyFrom_29 fl_X2_21 hH.1 ft_X2_3 rfl r11 o fun s12 o =>
z_aload_n X 0 dX2_copyFrom_32 rfl <|
z_aload_n X 1 dX2_copyFrom_33 rfl <|
z_getI X dX2_copyFrom_34 fl_X2_24 hH2.1 rfl o fun v13 r14 o =>
z_putI X dX2_copyFrom_37 fl_X2_24 hH.1 ft_X2_4 rfl r14 o fun s15 o =>
z_aload_n X 0 dX2_copyFrom_40 rfl <|
z_aload_n X 1 dX2_copyFrom_41 rfl <|
z_getI X dX2_copyFrom_42 fl_X2_27 hH2.1 rfl o fun v16 r17 o =>
z_putI X dX2_copyFrom_45 fl_X2_27 hH.1 ft_X2_5 rfl r17 o fun s18 o =>
z_aload_n X 1 dX2_copyFrom_48 rfl <|
z_getR (q := (h2 + 1)) X dX2_copyFrom_49 fl_X2_30 hH2.1 rfl <|
z_iconst X dX2_copyFrom_52 <|
z_aload_n X 0 dX2_copyFrom_53 rfl <|
z_getR (q := (h + 1)) X dX2_copyFrom_54 fl_X2_30 hH.1 rfl <|
z_iconst X dX2_copyFrom_57 <|
z_bipush X dX2_copyFrom_58 bi_12 <|
z_copy X dX2_copyFrom_60 q_741 q_743 q_742 q_172 hH2.2.1 hH.2.1 kc_0 kc_0 kc_12 (by decide) (Nat.le_of_ble_eq_true rfl) o fun s19 o =>
z_aload_n X 1 dX2_copyFrom_63 rfl <|
z_getR (q := (h2 + 2)) X dX2_copyFrom_64 fl_X2_34 hH2.1 rfl <|
z_iconst X dX2_copyFrom_67 <|
z_aload_n X 0 dX2_copyFrom_68 rfl <|
z_getR (q := (h + 2)) X dX2_copyFrom_69 fl_X2_34 hH.1 rfl <|
z_iconst X dX2_copyFrom_72 <|
z_bipush X dX2_copyFrom_73 bi_12 <|
z_copy X dX2_copyFrom_75 q_741 q_743 q_742 q_172 hH2.2.2.1 hH.2.2.1 kc_0 kc_0 kc_12 (by decide) (Nat.le_of_ble_eq_true rfl) o fun s20 o =>
z_aload_n X 1 dX2_copyFrom_78 rfl <|
z_getR (q := (h2 + 3)) X dX2_copyFrom_79 fl_X2_37 hH2.1 rfl <|
z_iconst X dX2_copyFrom_82 <|
z_aload_n X 0 dX2_copyFrom_83 rfl <|
z_getR (q := (h + 3)) X dX2_copyFrom_84 fl_X2_37 hH.1 rfl <|
z_iconst X dX2_copyFrom_87 <|
z_bipush X dX2_copyFrom_88 bi_12 <|
z_copy X dX2_copyFrom_90 q_741 q_743 q_742 q_172 hH2.2.2.2.1 hH.2.2.2.1 kc_0 kc_0 kc_12 (by decide) (Nat.le_of_ble_eq_true rfl) o fun s21 o =>
z_aload_n X 1 dX2_copyFrom_93 rfl <|
z_getR (q := (h2 + 4)) X dX2_copyFrom_94 fl_X2_40 hH2.1 rfl <|
z_iconst X dX2_copyFrom_97 <|
z_aload_n X 0 dX2_copyFrom_98 rfl <|
z_getR (q := (h + 4)) X dX2_copyFrom_99 fl_X2_40 hH.1 rfl <|
z_iconst X dX2_copyFrom_102 <|
z_bipush X dX2_copyFrom_103 bi_12 <|
z_copy X dX2_copyFrom_105 q_741 q_743 q_742 q_172 hH2.2.2.2.2.1 hH.2.2.2.2.1 kc_0 kc_0 kc_12 (by decide) (Nat.le_of_ble_eq_true rfl) o fun s22 o =>
z_aload_n X 1 dX2_copyFrom_108 rfl <|
z_getR (q := (h2 + 5)) X dX2_copyFrom_109 fl_X2_43 hH2.1 rfl <|
z_iconst X dX2_copyFrom_112 <|
z_aload_n X 0 dX2_copyFrom_113 rfl <|
z_getR (q := (h + 5)) X dX2_copyFrom_114 fl_X2_43 hH.1 rfl <|
z_iconst X dX2_copyFrom_117 <|
z_bipush X dX2_copyFrom_118 bi_12 <|
z_copy X dX2_copyFrom_120 q_741 q_743 q_742 q_172 hH2.2.2.2.2.2.1 hH.2.2.2.2.2.1 kc_0 kc_0 kc_12 (by decide) (Nat.le_of_ble_eq_true rfl) o fun s23 o =>
z_aload_n X 1 dX2_copyFrom_123 rfl <|
z_getR (q := (h2 + 6)) X dX2_copyFrom_124 fl_X2_46 hH2.1 rfl <|
z_iconst X dX2_copyFrom_127 <|
z_aload_n X 0 dX2_copyFrom_128 rfl <|
z_getR (q := (h + 6)) X dX2_copyFrom_129 fl_X2_46 hH.1 rfl <|
z_iconst X dX2_copyFrom_132 <|
z_bipush X dX2_copyFrom_133 bi_20 <|
z_copy X dX2_copyFrom_135 q_741 q_743 q_742 q_172 hH2.2.2.2.2.2.2.1 hH.2.2.2.2.2.2.1 kc_0 kc_0 kc_20 (by decide) (Nat.le_of_ble_eq_true rfl) o fun s24 o =>
z_aload_n X 1 dX2_copyFrom_138 rfl <|
z_getR (q := (h2 + 7)) X dX2_copyFrom_139 fl_X2_49 hH2.1 rfl <|
z_iconst X dX2_copyFrom_142 <|
z_aload_n X 0 dX2_copyFrom_143 rfl <|
z_getR (q := (h + 7)) X dX2_copyFrom_144 fl_X2_49 hH.1 rfl <|
z_iconst X dX2_copyFrom_147 <|
z_bipush X dX2_copyFrom_148 bi_20 <|
z_copy X dX2_copyFrom_150 q_741 q_743 q_742 q_172 hH2.2.2.2.2.2.2.2.1 hH.2.2.2.2.2.2.2.1 kc_0 kc_0 kc_20 (by decide) (Nat.le_of_ble_eq_true rfl) o fun s25 o =>
z_aload_n X 1 dX2_copyFrom_153 rfl <|
z_getR (q := (h2 + 8)) X dX2_copyFrom_154 fl_X2_52 hH2.1 rfl <|
z_iconst X dX2_copyFrom_157 <|
z_aload_n X 0 dX2_copyFrom_158 rfl <|
z_getR (q := (h + 8)) X dX2_copyFrom_159 fl_X2_52 hH.1 rfl <|
z_iconst X dX2_copyFrom_162 <|
z_bipush X dX2_copyFrom_163 bi_20 <|
z_copy X dX2_copyFrom_165 q_741 q_743 q_742 q_172 hH2.2.2.2.2.2.2.2.2.1 hH.2.2.2.2.2.2.2.2.1 kc_0 kc_0 kc_20 (by decide) (Nat.le_of_ble_eq_true rfl) o fun s26 o =>
z_aload_n X 1 dX2_copyFrom_168 rfl <|
z_getR (q := (h2 + 9)) X dX2_copyFrom_169 fl_X2_55 hH2.1 rfl <|
z_iconst X dX2_copyFrom_172 <|
z_aload_n X 0 dX2_copyFrom_173 rfl <|
z_getR (q := (h + 9)) X dX2_copyFrom_174 fl_X2_55 hH.1 rfl <|
z_iconst X dX2_copyFrom_177 <|
z_bipush X dX2_copyFrom_178 bi_20 <|
z_copy X dX2_copyFrom_180 q_741 q_743 q_742 q_172 hH2.2.2.2.2.2.2.2.2.2.1 hH.2.2.2.2.2.2.2.2.2.1 kc_0 kc_0 kc_20 (by decide) (Nat.le_of_ble_eq_true rfl) o fun s27 o =>
z_aload_n X 1 dX2_copyFrom_183 rfl <|
z_getR (q := (h2 + 10)) X dX2_copyFrom_184 fl_X2_58 hH2.1 rfl <|
z_iconst X dX2_copyFrom_187 <|
z_aload_n X 0 dX2_copyFrom_188 rfl <|
z_getR (q := (h + 10)) X dX2_copyFrom_189 fl_X2_58 hH.1 rfl <|
z_iconst X dX2_copyFrom_192 <|
z_bipush X dX2_copyFrom_193 bi_20 <|
z_copy X dX2_copyFrom_195 q_741 q_743 q_742 q_172 hH2.2.2.2.2.2.2.2.2.2.2.1 hH.2.2.2.2.2.2.2.2.2.2.1 kc_0 kc_0 kc_20 (by decide) (Nat.le_of_ble_eq_true rfl) o fun s28 o =>
z_aload_n X 1 dX2_copyFrom_198 rfl <|
z_getR (q := (h2 + 11)) X dX2_copyFrom_199 fl_X2_61 hH2.1 rfl <|
z_iconst X dX2_copyFrom_202 <|
z_aload_n X 0 dX2_copyFrom_203 rfl <|
z_getR (q := (h + 11)) X dX2_copyFrom_204 fl_X2_61 hH.1 rfl <|
z_iconst X dX2_copyFrom_207 <|
z_bipush X dX2_copyFrom_208 bi_20 <|
z_copy X dX2_copyFrom_210 q_741 q_743 q_742 q_172 hH2.2.2.2.2.2.2.2.2.2.2.2.1 hH.2.2.2.2.2.2.2.2.2.2.2.1 kc_0 kc_0 kc_20 (by decide) (Nat.le_of_ble_eq_true rfl) o fun s29 o =>
z_aload_n X 1 dX2_copyFrom_213 rfl <|
z_getR (q := (h2 + 12)) X dX2_copyFrom_214 fl_X2_64 hH2.1 rfl <|
z_iconst X dX2_copyFrom_217 <|
z_aload_n X 0 dX2_copyFrom_218 rfl <|
z_getR (q := (h + 12)) X dX2_copyFrom_219 fl_X2_64 hH.1 rfl <|
z_iconst X dX2_copyFrom_222 <|
z_bipush X dX2_copyFrom_223 bi_20 <|
z_copy X dX2_copyFrom_225 q_741 q_743 q_742 q_172 hH2.2.2.2.2.2.2.2.2.2.2.2.2.1 hH.2.2.2.2.2.2.2.2.2.2.2.2.1 kc_0 kc_0 kc_20 (by decide) (Nat.le_of_ble_eq_true rfl) o fun s30 o =>
z_aload_n X 1 dX2_copyFrom_228 rfl <|
z_getR (q := (h2 + 13)) X dX2_copyFrom_229 fl_X2_67 hH2.1 rfl <|
z_iconst X dX2_copyFrom_232 <|
z_aload_n X 0 dX2_copyFrom_233 rfl <|
z_getR (q := (h + 13)) X dX2_copyFrom_234 fl_X2_67 hH.1 rfl <|
z_iconst X dX2_copyFrom_237 <|
z_bipush X dX2_copyFrom_238 bi_20 <|
z_copy X dX2_copyFrom_240 q_741 q_743 q_742 q_172 hH2.2.2.2.2.2.2.2.2.2.2.2.2.2 hH.2.2.2.2.2.2.2.2.2.2.2.2.2 kc_0 kc_0 kc_20 (by decide) (Nat.le_of_ble_eq_true rfl) o fun s31 o =>
z_vret (v := 0) X Y dX2_copyFrom_243 o : At E s0 0 [(0, .ref (G.2.2.1 h)), (1, .ref (G.2.2.1 h2))] [])
set_option maxHeartbeats 4000000 in
set_option maxRecDepth 100000 in
theorem ct_X10_goBack   (G : Gw) (s0 : St) (r : Int) (σ1 : St) (e : fX10_goBack s0 = some (r, σ1)) : Ct yX10_goBack cX10_goBack 2 (some .int) 2 61 SX G [.ref (G.2.2.1 52), .ref (G.2.2.1 3)] s0 (QI SX G r rg σ1) :=
  Ct.of (by decide +kernel) (Nat.le_of_ble_eq_true rfl) fun E X Y => by
    have o : Ok (fX10_goBack s0) (fun x σ' => x = r ∧ σ' = σ1) := ⟨r, σ1, e, rfl, rfl⟩
    unfold fX10_goBack at o
    exact (
z_aload_n X 0 dX10_goBack_0 rfl <|
z_getI X dX10_goBack_1 fl_X10_21 sx_52 rfl o fun v1 r2 o =>
z_if_ne (tgt := 9) X dX10_goBack_4 (by decide) r2 o (fun o =>
z_aload_n X 0 dX10_goBack_9 rfl <|
z_dup X dX10_goBack_10 rfl <|
z_getI X dX10_goBack_11 fl_X10_21 sx_52 rfl o fun v3 r4 o =>
z_iconst X dX10_goBack_14 <|
z_isub X dX10_goBack_15 <|
z_putI X dX10_goBack_16 fl_X10_21 sx_52 ft_X10_2 rfl (w32_rg _) o fun s5 o =>
z_aload_n X 0 dX10_goBack_19 rfl <|
z_aload_n X 0 dX10_goBack_20 rfl <|
z_getI X dX10_goBack_21 fl_X10_25 sx_52 rfl o fun v6 r7 o =>
z_bipush X dX10_goBack_24 bi_6 <|
z_iadd X dX10_goBack_26 <|
z_iconst X dX10_goBack_27 <|
z_isub X dX10_goBack_28 <|
z_bipush X dX10_goBack_29 bi_6 <|
z_irem X dX10_goBack_31 (w32_rg _) kc_6 o fun z8 o =>
z_putI X dX10_goBack_32 fl_X10_25 sx_52 ft_X10_3 rfl (irm_rg kc_6 z8) o fun s9 o =>
z_aload_n X 1 dX10_goBack_35 rfl <|
z_aload_n X 0 dX10_goBack_36 rfl <|
z_getR (q := 53) X dX10_goBack_37 fl_X10_13 sx_52 rfl <|
z_aload_n X 0 dX10_goBack_40 rfl <|
z_getI X dX10_goBack_41 fl_X10_25 sx_52 rfl o fun v10 r11 o =>
z_aald X dX10_goBack_44 sx_53 r11 o fun h12 hq13 o =>
z_callvV X dX10_goBack_45 q_737 wX2_copyFrom sx_3 rfl (by decide) [.ref (G.2.2.1 h12)] [] rfl rfl (Nat.le_of_ble_eq_true rfl) (fun r σ1 e => ct_X2_copyFrom 3 h12 ish_3 (isH_kept hq13) G _ r σ1 e) o fun r14 s15 o =>
z_aload_n X 0 dX10_goBack_48 rfl <|
z_getR (q := 54) X dX10_goBack_49 fl_X10_17 sx_52 rfl <|
z_aload_n X 0 dX10_goBack_52 rfl <|
z_getI X dX10_goBack_53 fl_X10_25 sx_52 rfl o fun v17 r18 o =>
z_iald X dX10_goBack_56 sx_54 r18 o fun v19 r20 o =>
z_iret X Y dX10_goBack_57 o r20) fun o =>
z_iconst X dX10_goBack_7 <|
z_iret X Y dX10_goBack_8 o kc_m1 : At E s0 0 [(0, .ref (G.2.2.1 52)), (1, .ref (G.2.2.1 3))] [])
set_option maxHeartbeats 4000000 in
set_option maxRecDepth 100000 in
theorem ct_X10_keep (p2 : Int) (hp2 : rg p2) (G : Gw) (s0 : St) (r : Int) (σ1 : St) (e : fX10_keep p2 s0 = some (r, σ1)) : Ct yX10_keep cX10_keep 3 none 2 61 SX G [.ref (G.2.2.1 52), .ref (G.2.2.1 3), .int (pI p2)] s0 (QV SX G σ1) :=
  Ct.of (by decide +kernel) (Nat.le_of_ble_eq_true rfl) fun E X Y => by
    have o : Ok (fX10_keep p2 s0) (fun x σ' => x = r ∧ σ' = σ1) := ⟨r, σ1, e, rfl, rfl⟩
    unfold fX10_keep at o
    exact (
z_aload_n X 0 dX10_keep_0 rfl <|
z_getR (q := 53) X dX10_keep_1 fl_X10_13 sx_52 rfl <|
z_aload_n X 0 dX10_keep_4 rfl <|
z_getI X dX10_keep_5 fl_X10_25 sx_52 rfl o fun v1 r2 o =>
z_aald X dX10_keep_8 sx_53 r2 o fun h3 hq4 o =>
z_aload_n X 1 dX10_keep_9 rfl <|
z_callvV X dX10_keep_10 q_737 wX2_copyFrom (isH_kept hq4).1 rfl (by decide) [.ref (G.2.2.1 3)] [] rfl rfl (Nat.le_of_ble_eq_true rfl) (fun r σ1 e => ct_X2_copyFrom h3 3 (isH_kept hq4) ish_3 G _ r σ1 e) o fun r5 s6 o =>
z_aload_n X 0 dX10_keep_13 rfl <|
z_getR (q := 54) X dX10_keep_14 fl_X10_17 sx_52 rfl <|
z_aload_n X 0 dX10_keep_17 rfl <|
z_getI X dX10_keep_18 fl_X10_25 sx_52 rfl o fun v8 r9 o =>
z_iload_n X 2 dX10_keep_21 rfl <|
z_iast X dX10_keep_22 sx_54 r9 hp2 o fun s10 o =>
z_aload_n X 0 dX10_keep_23 rfl <|
z_aload_n X 0 dX10_keep_24 rfl <|
z_getI X dX10_keep_25 fl_X10_25 sx_52 rfl o fun v11 r12 o =>
z_iconst X dX10_keep_28 <|
z_iadd X dX10_keep_29 <|
z_bipush X dX10_keep_30 bi_6 <|
z_irem X dX10_keep_32 (w32_rg _) kc_6 o fun z13 o =>
z_putI X dX10_keep_33 fl_X10_25 sx_52 ft_X10_3 rfl (irm_rg kc_6 z13) o fun s14 o =>
z_aload_n X 0 dX10_keep_36 rfl <|
z_getI X dX10_keep_37 fl_X10_21 sx_52 rfl o fun v15 r16 o =>
z_bipush X dX10_keep_40 bi_6 <|
z_icmp_ge (tgt := 55) X dX10_keep_42 (by decide) r16 kc_6 o (fun o =>
z_vret (v := 0) X Y dX10_keep_55 o) fun o =>
z_aload_n X 0 dX10_keep_45 rfl <|
z_dup X dX10_keep_46 rfl <|
z_getI X dX10_keep_47 fl_X10_21 sx_52 rfl o fun v17 r18 o =>
z_iconst X dX10_keep_50 <|
z_iadd X dX10_keep_51 <|
z_putI X dX10_keep_52 fl_X10_21 sx_52 ft_X10_2 rfl (w32_rg _) o fun s19 o =>
z_vret (v := 0) X Y dX10_keep_55 o : At E s0 0 [(0, .ref (G.2.2.1 52)), (1, .ref (G.2.2.1 3)), (2, .int (pI p2))] [])
set_option maxHeartbeats 4000000 in
set_option maxRecDepth 100000 in
theorem ct_X10_size   (G : Gw) (s0 : St) (r : Int) (σ1 : St) (e : fX10_size s0 = some (r, σ1)) : Ct yX10_size cX10_size 1 (some .int) 0 0 SX G [.ref (G.2.2.1 52)] s0 (QI SX G r rg σ1) :=
  Ct.of (by decide +kernel) (Nat.le_of_ble_eq_true rfl) fun E X Y => by
    have o : Ok (fX10_size s0) (fun x σ' => x = r ∧ σ' = σ1) := ⟨r, σ1, e, rfl, rfl⟩
    unfold fX10_size at o
    exact (
z_aload_n X 0 dX10_size_0 rfl <|
z_getI X dX10_size_1 fl_X10_21 sx_52 rfl o fun v1 r2 o =>
z_iret X Y dX10_size_4 o r2 : At E s0 0 [(0, .ref (G.2.2.1 52))] [])
set_option maxHeartbeats 4000000 in
set_option maxRecDepth 100000 in
theorem ct_X2_hasPorch (p1 : Int) (hp1 : rg p1) (G : Gw) (s0 : St) (r : Int) (σ1 : St) (e : fX2_hasPorch p1 s0 = some (r, σ1)) : Ct yX2_hasPorch cX2_hasPorch 2 (some .boolean) 0 0 SX G [.ref (G.2.2.1 3), .int (pI p1)] s0 (QI SX G r r01 σ1) :=
  Ct.of (by decide +kernel) (Nat.le_of_ble_eq_true rfl) fun E X Y => by
    have o : Ok (fX2_hasPorch p1 s0) (fun x σ' => x = r ∧ σ' = σ1) := ⟨r, σ1, e, rfl, rfl⟩
    unfold fX2_hasPorch at o
    exact (
z_iload_n X 1 dX2_hasPorch_0 rfl <|
z_if_lt (tgt := 16) X dX2_hasPorch_1 (by decide) hp1 o (fun o =>
z_iconst X dX2_hasPorch_16 <|
z_zret X Y dX2_hasPorch_17 o kb_0 kb_0) fun o =>
z_iload_n X 1 dX2_hasPorch_4 rfl <|
z_aload_n X 0 dX2_hasPorch_5 rfl <|
z_getI X dX2_hasPorch_6 fl_X2_24 sx_3 rfl o fun v1 r2 o =>
z_icmp_ge (tgt := 16) X dX2_hasPorch_9 (by decide) hp1 r2 o (fun o =>
z_iconst X dX2_hasPorch_16 <|
z_zret X Y dX2_hasPorch_17 o kb_0 kb_0) fun o =>
z_iconst X dX2_hasPorch_12 <|
z_goto (tgt := 17) X dX2_hasPorch_13 (by decide) <|
z_zret X Y dX2_hasPorch_17 o kb_1 kb_1 : At E s0 0 [(0, .ref (G.2.2.1 3)), (1, .int (pI p1))] [])
set_option maxHeartbeats 4000000 in
set_option maxRecDepth 100000 in
theorem ct_X6_size (S : List Kd) (ro rc rn : Nat) (hR : isR S ro rc rn) (G : Gw) (s0 : St) (r : Int) (σ1 : St) (e : fX6_size ro rc rn s0 = some (r, σ1)) : Ct yX6_size cX6_size 1 (some .int) 0 0 S G [.ref (G.2.2.1 ro)] s0 (QI S G r rg σ1) :=
  Ct.of (by decide +kernel) (Nat.le_of_ble_eq_true rfl) fun E X Y => by
    have o : Ok (fX6_size ro rc rn s0) (fun x σ' => x = r ∧ σ' = σ1) := ⟨r, σ1, e, rfl, rfl⟩
    unfold fX6_size at o
    exact (
z_aload_n X 0 dX6_size_0 rfl <|
z_getI X dX6_size_1 fl_X6_19 hR.1 rfl o fun v1 r2 o =>
z_iret X Y dX6_size_4 o r2 : At E s0 0 [(0, .ref (G.2.2.1 ro))] [])
set_option maxHeartbeats 4000000 in
set_option maxRecDepth 100000 in
theorem ct_X11_fillByHand (p1 : Int) (p2 : Int) (hp1 : rg p1) (hp2 : rg p2) (G : Gw) (s0 : St) (r : Int) (σ1 : St) (e : fX11_fillByHand p1 p2 s0 = some (r, σ1)) : Ct yX11_fillByHand cX11_fillByHand 3 (some .boolean) 3 83 SX G [.ref (G.2.2.1 0), .int (pI p1), .int (pI p2)] s0 (QI SX G r r01 σ1) :=
  Ct.of (by decide +kernel) (Nat.le_of_ble_eq_true rfl) fun E X Y => by
    have o : Ok (fX11_fillByHand p1 p2 s0) (fun x σ' => x = r ∧ σ' = σ1) := ⟨r, σ1, e, rfl, rfl⟩
    unfold fX11_fillByHand at o
    exact (
z_aload_n X 0 dX11_fillByHand_0 rfl <|
z_getR (q := 3) X dX11_fillByHand_1 fl_X11_19 sx_0 rfl <|
z_iload_n X 1 dX11_fillByHand_4 rfl <|
z_callvI X dX11_fillByHand_5 q_704 wX2_hasPorch sx_3 rfl (by decide) [.int (pI p1)] [] rfl rfl (Nat.le_of_ble_eq_true rfl) (fun r σ1 e => ct_X2_hasPorch p1 hp1 G _ r σ1 e) o fun r1 s2 h3 o =>
z_if_eq (tgt := 21) X dX11_fillByHand_8 (by decide) (r01_rg h3) o (fun o =>
z_iconst X dX11_fillByHand_21 <|
z_zret X Y dX11_fillByHand_22 o kb_0 kb_0) fun o =>
z_iload_n X 2 dX11_fillByHand_11 rfl <|
z_iconst X dX11_fillByHand_12 <|
z_bipush X dX11_fillByHand_13 bi_99 <|
z_callsI X dX11_fillByHand_15 q_681 wX11_within  (by decide) [.int (pI p2), .int (pI 0), .int (pI 99)] [] rfl rfl (Nat.le_of_ble_eq_true rfl) (fun r σ1 e => ct_X11_within p2 0 99 hp2 kc_0 kc_99 G _ r σ1 e) o fun r4 s5 h6 o =>
z_if_ne (tgt := 23) X dX11_fillByHand_18 (by decide) (r01_rg h6) o (fun o =>
z_aload_n X 0 dX11_fillByHand_23 rfl <|
z_getR (q := 52) X dX11_fillByHand_24 fl_X11_42 sx_0 rfl <|
z_aload_n X 0 dX11_fillByHand_27 rfl <|
z_getR (q := 3) X dX11_fillByHand_28 fl_X11_19 sx_0 rfl <|
z_aload_n X 0 dX11_fillByHand_31 rfl <|
z_getR (q := 50) X dX11_fillByHand_32 fl_X11_35 sx_0 rfl <|
z_callvI X dX11_fillByHand_35 q_729 wX6_size sx_50 rfl (by decide) [] [.ref (G.2.2.1 3), .ref (G.2.2.1 52)] rfl rfl (Nat.le_of_ble_eq_true rfl) (fun r σ1 e => ct_X6_size SX 50 51 750 ⟨sx_50, sx_51, (by decide)⟩ G _ r σ1 e) o fun r7 s8 h9 o =>
z_callvV X dX11_fillByHand_38 q_733 wX10_keep sx_52 rfl (by decide) [.ref (G.2.2.1 3), .int (pI r7)] [] rfl rfl (Nat.le_of_ble_eq_true rfl) (fun r σ1 e => ct_X10_keep r7 h9 G _ r σ1 e) o fun r10 s11 o =>
z_aload_n X 0 dX11_fillByHand_41 rfl <|
z_getR (q := 3) X dX11_fillByHand_42 fl_X11_19 sx_0 rfl <|
z_getRN (q := 5) X dX11_fillByHand_45 fn_X11_192 sx_3 rfl <|
z_iload_n X 1 dX11_fillByHand_48 rfl <|
z_iload_n X 2 dX11_fillByHand_49 rfl <|
z_iast X dX11_fillByHand_50 sx_5 hp1 hp2 o fun s13 o =>
z_iconst X dX11_fillByHand_51 <|
z_zret X Y dX11_fillByHand_52 o kb_1 kb_1) fun o =>
z_iconst X dX11_fillByHand_21 <|
z_zret X Y dX11_fillByHand_22 o kb_0 kb_0 : At E s0 0 [(0, .ref (G.2.2.1 0)), (1, .int (pI p1)), (2, .int (pI p2))] [])
set_option maxHeartbeats 4000000 in
set_option maxRecDepth 100000 in
theorem ct_X6_isFull (S : List Kd) (ro rc rn : Nat) (hR : isR S ro rc rn) (G : Gw) (s0 : St) (r : Int) (σ1 : St) (e : fX6_isFull ro rc rn s0 = some (r, σ1)) : Ct yX6_isFull cX6_isFull 1 (some .boolean) 0 0 S G [.ref (G.2.2.1 ro)] s0 (QI S G r r01 σ1) :=
  Ct.of (by decide +kernel) (Nat.le_of_ble_eq_true rfl) fun E X Y => by
    have o : Ok (fX6_isFull ro rc rn s0) (fun x σ' => x = r ∧ σ' = σ1) := ⟨r, σ1, e, rfl, rfl⟩
    unfold fX6_isFull at o
    exact (
z_aload_n X 0 dX6_isFull_0 rfl <|
z_getI X dX6_isFull_1 fl_X6_19 hR.1 rfl o fun v1 r2 o =>
z_iconst X dX6_isFull_4 <|
z_iadd X dX6_isFull_5 <|
z_aload_n X 0 dX6_isFull_6 rfl <|
z_getI X dX6_isFull_7 fl_X6_9 hR.1 rfl o fun v3 r4 o =>
z_imul X dX6_isFull_10 <|
z_aload_n X 0 dX6_isFull_11 rfl <|
z_getR (q := rc) X dX6_isFull_12 fl_X6_15 hR.1 rfl <|
z_alen X dX6_isFull_15 hR.2.1 <|
z_icmp_le (tgt := 23) X dX6_isFull_16 (by decide) (w32_rg _) (nrg hR.2.2) o (fun o =>
z_iconst X dX6_isFull_23 <|
z_zret X Y dX6_isFull_24 o kb_0 kb_0) fun o =>
z_iconst X dX6_isFull_19 <|
z_goto (tgt := 24) X dX6_isFull_20 (by decide) <|
z_zret X Y dX6_isFull_24 o kb_1 kb_1 : At E s0 0 [(0, .ref (G.2.2.1 ro))] [])
set_option maxHeartbeats 4000000 in
set_option maxRecDepth 100000 in
theorem ct_X6_add_ (S : List Kd) (ro rc rn : Nat) (p1 : Int) (p2 : Int) (p3 : Int) (p4 : Int) (p5 : Int) (hR : isR S ro rc rn) (hp1 : rg p1) (hp2 : rg p2) (hp3 : rg p3) (hp4 : rg p4) (hp5 : rg p5) (G : Gw) (s0 : St) (r : Int) (σ1 : St) (e : fX6_add_ ro rc rn p1 p2 p3 p4 p5 s0 = some (r, σ1)) : Ct yX6_add_ cX6_add_ 6 (some .int) 1 27 S G [.ref (G.2.2.1 ro), .int (pI p1), .int (pI p2), .int (pI p3), .int (pI p4), .int (pI p5)] s0 (QI S G r rg σ1) :=
  Ct.of (by decide +kernel) (Nat.le_of_ble_eq_true rfl) fun E X Y => by
    have o : Ok (fX6_add_ ro rc rn p1 p2 p3 p4 p5 s0) (fun x σ' => x = r ∧ σ' = σ1) := ⟨r, σ1, e, rfl, rfl⟩
    unfold fX6_add_ at o
    exact (
z_aload_n X 0 dX6_add__0 rfl <|
z_callvI X dX6_add__1 q_337 wX6_isFull hR.1 rfl (by decide) [] [] rfl rfl (Nat.le_of_ble_eq_true rfl) (fun r σ1 e => ct_X6_isFull S ro rc rn hR G _ r σ1 e) o fun r1 s2 h3 o =>
z_if_eq (tgt := 9) X dX6_add__4 (by decide) (r01_rg h3) o (fun o =>
z_aload_n X 0 dX6_add__9 rfl <|
z_dup X dX6_add__10 rfl <|
z_getI X dX6_add__11 fl_X6_19 hR.1 rfl o fun v4 r5 o =>
z_iconst X dX6_add__14 <|
z_iadd X dX6_add__15 <|
z_putI X dX6_add__16 fl_X6_19 hR.1 ft_X6_2 rfl (w32_rg _) o fun s6 o =>
z_aload_n X 0 dX6_add__19 rfl <|
z_aload_n X 0 dX6_add__20 rfl <|
z_getI X dX6_add__21 fl_X6_19 hR.1 rfl o fun v7 r8 o =>
z_iconst X dX6_add__24 <|
z_isub X dX6_add__25 <|
z_iload_n X 1 dX6_add__26 rfl <|
z_iload_n X 2 dX6_add__27 rfl <|
z_iload_n X 3 dX6_add__28 rfl <|
z_iload X 4 dX6_add__29 rfl <|
z_iload X 5 dX6_add__31 rfl <|
z_callvV X dX6_add__33 q_341 wX6_change hR.1 rfl (by decide) [.int (pI (w32 (v7 - 1))), .int (pI p1), .int (pI p2), .int (pI p3), .int (pI p4), .int (pI p5)] [] rfl rfl (Nat.le_of_ble_eq_true rfl) (fun r σ1 e => ct_X6_change S ro rc rn (w32 (v7 - 1)) p1 p2 p3 p4 p5 hR (w32_rg _) hp1 hp2 hp3 hp4 hp5 G _ r σ1 e) o fun r9 s10 o =>
z_aload_n X 0 dX6_add__36 rfl <|
z_getI X dX6_add__37 fl_X6_19 hR.1 rfl o fun v12 r13 o =>
z_iret X Y dX6_add__40 o r13) fun o =>
z_iconst X dX6_add__7 <|
z_iret X Y dX6_add__8 o kc_m1 : At E s0 0 [(0, .ref (G.2.2.1 ro)), (1, .int (pI p1)), (2, .int (pI p2)), (3, .int (pI p3)), (4, .int (pI p4)), (5, .int (pI p5))] [])
set_option maxHeartbeats 4000000 in
set_option maxRecDepth 100000 in
theorem ct_X1_write (p1 : Int) (p2 : Int) (p3 : Int) (hp1 : rg p1) (hp2 : rg p2) (hp3 : rg p3) (G : Gw) (s0 : St) (r : Int) (σ1 : St) (e : fX1_write p1 p2 p3 s0 = some (r, σ1)) : Ct yX1_write cX1_write 4 none 2 52 SX G [.ref (G.2.2.1 152), .int (pI p1), .int (pI p2), .int (pI p3)] s0 (QV SX G σ1) :=
  Ct.of (by decide +kernel) (Nat.le_of_ble_eq_true rfl) fun E X Y => by
    have o : Ok (fX1_write p1 p2 p3 s0) (fun x σ' => x = r ∧ σ' = σ1) := ⟨r, σ1, e, rfl, rfl⟩
    unfold fX1_write at o
    exact (
z_aload_n X 0 dX1_write_0 rfl <|
z_getI X dX1_write_1 fl_X1_9 sx_152 rfl o fun v1 r2 o =>
z_if_ne (tgt := 32) X dX1_write_4 (by decide) r2 o (fun o =>
z_vret (v := 0) X Y dX1_write_32 o) fun o =>
z_aload_n X 0 dX1_write_7 rfl <|
z_getR (q := 50) X dX1_write_8 fl_X1_27 sx_152 rfl <|
z_aload_n X 0 dX1_write_11 rfl <|
z_getR (q := 3) X dX1_write_12 fl_X1_15 sx_152 rfl <|
z_getIN X dX1_write_15 fn_X1_82 sx_3 rfl o fun v3 r4 o =>
z_aload_n X 0 dX1_write_18 rfl <|
z_getR (q := 3) X dX1_write_19 fl_X1_15 sx_152 rfl <|
z_getIN X dX1_write_22 fn_X1_31 sx_3 rfl o fun v5 r6 o =>
z_iload_n X 1 dX1_write_25 rfl <|
z_iload_n X 2 dX1_write_26 rfl <|
z_iload_n X 3 dX1_write_27 rfl <|
z_callvI X dX1_write_28 q_757 wX6_add_ sx_50 rfl (by decide) [.int (pI v3), .int (pI v5), .int (pI p1), .int (pI p2), .int (pI p3)] [] rfl rfl (Nat.le_of_ble_eq_true rfl) (fun r σ1 e => ct_X6_add_ SX 50 51 750 v3 v5 p1 p2 p3 ⟨sx_50, sx_51, (by decide)⟩ r4 r6 hp1 hp2 hp3 G _ r σ1 e) o fun r7 s8 h9 o =>
z_pop X dX1_write_31 rfl <|
z_vret (v := 0) X Y dX1_write_32 o : At E s0 0 [(0, .ref (G.2.2.1 152)), (1, .int (pI p1)), (2, .int (pI p2)), (3, .int (pI p3))] [])
set_option maxHeartbeats 4000000 in
set_option maxRecDepth 100000 in
theorem ct_X1_sweepPorch (p1 : Int) (hp1 : rg p1) (G : Gw) (s0 : St) (r : Int) (σ1 : St) (e : fX1_sweepPorch p1 s0 = some (r, σ1)) : Ct yX1_sweepPorch cX1_sweepPorch 2 none 3 75 SX G [.ref (G.2.2.1 152), .int (pI p1)] s0 (QV SX G σ1) :=
  Ct.of (by decide +kernel) (Nat.le_of_ble_eq_true rfl) fun E X Y => by
    have o : Ok (fX1_sweepPorch p1 s0) (fun x σ' => x = r ∧ σ' = σ1) := ⟨r, σ1, e, rfl, rfl⟩
    unfold fX1_sweepPorch at o
    exact (
z_aload_n X 0 dX1_sweepPorch_0 rfl <|
z_getR (q := 3) X dX1_sweepPorch_1 fl_X1_15 sx_152 rfl <|
z_iload_n X 1 dX1_sweepPorch_4 rfl <|
z_callvI X dX1_sweepPorch_5 q_774 wX2_hasPorch sx_3 rfl (by decide) [.int (pI p1)] [] rfl rfl (Nat.le_of_ble_eq_true rfl) (fun r σ1 e => ct_X2_hasPorch p1 hp1 G _ r σ1 e) o fun r1 s2 h3 o =>
z_if_ne (tgt := 12) X dX1_sweepPorch_8 (by decide) (r01_rg h3) o (fun o =>
z_aload_n X 0 dX1_sweepPorch_12 rfl <|
z_iconst X dX1_sweepPorch_13 <|
z_iload_n X 1 dX1_sweepPorch_14 rfl <|
z_aload_n X 0 dX1_sweepPorch_15 rfl <|
z_getR (q := 3) X dX1_sweepPorch_16 fl_X1_15 sx_152 rfl <|
z_getRN (q := 6) X dX1_sweepPorch_19 fn_X1_75 sx_3 rfl <|
z_iload_n X 1 dX1_sweepPorch_22 rfl <|
z_iald X dX1_sweepPorch_23 sx_6 hp1 o fun v4 r5 o =>
z_callvV X dX1_sweepPorch_24 q_753 wX1_write sx_152 rfl (by decide) [.int (pI 4), .int (pI p1), .int (pI v4)] [] rfl rfl (Nat.le_of_ble_eq_true rfl) (fun r σ1 e => ct_X1_write 4 p1 v4 kc_4 hp1 r5 G _ r σ1 e) o fun r6 s7 o =>
z_aload_n X 0 dX1_sweepPorch_27 rfl <|
z_getR (q := 3) X dX1_sweepPorch_28 fl_X1_15 sx_152 rfl <|
z_getRN (q := 6) X dX1_sweepPorch_31 fn_X1_75 sx_3 rfl <|
z_iload_n X 1 dX1_sweepPorch_34 rfl <|
z_iconst X dX1_sweepPorch_35 <|
z_iast X dX1_sweepPorch_36 sx_6 hp1 kc_0 o fun s9 o =>
z_aload_n X 0 dX1_sweepPorch_37 rfl <|
z_getR (q := 3) X dX1_sweepPorch_38 fl_X1_15 sx_152 rfl <|
z_dup X dX1_sweepPorch_41 rfl <|
z_getIN X dX1_sweepPorch_42 fn_X1_79 sx_3 rfl o fun v10 r11 o =>
z_iconst X dX1_sweepPorch_45 <|
z_iadd X dX1_sweepPorch_46 <|
z_putIN X dX1_sweepPorch_47 fn_X1_79 sx_3 ft_X2_3 rfl (w32_rg _) o fun s12 o =>
z_vret (v := 0) X Y dX1_sweepPorch_50 o) fun o =>
z_vret (v := 0) X Y dX1_sweepPorch_11 o : At E s0 0 [(0, .ref (G.2.2.1 152)), (1, .int (pI p1))] [])
set_option maxHeartbeats 4000000 in
set_option maxRecDepth 100000 in
theorem ct_X11_sweepByHand (p1 : Int) (hp1 : rg p1) (G : Gw) (s0 : St) (r : Int) (σ1 : St) (e : fX11_sweepByHand p1 s0 = some (r, σ1)) : Ct yX11_sweepByHand cX11_sweepByHand 2 (some .boolean) 4 96 SX G [.ref (G.2.2.1 0), .int (pI p1)] s0 (QI SX G r r01 σ1) :=
  Ct.of (by decide +kernel) (Nat.le_of_ble_eq_true rfl) fun E X Y => by
    have o : Ok (fX11_sweepByHand p1 s0) (fun x σ' => x = r ∧ σ' = σ1) := ⟨r, σ1, e, rfl, rfl⟩
    unfold fX11_sweepByHand at o
    exact (
z_aload_n X 0 dX11_sweepByHand_0 rfl <|
z_getR (q := 3) X dX11_sweepByHand_1 fl_X11_19 sx_0 rfl <|
z_iload_n X 1 dX11_sweepByHand_4 rfl <|
z_callvI X dX11_sweepByHand_5 q_704 wX2_hasPorch sx_3 rfl (by decide) [.int (pI p1)] [] rfl rfl (Nat.le_of_ble_eq_true rfl) (fun r σ1 e => ct_X2_hasPorch p1 hp1 G _ r σ1 e) o fun r1 s2 h3 o =>
z_if_ne (tgt := 13) X dX11_sweepByHand_8 (by decide) (r01_rg h3) o (fun o =>
z_aload_n X 0 dX11_sweepByHand_13 rfl <|
z_getR (q := 52) X dX11_sweepByHand_14 fl_X11_42 sx_0 rfl <|
z_aload_n X 0 dX11_sweepByHand_17 rfl <|
z_getR (q := 3) X dX11_sweepByHand_18 fl_X11_19 sx_0 rfl <|
z_aload_n X 0 dX11_sweepByHand_21 rfl <|
z_getR (q := 50) X dX11_sweepByHand_22 fl_X11_35 sx_0 rfl <|
z_callvI X dX11_sweepByHand_25 q_729 wX6_size sx_50 rfl (by decide) [] [.ref (G.2.2.1 3), .ref (G.2.2.1 52)] rfl rfl (Nat.le_of_ble_eq_true rfl) (fun r σ1 e => ct_X6_size SX 50 51 750 ⟨sx_50, sx_51, (by decide)⟩ G _ r σ1 e) o fun r4 s5 h6 o =>
z_callvV X dX11_sweepByHand_28 q_733 wX10_keep sx_52 rfl (by decide) [.ref (G.2.2.1 3), .int (pI r4)] [] rfl rfl (Nat.le_of_ble_eq_true rfl) (fun r σ1 e => ct_X10_keep r4 h6 G _ r σ1 e) o fun r7 s8 o =>
z_aload_n X 0 dX11_sweepByHand_31 rfl <|
z_getR (q := 152) X dX11_sweepByHand_32 fl_X11_69 sx_0 rfl <|
z_iload_n X 1 dX11_sweepByHand_35 rfl <|
z_callvV X dX11_sweepByHand_36 q_770 wX1_sweepPorch sx_152 rfl (by decide) [.int (pI p1)] [] rfl rfl (Nat.le_of_ble_eq_true rfl) (fun r σ1 e => ct_X1_sweepPorch p1 hp1 G _ r σ1 e) o fun r10 s11 o =>
z_iconst X dX11_sweepByHand_39 <|
z_zret X Y dX11_sweepByHand_40 o kb_1 kb_1) fun o =>
z_iconst X dX11_sweepByHand_11 <|
z_zret X Y dX11_sweepByHand_12 o kb_0 kb_0 : At E s0 0 [(0, .ref (G.2.2.1 0)), (1, .int (pI p1))] [])
set_option maxHeartbeats 4000000 in
set_option maxRecDepth 100000 in
theorem ct_X2_hasPerson (p1 : Int) (hp1 : rg p1) (G : Gw) (s0 : St) (r : Int) (σ1 : St) (e : fX2_hasPerson p1 s0 = some (r, σ1)) : Ct yX2_hasPerson cX2_hasPerson 2 (some .boolean) 0 0 SX G [.ref (G.2.2.1 3), .int (pI p1)] s0 (QI SX G r r01 σ1) :=
  Ct.of (by decide +kernel) (Nat.le_of_ble_eq_true rfl) fun E X Y => by
    have o : Ok (fX2_hasPerson p1 s0) (fun x σ' => x = r ∧ σ' = σ1) := ⟨r, σ1, e, rfl, rfl⟩
    unfold fX2_hasPerson at o
    exact (
z_iload_n X 1 dX2_hasPerson_0 rfl <|
z_if_lt (tgt := 16) X dX2_hasPerson_1 (by decide) hp1 o (fun o =>
z_iconst X dX2_hasPerson_16 <|
z_zret X Y dX2_hasPerson_17 o kb_0 kb_0) fun o =>
z_iload_n X 1 dX2_hasPerson_4 rfl <|
z_aload_n X 0 dX2_hasPerson_5 rfl <|
z_getI X dX2_hasPerson_6 fl_X2_27 sx_3 rfl o fun v1 r2 o =>
z_icmp_ge (tgt := 16) X dX2_hasPerson_9 (by decide) hp1 r2 o (fun o =>
z_iconst X dX2_hasPerson_16 <|
z_zret X Y dX2_hasPerson_17 o kb_0 kb_0) fun o =>
z_iconst X dX2_hasPerson_12 <|
z_goto (tgt := 17) X dX2_hasPerson_13 (by decide) <|
z_zret X Y dX2_hasPerson_17 o kb_1 kb_1 : At E s0 0 [(0, .ref (G.2.2.1 3)), (1, .int (pI p1))] [])
set_option maxHeartbeats 4000000 in
set_option maxRecDepth 100000 in
theorem ct_X2_rise (p1 : Int) (hp1 : rg p1) (G : Gw) (s0 : St) (r : Int) (σ1 : St) (e : fX2_rise p1 s0 = some (r, σ1)) : Ct yX2_rise cX2_rise 2 none 1 21 SX G [.ref (G.2.2.1 3), .int (pI p1)] s0 (QV SX G σ1) :=
  Ct.of (by decide +kernel) (Nat.le_of_ble_eq_true rfl) fun E X Y => by
    have o : Ok (fX2_rise p1 s0) (fun x σ' => x = r ∧ σ' = σ1) := ⟨r, σ1, e, rfl, rfl⟩
    unfold fX2_rise at o
    exact (
z_aload_n X 0 dX2_rise_0 rfl <|
z_iload_n X 1 dX2_rise_1 rfl <|
z_callvI X dX2_rise_2 q_752 wX2_hasPerson sx_3 rfl (by decide) [.int (pI p1)] [] rfl rfl (Nat.le_of_ble_eq_true rfl) (fun r σ1 e => ct_X2_hasPerson p1 hp1 G _ r σ1 e) o fun r1 s2 h3 o =>
z_if_eq (tgt := 21) X dX2_rise_5 (by decide) (r01_rg h3) o (fun o =>
z_vret (v := 0) X Y dX2_rise_21 o) fun o =>
z_aload_n X 0 dX2_rise_8 rfl <|
z_aload_n X 0 dX2_rise_9 rfl <|
z_getR (q := 11) X dX2_rise_10 fl_X2_52 sx_3 rfl <|
z_iload_n X 1 dX2_rise_13 rfl <|
z_iald X dX2_rise_14 sx_11 hp1 o fun v4 r5 o =>
z_callvI X dX2_rise_15 q_728 wX2_hasPorch sx_3 rfl (by decide) [.int (pI v4)] [] rfl rfl (Nat.le_of_ble_eq_true rfl) (fun r σ1 e => ct_X2_hasPorch v4 r5 G _ r σ1 e) o fun r6 s7 h8 o =>
z_if_ne (tgt := 22) X dX2_rise_18 (by decide) (r01_rg h8) o (fun o =>
z_aload_n X 0 dX2_rise_22 rfl <|
z_getR (q := 8) X dX2_rise_23 fl_X2_43 sx_3 rfl <|
z_aload_n X 0 dX2_rise_26 rfl <|
z_getR (q := 11) X dX2_rise_27 fl_X2_52 sx_3 rfl <|
z_iload_n X 1 dX2_rise_30 rfl <|
z_iald X dX2_rise_31 sx_11 hp1 o fun v9 r10 o =>
z_dup2 X dX2_rise_32 rfl rfl <|
z_iald X dX2_rise_33 sx_8 r10 o fun v11 r12 o =>
z_iconst X dX2_rise_34 <|
z_isub X dX2_rise_35 <|
z_iast X dX2_rise_36 sx_8 r10 (w32_rg _) o fun s13 o =>
z_aload_n X 0 dX2_rise_37 rfl <|
z_getR (q := 11) X dX2_rise_38 fl_X2_52 sx_3 rfl <|
z_iload_n X 1 dX2_rise_41 rfl <|
z_iconst X dX2_rise_42 <|
z_iast X dX2_rise_43 sx_11 hp1 kc_m1 o fun s14 o =>
z_aload_n X 0 dX2_rise_44 rfl <|
z_getR (q := 12) X dX2_rise_45 fl_X2_55 sx_3 rfl <|
z_iload_n X 1 dX2_rise_48 rfl <|
z_iconst X dX2_rise_49 <|
z_iast X dX2_rise_50 sx_12 hp1 kc_0 o fun s15 o =>
z_aload_n X 0 dX2_rise_51 rfl <|
z_getR (q := 13) X dX2_rise_52 fl_X2_58 sx_3 rfl <|
z_iload_n X 1 dX2_rise_55 rfl <|
z_iconst X dX2_rise_56 <|
z_iast X dX2_rise_57 sx_13 hp1 kc_0 o fun s16 o =>
z_vret (v := 0) X Y dX2_rise_58 o) fun o =>
z_vret (v := 0) X Y dX2_rise_21 o : At E s0 0 [(0, .ref (G.2.2.1 3)), (1, .int (pI p1))] [])
set_option maxHeartbeats 4000000 in
set_option maxRecDepth 100000 in
theorem ct_X11_riseByHand (p1 : Int) (hp1 : rg p1) (G : Gw) (s0 : St) (r : Int) (σ1 : St) (e : fX11_riseByHand p1 s0 = some (r, σ1)) : Ct yX11_riseByHand cX11_riseByHand 2 (some .boolean) 3 83 SX G [.ref (G.2.2.1 0), .int (pI p1)] s0 (QI SX G r r01 σ1) :=
  Ct.of (by decide +kernel) (Nat.le_of_ble_eq_true rfl) fun E X Y => by
    have o : Ok (fX11_riseByHand p1 s0) (fun x σ' => x = r ∧ σ' = σ1) := ⟨r, σ1, e, rfl, rfl⟩
    unfold fX11_riseByHand at o
    exact (
z_aload_n X 0 dX11_riseByHand_0 rfl <|
z_getR (q := 3) X dX11_riseByHand_1 fl_X11_19 sx_0 rfl <|
z_iload_n X 1 dX11_riseByHand_4 rfl <|
z_callvI X dX11_riseByHand_5 q_708 wX2_hasPerson sx_3 rfl (by decide) [.int (pI p1)] [] rfl rfl (Nat.le_of_ble_eq_true rfl) (fun r σ1 e => ct_X2_hasPerson p1 hp1 G _ r σ1 e) o fun r1 s2 h3 o =>
z_if_eq (tgt := 24) X dX11_riseByHand_8 (by decide) (r01_rg h3) o (fun o =>
z_iconst X dX11_riseByHand_24 <|
z_zret X Y dX11_riseByHand_25 o kb_0 kb_0) fun o =>
z_aload_n X 0 dX11_riseByHand_11 rfl <|
z_getR (q := 3) X dX11_riseByHand_12 fl_X11_19 sx_0 rfl <|
z_getRN (q := 11) X dX11_riseByHand_15 fn_X11_167 sx_3 rfl <|
z_iload_n X 1 dX11_riseByHand_18 rfl <|
z_iald X dX11_riseByHand_19 sx_11 hp1 o fun v4 r5 o =>
z_iconst X dX11_riseByHand_20 <|
z_icmp_ne (tgt := 26) X dX11_riseByHand_21 (by decide) r5 kc_m1 o (fun o =>
z_aload_n X 0 dX11_riseByHand_26 rfl <|
z_getR (q := 52) X dX11_riseByHand_27 fl_X11_42 sx_0 rfl <|
z_aload_n X 0 dX11_riseByHand_30 rfl <|
z_getR (q := 3) X dX11_riseByHand_31 fl_X11_19 sx_0 rfl <|
z_aload_n X 0 dX11_riseByHand_34 rfl <|
z_getR (q := 50) X dX11_riseByHand_35 fl_X11_35 sx_0 rfl <|
z_callvI X dX11_riseByHand_38 q_729 wX6_size sx_50 rfl (by decide) [] [.ref (G.2.2.1 3), .ref (G.2.2.1 52)] rfl rfl (Nat.le_of_ble_eq_true rfl) (fun r σ1 e => ct_X6_size SX 50 51 750 ⟨sx_50, sx_51, (by decide)⟩ G _ r σ1 e) o fun r6 s7 h8 o =>
z_callvV X dX11_riseByHand_41 q_733 wX10_keep sx_52 rfl (by decide) [.ref (G.2.2.1 3), .int (pI r6)] [] rfl rfl (Nat.le_of_ble_eq_true rfl) (fun r σ1 e => ct_X10_keep r6 h8 G _ r σ1 e) o fun r9 s10 o =>
z_aload_n X 0 dX11_riseByHand_44 rfl <|
z_getR (q := 3) X dX11_riseByHand_45 fl_X11_19 sx_0 rfl <|
z_iload_n X 1 dX11_riseByHand_48 rfl <|
z_callvV X dX11_riseByHand_49 q_762 wX2_rise sx_3 rfl (by decide) [.int (pI p1)] [] rfl rfl (Nat.le_of_ble_eq_true rfl) (fun r σ1 e => ct_X2_rise p1 hp1 G _ r σ1 e) o fun r12 s13 o =>
z_iconst X dX11_riseByHand_52 <|
z_zret X Y dX11_riseByHand_53 o kb_1 kb_1) fun o =>
z_iconst X dX11_riseByHand_24 <|
z_zret X Y dX11_riseByHand_25 o kb_0 kb_0 : At E s0 0 [(0, .ref (G.2.2.1 0)), (1, .int (pI p1))] [])
set_option maxHeartbeats 4000000 in
set_option maxRecDepth 100000 in
theorem ct_X2_hasFreeChair (p1 : Int) (hp1 : rg p1) (G : Gw) (s0 : St) (r : Int) (σ1 : St) (e : fX2_hasFreeChair p1 s0 = some (r, σ1)) : Ct yX2_hasFreeChair cX2_hasFreeChair 2 (some .boolean) 1 21 SX G [.ref (G.2.2.1 3), .int (pI p1)] s0 (QI SX G r r01 σ1) :=
  Ct.of (by decide +kernel) (Nat.le_of_ble_eq_true rfl) fun E X Y => by
    have o : Ok (fX2_hasFreeChair p1 s0) (fun x σ' => x = r ∧ σ' = σ1) := ⟨r, σ1, e, rfl, rfl⟩
    unfold fX2_hasFreeChair at o
    exact (
z_aload_n X 0 dX2_hasFreeChair_0 rfl <|
z_iload_n X 1 dX2_hasFreeChair_1 rfl <|
z_callvI X dX2_hasFreeChair_2 q_728 wX2_hasPorch sx_3 rfl (by decide) [.int (pI p1)] [] rfl rfl (Nat.le_of_ble_eq_true rfl) (fun r σ1 e => ct_X2_hasPorch p1 hp1 G _ r σ1 e) o fun r1 s2 h3 o =>
z_if_eq (tgt := 27) X dX2_hasFreeChair_5 (by decide) (r01_rg h3) o (fun o =>
z_iconst X dX2_hasFreeChair_27 <|
z_zret X Y dX2_hasFreeChair_28 o kb_0 kb_0) fun o =>
z_aload_n X 0 dX2_hasFreeChair_8 rfl <|
z_getR (q := 8) X dX2_hasFreeChair_9 fl_X2_43 sx_3 rfl <|
z_iload_n X 1 dX2_hasFreeChair_12 rfl <|
z_iald X dX2_hasFreeChair_13 sx_8 hp1 o fun v4 r5 o =>
z_aload_n X 0 dX2_hasFreeChair_14 rfl <|
z_getR (q := 4) X dX2_hasFreeChair_15 fl_X2_30 sx_3 rfl <|
z_iload_n X 1 dX2_hasFreeChair_18 rfl <|
z_iald X dX2_hasFreeChair_19 sx_4 hp1 o fun v6 r7 o =>
z_icmp_ge (tgt := 27) X dX2_hasFreeChair_20 (by decide) r5 r7 o (fun o =>
z_iconst X dX2_hasFreeChair_27 <|
z_zret X Y dX2_hasFreeChair_28 o kb_0 kb_0) fun o =>
z_iconst X dX2_hasFreeChair_23 <|
z_goto (tgt := 28) X dX2_hasFreeChair_24 (by decide) <|
z_zret X Y dX2_hasFreeChair_28 o kb_1 kb_1 : At E s0 0 [(0, .ref (G.2.2.1 3)), (1, .int (pI p1))] [])
set_option maxHeartbeats 4000000 in
set_option maxRecDepth 100000 in
theorem ct_X2_sitDown (p1 : Int) (p2 : Int) (p3 : Int) (hp1 : rg p1) (hp2 : rg p2) (hp3 : rg p3) (G : Gw) (s0 : St) (r : Int) (σ1 : St) (e : fX2_sitDown p1 p2 p3 s0 = some (r, σ1)) : Ct yX2_sitDown cX2_sitDown 4 none 1 21 SX G [.ref (G.2.2.1 3), .int (pI p1), .int (pI p2), .int (pI p3)] s0 (QV SX G σ1) :=
  Ct.of (by decide +kernel) (Nat.le_of_ble_eq_true rfl) fun E X Y => by
    have o : Ok (fX2_sitDown p1 p2 p3 s0) (fun x σ' => x = r ∧ σ' = σ1) := ⟨r, σ1, e, rfl, rfl⟩
    unfold fX2_sitDown at o
    exact (
z_aload_n X 0 dX2_sitDown_0 rfl <|
z_iload_n X 1 dX2_sitDown_1 rfl <|
z_callvI X dX2_sitDown_2 q_752 wX2_hasPerson sx_3 rfl (by decide) [.int (pI p1)] [] rfl rfl (Nat.le_of_ble_eq_true rfl) (fun r σ1 e => ct_X2_hasPerson p1 hp1 G _ r σ1 e) o fun r1 s2 h3 o =>
z_if_eq (tgt := 16) X dX2_sitDown_5 (by decide) (r01_rg h3) o (fun o =>
z_vret (v := 0) X Y dX2_sitDown_16 o) fun o =>
z_aload_n X 0 dX2_sitDown_8 rfl <|
z_iload_n X 2 dX2_sitDown_9 rfl <|
z_callvI X dX2_sitDown_10 q_728 wX2_hasPorch sx_3 rfl (by decide) [.int (pI p2)] [] rfl rfl (Nat.le_of_ble_eq_true rfl) (fun r σ1 e => ct_X2_hasPorch p2 hp2 G _ r σ1 e) o fun r4 s5 h6 o =>
z_if_ne (tgt := 17) X dX2_sitDown_13 (by decide) (r01_rg h6) o (fun o =>
z_aload_n X 0 dX2_sitDown_17 rfl <|
z_getR (q := 11) X dX2_sitDown_18 fl_X2_52 sx_3 rfl <|
z_iload_n X 1 dX2_sitDown_21 rfl <|
z_iload_n X 2 dX2_sitDown_22 rfl <|
z_iast X dX2_sitDown_23 sx_11 hp1 hp2 o fun s7 o =>
z_aload_n X 0 dX2_sitDown_24 rfl <|
z_getR (q := 12) X dX2_sitDown_25 fl_X2_55 sx_3 rfl <|
z_iload_n X 1 dX2_sitDown_28 rfl <|
z_iconst X dX2_sitDown_29 <|
z_iast X dX2_sitDown_30 sx_12 hp1 kc_0 o fun s8 o =>
z_aload_n X 0 dX2_sitDown_31 rfl <|
z_getR (q := 13) X dX2_sitDown_32 fl_X2_58 sx_3 rfl <|
z_iload_n X 1 dX2_sitDown_35 rfl <|
z_iload_n X 3 dX2_sitDown_36 rfl <|
z_iast X dX2_sitDown_37 sx_13 hp1 hp3 o fun s9 o =>
z_aload_n X 0 dX2_sitDown_38 rfl <|
z_getR (q := 8) X dX2_sitDown_39 fl_X2_43 sx_3 rfl <|
z_iload_n X 2 dX2_sitDown_42 rfl <|
z_dup2 X dX2_sitDown_43 rfl rfl <|
z_iald X dX2_sitDown_44 sx_8 hp2 o fun v10 r11 o =>
z_iconst X dX2_sitDown_45 <|
z_iadd X dX2_sitDown_46 <|
z_iast X dX2_sitDown_47 sx_8 hp2 (w32_rg _) o fun s12 o =>
z_vret (v := 0) X Y dX2_sitDown_48 o) fun o =>
z_vret (v := 0) X Y dX2_sitDown_16 o : At E s0 0 [(0, .ref (G.2.2.1 3)), (1, .int (pI p1)), (2, .int (pI p2)), (3, .int (pI p3))] [])
set_option maxHeartbeats 4000000 in
set_option maxRecDepth 100000 in
theorem ct_X1_takeSeat (p1 : Int) (p2 : Int) (p3 : Int) (hp1 : rg p1) (hp2 : rg p2) (hp3 : rg p3) (G : Gw) (s0 : St) (r : Int) (σ1 : St) (e : fX1_takeSeat p1 p2 p3 s0 = some (r, σ1)) : Ct yX1_takeSeat cX1_takeSeat 4 none 3 75 SX G [.ref (G.2.2.1 152), .int (pI p1), .int (pI p2), .int (pI p3)] s0 (QV SX G σ1) :=
  Ct.of (by decide +kernel) (Nat.le_of_ble_eq_true rfl) fun E X Y => by
    have o : Ok (fX1_takeSeat p1 p2 p3 s0) (fun x σ' => x = r ∧ σ' = σ1) := ⟨r, σ1, e, rfl, rfl⟩
    unfold fX1_takeSeat at o
    exact (
z_aload_n X 0 dX1_takeSeat_0 rfl <|
z_getR (q := 3) X dX1_takeSeat_1 fl_X1_15 sx_152 rfl <|
z_iload_n X 1 dX1_takeSeat_4 rfl <|
z_iload_n X 2 dX1_takeSeat_5 rfl <|
z_iload_n X 3 dX1_takeSeat_6 rfl <|
z_callvV X dX1_takeSeat_7 q_748 wX2_sitDown sx_3 rfl (by decide) [.int (pI p1), .int (pI p2), .int (pI p3)] [] rfl rfl (Nat.le_of_ble_eq_true rfl) (fun r σ1 e => ct_X2_sitDown p1 p2 p3 hp1 hp2 hp3 G _ r σ1 e) o fun r1 s2 o =>
z_aload_n X 0 dX1_takeSeat_10 rfl <|
z_iconst X dX1_takeSeat_11 <|
z_iload_n X 1 dX1_takeSeat_12 rfl <|
z_iload_n X 2 dX1_takeSeat_13 rfl <|
z_callvV X dX1_takeSeat_14 q_753 wX1_write sx_152 rfl (by decide) [.int (pI 0), .int (pI p1), .int (pI p2)] [] rfl rfl (Nat.le_of_ble_eq_true rfl) (fun r σ1 e => ct_X1_write 0 p1 p2 kc_0 hp1 hp2 G _ r σ1 e) o fun r4 s5 o =>
z_vret (v := 0) X Y dX1_takeSeat_17 o : At E s0 0 [(0, .ref (G.2.2.1 152)), (1, .int (pI p1)), (2, .int (pI p2)), (3, .int (pI p3))] [])
set_option maxHeartbeats 4000000 in
set_option maxRecDepth 100000 in
theorem ct_X11_sitByHand (p1 : Int) (p2 : Int) (hp1 : rg p1) (hp2 : rg p2) (G : Gw) (s0 : St) (r : Int) (σ1 : St) (e : fX11_sitByHand p1 p2 s0 = some (r, σ1)) : Ct yX11_sitByHand cX11_sitByHand 3 (some .boolean) 4 98 SX G [.ref (G.2.2.1 0), .int (pI p1), .int (pI p2)] s0 (QI SX G r r01 σ1) :=
  Ct.of (by decide +kernel) (Nat.le_of_ble_eq_true rfl) fun E X Y => by
    have o : Ok (fX11_sitByHand p1 p2 s0) (fun x σ' => x = r ∧ σ' = σ1) := ⟨r, σ1, e, rfl, rfl⟩
    unfold fX11_sitByHand at o
    exact (
z_aload_n X 0 dX11_sitByHand_0 rfl <|
z_getR (q := 3) X dX11_sitByHand_1 fl_X11_19 sx_0 rfl <|
z_iload_n X 1 dX11_sitByHand_4 rfl <|
z_callvI X dX11_sitByHand_5 q_708 wX2_hasPerson sx_3 rfl (by decide) [.int (pI p1)] [] rfl rfl (Nat.le_of_ble_eq_true rfl) (fun r σ1 e => ct_X2_hasPerson p1 hp1 G _ r σ1 e) o fun r1 s2 h3 o =>
z_if_eq (tgt := 22) X dX11_sitByHand_8 (by decide) (r01_rg h3) o (fun o =>
z_iconst X dX11_sitByHand_22 <|
z_zret X Y dX11_sitByHand_23 o kb_0 kb_0) fun o =>
z_aload_n X 0 dX11_sitByHand_11 rfl <|
z_getR (q := 3) X dX11_sitByHand_12 fl_X11_19 sx_0 rfl <|
z_iload_n X 2 dX11_sitByHand_15 rfl <|
z_callvI X dX11_sitByHand_16 q_704 wX2_hasPorch sx_3 rfl (by decide) [.int (pI p2)] [] rfl rfl (Nat.le_of_ble_eq_true rfl) (fun r σ1 e => ct_X2_hasPorch p2 hp2 G _ r σ1 e) o fun r4 s5 h6 o =>
z_if_ne (tgt := 24) X dX11_sitByHand_19 (by decide) (r01_rg h6) o (fun o =>
z_aload_n X 0 dX11_sitByHand_24 rfl <|
z_getR (q := 3) X dX11_sitByHand_25 fl_X11_19 sx_0 rfl <|
z_getRN (q := 11) X dX11_sitByHand_28 fn_X11_167 sx_3 rfl <|
z_iload_n X 1 dX11_sitByHand_31 rfl <|
z_iald X dX11_sitByHand_32 sx_11 hp1 o fun v7 r8 o =>
z_iconst X dX11_sitByHand_33 <|
z_icmp_ne (tgt := 48) X dX11_sitByHand_34 (by decide) r8 kc_m1 o (fun o =>
z_iconst X dX11_sitByHand_48 <|
z_zret X Y dX11_sitByHand_49 o kb_0 kb_0) fun o =>
z_aload_n X 0 dX11_sitByHand_37 rfl <|
z_getR (q := 3) X dX11_sitByHand_38 fl_X11_19 sx_0 rfl <|
z_iload_n X 2 dX11_sitByHand_41 rfl <|
z_callvI X dX11_sitByHand_42 q_724 wX2_hasFreeChair sx_3 rfl (by decide) [.int (pI p2)] [] rfl rfl (Nat.le_of_ble_eq_true rfl) (fun r σ1 e => ct_X2_hasFreeChair p2 hp2 G _ r σ1 e) o fun r9 s10 h11 o =>
z_if_ne (tgt := 50) X dX11_sitByHand_45 (by decide) (r01_rg h11) o (fun o =>
z_aload_n X 0 dX11_sitByHand_50 rfl <|
z_getR (q := 52) X dX11_sitByHand_51 fl_X11_42 sx_0 rfl <|
z_aload_n X 0 dX11_sitByHand_54 rfl <|
z_getR (q := 3) X dX11_sitByHand_55 fl_X11_19 sx_0 rfl <|
z_aload_n X 0 dX11_sitByHand_58 rfl <|
z_getR (q := 50) X dX11_sitByHand_59 fl_X11_35 sx_0 rfl <|
z_callvI X dX11_sitByHand_62 q_729 wX6_size sx_50 rfl (by decide) [] [.ref (G.2.2.1 3), .ref (G.2.2.1 52)] rfl rfl (Nat.le_of_ble_eq_true rfl) (fun r σ1 e => ct_X6_size SX 50 51 750 ⟨sx_50, sx_51, (by decide)⟩ G _ r σ1 e) o fun r12 s13 h14 o =>
z_callvV X dX11_sitByHand_65 q_733 wX10_keep sx_52 rfl (by decide) [.ref (G.2.2.1 3), .int (pI r12)] [] rfl rfl (Nat.le_of_ble_eq_true rfl) (fun r σ1 e => ct_X10_keep r12 h14 G _ r σ1 e) o fun r15 s16 o =>
z_aload_n X 0 dX11_sitByHand_68 rfl <|
z_getR (q := 152) X dX11_sitByHand_69 fl_X11_69 sx_0 rfl <|
z_iload_n X 1 dX11_sitByHand_72 rfl <|
z_iload_n X 2 dX11_sitByHand_73 rfl <|
z_bipush X dX11_sitByHand_74 bi_60 <|
z_callvV X dX11_sitByHand_76 q_744 wX1_takeSeat sx_152 rfl (by decide) [.int (pI p1), .int (pI p2), .int (pI 60)] [] rfl rfl (Nat.le_of_ble_eq_true rfl) (fun r σ1 e => ct_X1_takeSeat p1 p2 60 hp1 hp2 kc_60 G _ r σ1 e) o fun r18 s19 o =>
z_iconst X dX11_sitByHand_79 <|
z_zret X Y dX11_sitByHand_80 o kb_1 kb_1) fun o =>
z_iconst X dX11_sitByHand_48 <|
z_zret X Y dX11_sitByHand_49 o kb_0 kb_0) fun o =>
z_iconst X dX11_sitByHand_22 <|
z_zret X Y dX11_sitByHand_23 o kb_0 kb_0 : At E s0 0 [(0, .ref (G.2.2.1 0)), (1, .int (pI p1)), (2, .int (pI p2))] [])
