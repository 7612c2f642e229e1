set_option maxHeartbeats 4000000 in
set_option maxRecDepth 100000 in
theorem ct_X4_deepest   (G : Gw) (s0 : St) (r : Int) (σ1 : St) (e : fX4_deepest s0 = some (r, σ1)) : Ct yX4_deepest cX4_deepest 5 (some .int) 1 22 SX G [.ref (G.2.2.1 157)] s0 (QI SX G r rg σ1) :=
  Ct.of (by decide +kernel) (Nat.le_of_ble_eq_true rfl) fun E X Y => by
    have o : Ok (fX4_deepest s0) (fun x σ' => x = r ∧ σ' = σ1) := ⟨r, σ1, e, rfl, rfl⟩
    unfold fX4_deepest at o
    exact (
z_iconst X dX4_deepest_0 <|
z_istore_n (L1 := [(1, .int (pI 0)), (0, .ref (G.2.2.1 157))]) X dX4_deepest_1 rfl (by decide) rfl <|
z_iconst X dX4_deepest_2 <|
z_istore_n (L1 := [(2, .int (pI 0)), (1, .int (pI 0)), (0, .ref (G.2.2.1 157))]) X dX4_deepest_3 rfl (by decide) rfl <|
z_iconst X dX4_deepest_4 <|
z_istore_n (L1 := [(3, .int (pI 0)), (2, .int (pI 0)), (1, .int (pI 0)), (0, .ref (G.2.2.1 157))]) X dX4_deepest_5 rfl (by decide) rfl <|
z_join o (fun (y18 : Int) s19 => rg y18 → At E s19 68 [(2, .int (pI y18))] []) (fun y18 s19 o r20 =>
z_iload_n X 0 dX4_deepest_68 rfl <|
z_iret X Y dX4_deepest_69 o r20) fun o =>
z_sub (L1 := [(0, .ref (G.2.2.1 157)), (1, .int (pI 0)), (2, .int (pI 0)), (3, .int (pI 0))]) X [3, 2, 1, 0] rfl <|
z_iter (fun (x1 : Int × Int × Int) s2 => rg x1.1 ∧ rg x1.2.1 ∧ rg x1.2.2 → At E s2 6 [(0, .ref (G.2.2.1 157)), (1, .int (pI x1.1)), (2, .int (pI x1.2.1)), (3, .int (pI x1.2.2))] []) o (fun x1 s2 o r3 =>
z_iload_n X 3 dX4_deepest_6 rfl <|
z_aload_n X 0 dX4_deepest_7 rfl <|
z_getR (q := 17) X dX4_deepest_8 fl_X4_56 sx_157 rfl <|
z_getRN (q := 38) X dX4_deepest_11 fn_X4_122 sx_17 rfl <|
z_callvI X dX4_deepest_14 q_1265 wX6_size sx_38 rfl (by decide) [] [.int (pI x1.2.2)] rfl rfl (Nat.le_of_ble_eq_true rfl) (fun r σ1 e => ct_X6_size SX 38 39 24 ⟨sx_38, sx_39, (by decide)⟩ G _ r σ1 e) o fun r4 s5 h6 o =>
z_icmp_ge (tgt := 68) X dX4_deepest_17 (by decide) r3.2.2 h6 o (fun o =>
z_sub (L1 := [(2, .int (pI x1.2.1))]) X [2] rfl <|
ok_some o r3.2.1) fun o =>
z_aload_n X 0 dX4_deepest_20 rfl <|
z_getR (q := 17) X dX4_deepest_21 fl_X4_56 sx_157 rfl <|
z_getRN (q := 38) X dX4_deepest_24 fn_X4_122 sx_17 rfl <|
z_iload_n X 3 dX4_deepest_27 rfl <|
z_iconst X dX4_deepest_28 <|
z_callvI X dX4_deepest_29 q_1266 wX6_get sx_38 rfl (by decide) [.int (pI x1.2.2), .int (pI 0)] [] rfl rfl (Nat.le_of_ble_eq_true rfl) (fun r σ1 e => ct_X6_get SX 38 39 24 x1.2.2 0 ⟨sx_38, sx_39, (by decide)⟩ r3.2.2 kc_0 G _ r σ1 e) o fun r7 s8 h9 o =>
z_istore (L1 := [(4, .int (pI r7)), (0, .ref (G.2.2.1 157)), (1, .int (pI x1.1)), (2, .int (pI x1.2.1)), (3, .int (pI x1.2.2))]) X dX4_deepest_32 (by decide) rfl <|
z_iload X 0 dX4_deepest_34 rfl <|
z_iconst X dX4_deepest_36 <|
z_join o (fun (y10 : Int) s11 => rg y10 → At E s11 43 [(0, .ref (G.2.2.1 157)), (1, .int (pI y10)), (2, .int (pI x1.2.1)), (3, .int (pI x1.2.2)), (4, .int (pI r7))] []) (fun y10 s11 o r12 =>
z_iload X 4 dX4_deepest_43 rfl <|
z_iconst X dX4_deepest_45 <|
z_join o (fun (y13 : Int) s14 => rg y13 → At E s14 56 [(0, .ref (G.2.2.1 157)), (1, .int (pI y13)), (2, .int (pI x1.2.1)), (3, .int (pI x1.2.2))] []) (fun y13 s14 o r15 =>
z_iload_n X 2 dX4_deepest_56 rfl <|
z_iload_n X 1 dX4_deepest_57 rfl <|
z_mmax X dX4_deepest_58 q_1274 q_840 q_174 q_841 (by decide) (Nat.le_of_ble_eq_true rfl) r3.2.1 r15 <|
z_istoreL_n (L1 := fun v16 => [(2, .int (pI v16)), (0, .ref (G.2.2.1 157)), (1, .int (pI y13)), (3, .int (pI x1.2.2))]) (R := rg) X dX4_deepest_61 rfl (by decide) (fun _ => rfl) o (imx_rg r3.2.1 r15) fun v16 r17 o =>
z_iinc (L1 := [(3, .int (pI (w32 (x1.2.2 + 1)))), (2, .int (pI v16)), (0, .ref (G.2.2.1 157)), (1, .int (pI y13))]) X 3 dX4_deepest_62 rfl (by decide) rfl <|
z_goto (tgt := 6) X dX4_deepest_65 (by decide) <|
z_sub (L1 := [(0, .ref (G.2.2.1 157)), (1, .int (pI y13)), (2, .int (pI v16)), (3, .int (pI (w32 (x1.2.2 + 1))))]) X [2, 3, 1, 0] rfl <|
ok_some o ⟨r15, r17, (w32_rg _)⟩) fun o =>
z_icmp_ne (tgt := 56) X dX4_deepest_46 (by decide) h9 kc_2 o (fun o =>
z_sub (L1 := [(0, .ref (G.2.2.1 157)), (1, .int (pI y10)), (2, .int (pI x1.2.1)), (3, .int (pI x1.2.2))]) X [0, 1, 2, 3] rfl <|
ok_some o r12) fun o =>
z_iload_n X 1 dX4_deepest_49 rfl <|
z_if_le (tgt := 56) X dX4_deepest_50 (by decide) r12 o (fun o =>
z_sub (L1 := [(0, .ref (G.2.2.1 157)), (1, .int (pI y10)), (2, .int (pI x1.2.1)), (3, .int (pI x1.2.2))]) X [0, 1, 2, 3] rfl <|
ok_some o r12) fun o =>
z_iinc (L1 := [(1, .int (pI (w32 (y10 + (-1))))), (0, .ref (G.2.2.1 157)), (2, .int (pI x1.2.1)), (3, .int (pI x1.2.2)), (4, .int (pI r7))]) X 1 dX4_deepest_53 rfl (by decide) rfl <|
z_sub (L1 := [(0, .ref (G.2.2.1 157)), (1, .int (pI (w32 (y10 + (-1))))), (2, .int (pI x1.2.1)), (3, .int (pI x1.2.2))]) X [1, 0, 2, 3] rfl <|
ok_some o (w32_rg _)) fun o =>
z_icmp_ne (tgt := 43) X dX4_deepest_37 (by decide) h9 kc_1 o (fun o =>
z_sub (L1 := [(0, .ref (G.2.2.1 157)), (1, .int (pI x1.1)), (2, .int (pI x1.2.1)), (3, .int (pI x1.2.2)), (4, .int (pI r7))]) X [1, 2, 3, 4, 0] rfl <|
ok_some o r3.1) fun o =>
z_iinc (L1 := [(1, .int (pI (w32 (x1.1 + 1)))), (4, .int (pI r7)), (0, .ref (G.2.2.1 157)), (2, .int (pI x1.2.1)), (3, .int (pI x1.2.2))]) X 2 dX4_deepest_40 rfl (by decide) rfl <|
z_sub (L1 := [(0, .ref (G.2.2.1 157)), (1, .int (pI (w32 (x1.1 + 1)))), (2, .int (pI x1.2.1)), (3, .int (pI x1.2.2)), (4, .int (pI r7))]) X [2, 0, 3, 4, 1] rfl <|
ok_some o (w32_rg _)) ⟨kc_0, kc_0, kc_0⟩ : At E s0 0 [(0, .ref (G.2.2.1 157))] [])
set_option maxHeartbeats 4000000 in
set_option maxRecDepth 100000 in
theorem ct_X11_talks (p1 : Int) (hp1 : rg p1) (G : Gw) (s0 : St) (r : Int) (σ1 : St) (e : fX11_talks p1 s0 = some (r, σ1)) : Ct yX11_talks cX11_talks 2 (some .int) 2 46 SX G [.ref (G.2.2.1 0), .int (pI p1)] s0 (QI SX G r rg σ1) :=
  Ct.of (by decide +kernel) (Nat.le_of_ble_eq_true rfl) fun E X Y => by
    have o : Ok (fX11_talks p1 s0) (fun x σ' => x = r ∧ σ' = σ1) := ⟨r, σ1, e, rfl, rfl⟩
    unfold fX11_talks at o
    exact (
z_iload_n X 1 dX11_talks_0 rfl <|
z_if_ne (tgt := 12) X dX11_talks_1 (by decide) hp1 o (fun o =>
z_iload_n X 1 dX11_talks_12 rfl <|
z_iconst X dX11_talks_13 <|
z_icmp_ne (tgt := 25) X dX11_talks_14 (by decide) hp1 kc_1 o (fun o =>
z_iload_n X 1 dX11_talks_25 rfl <|
z_bipush X dX11_talks_26 bi_10 <|
z_bipush X dX11_talks_28 bi_25 <|
z_callsI X dX11_talks_30 q_681 wX11_within  (by decide) [.int (pI p1), .int (pI 10), .int (pI 25)] [] rfl rfl (Nat.le_of_ble_eq_true rfl) (fun r σ1 e => ct_X11_within p1 10 25 hp1 kc_10 kc_25 G _ r σ1 e) o fun r1 s2 h3 o =>
z_if_eq (tgt := 50) X dX11_talks_33 (by decide) (r01_rg h3) o (fun o =>
z_iconst X dX11_talks_50 <|
z_iret X Y dX11_talks_51 o kc_m1) fun o =>
z_aload_n X 0 dX11_talks_36 rfl <|
z_getR (q := 157) X dX11_talks_37 fl_X11_90 sx_0 rfl <|
z_iload_n X 1 dX11_talks_40 rfl <|
z_bipush X dX11_talks_41 bi_10 <|
z_isub X dX11_talks_43 <|
z_callvI X dX11_talks_44 q_1355 wX4_waysOfMatters sx_157 rfl (by decide) [.int (pI (w32 (p1 - 10)))] [] rfl rfl (Nat.le_of_ble_eq_true rfl) (fun r σ1 e => ct_X4_waysOfMatters (w32 (p1 - 10)) (w32_rg _) G _ r σ1 e) o fun r4 s5 h6 o =>
z_goto (tgt := 51) X dX11_talks_47 (by decide) <|
z_iret X Y dX11_talks_51 o h6) fun o =>
z_aload_n X 0 dX11_talks_17 rfl <|
z_getR (q := 157) X dX11_talks_18 fl_X11_90 sx_0 rfl <|
z_callvI X dX11_talks_21 q_1351 wX4_firstUnbegun sx_157 rfl (by decide) [] [] rfl rfl (Nat.le_of_ble_eq_true rfl) (fun r σ1 e => ct_X4_firstUnbegun G _ r σ1 e) o fun r7 s8 h9 o =>
z_iret X Y dX11_talks_24 o h9) fun o =>
z_aload_n X 0 dX11_talks_4 rfl <|
z_getR (q := 157) X dX11_talks_5 fl_X11_90 sx_0 rfl <|
z_callvI X dX11_talks_8 q_1347 wX4_deepest sx_157 rfl (by decide) [] [] rfl rfl (Nat.le_of_ble_eq_true rfl) (fun r σ1 e => ct_X4_deepest G _ r σ1 e) o fun r10 s11 h12 o =>
z_iret X Y dX11_talks_11 o h12 : At E s0 0 [(0, .ref (G.2.2.1 0)), (1, .int (pI p1))] [])
set_option maxHeartbeats 4000000 in
set_option maxRecDepth 100000 in
theorem ct_X7_at (p1 : Int) (hp1 : rg p1) (G : Gw) (s0 : St) (r : Int) (σ1 : St) (e : fX7_at p1 s0 = some (r, σ1)) : Ct yX7_at cX7_at 2 (some .int) 0 0 SX G [.ref (G.2.2.1 1), .int (pI p1)] s0 (QI SX G r rg σ1) :=
  Ct.of (by decide +kernel) (Nat.le_of_ble_eq_true rfl) fun E X Y => by
    have o : Ok (fX7_at p1 s0) (fun x σ' => x = r ∧ σ' = σ1) := ⟨r, σ1, e, rfl, rfl⟩
    unfold fX7_at at o
    exact (
z_iload_n X 1 dX7_at_0 rfl <|
z_if_lt (tgt := 25) X dX7_at_1 (by decide) hp1 o (fun o =>
z_iconst X dX7_at_25 <|
z_iret X Y dX7_at_26 o kc_m1) fun o =>
z_iload_n X 1 dX7_at_4 rfl <|
z_aload_n X 0 dX7_at_5 rfl <|
z_getI X dX7_at_6 fl_X7_15 sx_1 rfl o fun v1 r2 o =>
z_icmp_ge (tgt := 25) X dX7_at_9 (by decide) hp1 r2 o (fun o =>
z_iconst X dX7_at_25 <|
z_iret X Y dX7_at_26 o kc_m1) fun o =>
z_aload_n X 0 dX7_at_12 rfl <|
z_getR (q := 2) X dX7_at_13 fl_X7_9 sx_1 rfl <|
z_iload_n X 1 dX7_at_16 rfl <|
z_bald X dX7_at_17 sx_2 hp1 o fun v3 r4 o =>
z_sipush X dX7_at_18 si_255 <|
z_iand X dX7_at_21 <|
z_goto (tgt := 26) X dX7_at_22 (by decide) <|
z_iret X Y dX7_at_26 o (int_rg _) : At E s0 0 [(0, .ref (G.2.2.1 1)), (1, .int (pI p1))] [])
set_option maxHeartbeats 4000000 in
set_option maxRecDepth 100000 in
theorem ct_X8_isDigit (p1 : Int) (hp1 : rg p1) (G : Gw) (s0 : St) (r : Int) (σ1 : St) (e : fX8_isDigit p1 s0 = some (r, σ1)) : Ct yX8_isDigit cX8_isDigit 1 (some .boolean) 0 0 SX G [.int (pI p1)] s0 (QI SX G r r01 σ1) :=
  Ct.of (by decide +kernel) (Nat.le_of_ble_eq_true rfl) fun E X Y => by
    have o : Ok (fX8_isDigit p1 s0) (fun x σ' => x = r ∧ σ' = σ1) := ⟨r, σ1, e, rfl, rfl⟩
    unfold fX8_isDigit at o
    exact (
z_iload_n X 0 dX8_isDigit_0 rfl <|
z_bipush X dX8_isDigit_1 bi_48 <|
z_icmp_lt (tgt := 16) X dX8_isDigit_3 (by decide) hp1 kc_48 o (fun o =>
z_iconst X dX8_isDigit_16 <|
z_zret X Y dX8_isDigit_17 o kb_0 kb_0) fun o =>
z_iload_n X 0 dX8_isDigit_6 rfl <|
z_bipush X dX8_isDigit_7 bi_57 <|
z_icmp_gt (tgt := 16) X dX8_isDigit_9 (by decide) hp1 kc_57 o (fun o =>
z_iconst X dX8_isDigit_16 <|
z_zret X Y dX8_isDigit_17 o kb_0 kb_0) fun o =>
z_iconst X dX8_isDigit_12 <|
z_goto (tgt := 17) X dX8_isDigit_13 (by decide) <|
z_zret X Y dX8_isDigit_17 o kb_1 kb_1 : At E s0 0 [(0, .int (pI p1))] [])
set_option maxHeartbeats 4000000 in
set_option maxRecDepth 100000 in
theorem ct_X8_isLetter (p1 : Int) (hp1 : rg p1) (G : Gw) (s0 : St) (r : Int) (σ1 : St) (e : fX8_isLetter p1 s0 = some (r, σ1)) : Ct yX8_isLetter cX8_isLetter 1 (some .boolean) 0 0 SX G [.int (pI p1)] s0 (QI SX G r r01 σ1) :=
  Ct.of (by decide +kernel) (Nat.le_of_ble_eq_true rfl) fun E X Y => by
    have o : Ok (fX8_isLetter p1 s0) (fun x σ' => x = r ∧ σ' = σ1) := ⟨r, σ1, e, rfl, rfl⟩
    unfold fX8_isLetter at o
    exact (
z_iload_n X 0 dX8_isLetter_0 rfl <|
z_bipush X dX8_isLetter_1 bi_97 <|
z_joix o (fun (y1 : Unit) s2 => True → At E s2 12 [(0, .int (pI p1))] []) (fun y1 s2 o r3 =>
z_iload_n X 0 dX8_isLetter_12 rfl <|
z_bipush X dX8_isLetter_13 bi_65 <|
z_icmp_lt (tgt := 28) X dX8_isLetter_15 (by decide) hp1 kc_65 o (fun o =>
z_iconst X dX8_isLetter_28 <|
z_zret X Y dX8_isLetter_29 o kb_0 kb_0) fun o =>
z_iload_n X 0 dX8_isLetter_18 rfl <|
z_bipush X dX8_isLetter_19 bi_90 <|
z_icmp_gt (tgt := 28) X dX8_isLetter_21 (by decide) hp1 kc_90 o (fun o =>
z_iconst X dX8_isLetter_28 <|
z_zret X Y dX8_isLetter_29 o kb_0 kb_0) fun o =>
z_iconst X dX8_isLetter_24 <|
z_goto (tgt := 29) X dX8_isLetter_25 (by decide) <|
z_zret X Y dX8_isLetter_29 o kb_1 kb_1) fun o =>
z_icmp_lt (tgt := 12) X dX8_isLetter_3 (by decide) hp1 kc_97 o (fun o =>
ok_some o trivial) fun o =>
z_iload_n X 0 dX8_isLetter_6 rfl <|
z_bipush X dX8_isLetter_7 bi_122 <|
z_icmp_le (tgt := 24) X dX8_isLetter_9 (by decide) hp1 kc_122 o (fun o =>
z_iconst X dX8_isLetter_24 <|
z_goto (tgt := 29) X dX8_isLetter_25 (by decide) <|
z_zret X Y dX8_isLetter_29 (ok_ret (ok_some o)) kb_1 kb_1) fun o =>
ok_some o trivial : At E s0 0 [(0, .int (pI p1))] [])
set_option maxHeartbeats 4000000 in
set_option maxRecDepth 100000 in
theorem ct_X8_behind (p1 : Int) (hp1 : rg p1) (G : Gw) (s0 : St) (r : Int) (σ1 : St) (e : fX8_behind p1 s0 = some (r, σ1)) : Ct yX8_behind cX8_behind 3 (some .int) 1 21 SX G [.ref (G.2.2.1 145), .int (pI p1)] s0 (QI SX G r rg σ1) :=
  Ct.of (by decide +kernel) (Nat.le_of_ble_eq_true rfl) fun E X Y => by
    have o : Ok (fX8_behind p1 s0) (fun x σ' => x = r ∧ σ' = σ1) := ⟨r, σ1, e, rfl, rfl⟩
    unfold fX8_behind at o
    exact (
z_iload_n X 1 dX8_behind_0 rfl <|
z_iconst X dX8_behind_1 <|
z_iadd X dX8_behind_2 <|
z_istoreL_n (L1 := fun v1 => [(2, .int (pI v1)), (0, .ref (G.2.2.1 145)), (1, .int (pI p1))]) (R := rg) X dX8_behind_3 rfl (by decide) (fun _ => rfl) o (w32_rg _) fun v1 r2 o =>
z_aload_n X 1 dX8_behind_4 rfl <|
z_getR (q := 1) X dX8_behind_5 fl_X8_28 sx_145 rfl <|
z_iload_n X 2 dX8_behind_8 rfl <|
z_callvI X dX8_behind_9 q_930 wX7_at sx_1 rfl (by decide) [.int (pI p1)] [] rfl rfl (Nat.le_of_ble_eq_true rfl) (fun r σ1 e => ct_X7_at p1 hp1 G _ r σ1 e) o fun r3 s4 h5 o =>
z_callsI X dX8_behind_12 q_934 wX8_isDigit  (by decide) [.int (pI r3)] [] rfl rfl (Nat.le_of_ble_eq_true rfl) (fun r σ1 e => ct_X8_isDigit r3 h5 G _ r σ1 e) o fun r6 s7 h8 o =>
z_if_eq (tgt := 45) X dX8_behind_15 (by decide) (r01_rg h8) o (fun o =>
z_aload_n X 1 dX8_behind_45 rfl <|
z_getR (q := 1) X dX8_behind_46 fl_X8_28 sx_145 rfl <|
z_iload_n X 2 dX8_behind_49 rfl <|
z_callvI X dX8_behind_50 q_930 wX7_at sx_1 rfl (by decide) [.int (pI p1)] [] rfl rfl (Nat.le_of_ble_eq_true rfl) (fun r σ1 e => ct_X7_at p1 hp1 G _ r σ1 e) o fun r9 s10 h11 o =>
z_callsI X dX8_behind_53 q_937 wX8_isLetter  (by decide) [.int (pI r9)] [] rfl rfl (Nat.le_of_ble_eq_true rfl) (fun r σ1 e => ct_X8_isLetter r9 h11 G _ r σ1 e) o fun r12 s13 h14 o =>
z_if_eq (tgt := 86) X dX8_behind_56 (by decide) (r01_rg h14) o (fun o =>
z_iload_n X 0 dX8_behind_86 rfl <|
z_iret X Y dX8_behind_87 o r2) fun o =>
z_join o (fun (y24 : Int) s25 => rg y24 → At E s25 86 [(2, .int (pI y24))] []) (fun y24 s25 o r26 =>
z_iload_n X 0 dX8_behind_86 rfl <|
z_iret X Y dX8_behind_87 o r26) fun o =>
z_sub (L1 := [(0, .ref (G.2.2.1 145)), (2, .int (pI v1))]) X [1, 0] rfl <|
z_iter (fun (x15 : Int) s16 => rg x15 → At E s16 59 [(0, .ref (G.2.2.1 145)), (2, .int (pI x15))] []) o (fun x15 s16 o r17 =>
z_iload_n X 1 dX8_behind_59 rfl <|
z_sipush X dX8_behind_60 si_400 <|
z_icmp_ge (tgt := 86) X dX8_behind_63 (by decide) r17 kc_400 o (fun o =>
z_sub (L1 := [(2, .int (pI x15))]) X [1] rfl <|
ok_some o r17) fun o =>
z_aload_n X 0 dX8_behind_66 rfl <|
z_getR (q := 1) X dX8_behind_67 fl_X8_28 sx_145 rfl <|
z_iload_n X 1 dX8_behind_70 rfl <|
z_callvI X dX8_behind_71 q_930 wX7_at sx_1 rfl (by decide) [.int (pI x15)] [] rfl rfl (Nat.le_of_ble_eq_true rfl) (fun r σ1 e => ct_X7_at x15 r17 G _ r σ1 e) o fun r18 s19 h20 o =>
z_callsI X dX8_behind_74 q_937 wX8_isLetter  (by decide) [.int (pI r18)] [] rfl rfl (Nat.le_of_ble_eq_true rfl) (fun r σ1 e => ct_X8_isLetter r18 h20 G _ r σ1 e) o fun r21 s22 h23 o =>
z_if_eq (tgt := 86) X dX8_behind_77 (by decide) (r01_rg h23) o (fun o =>
z_sub (L1 := [(2, .int (pI x15))]) X [1] rfl <|
ok_some o r17) fun o =>
z_iinc (L1 := [(2, .int (pI (w32 (x15 + 1)))), (0, .ref (G.2.2.1 145))]) X 1 dX8_behind_80 rfl (by decide) rfl <|
z_goto (tgt := 59) X dX8_behind_83 (by decide) <|
z_sub (L1 := [(0, .ref (G.2.2.1 145)), (2, .int (pI (w32 (x15 + 1))))]) X [1, 0] rfl <|
ok_some o (w32_rg _)) r2) fun o =>
z_join o (fun (y36 : Int) s37 => rg y36 → At E s37 86 [(2, .int (pI y36))] []) (fun y36 s37 o r38 =>
z_iload_n X 0 dX8_behind_86 rfl <|
z_iret X Y dX8_behind_87 o r38) fun o =>
z_sub (L1 := [(0, .ref (G.2.2.1 145)), (2, .int (pI v1))]) X [1, 0] rfl <|
z_iter (fun (x27 : Int) s28 => rg x27 → At E s28 18 [(0, .ref (G.2.2.1 145)), (2, .int (pI x27))] []) o (fun x27 s28 o r29 =>
z_iload_n X 1 dX8_behind_18 rfl <|
z_sipush X dX8_behind_19 si_400 <|
z_icmp_ge (tgt := 86) X dX8_behind_22 (by decide) r29 kc_400 o (fun o =>
z_sub (L1 := [(2, .int (pI x27))]) X [1] rfl <|
ok_some o r29) fun o =>
z_aload_n X 0 dX8_behind_25 rfl <|
z_getR (q := 1) X dX8_behind_26 fl_X8_28 sx_145 rfl <|
z_iload_n X 1 dX8_behind_29 rfl <|
z_callvI X dX8_behind_30 q_930 wX7_at sx_1 rfl (by decide) [.int (pI x27)] [] rfl rfl (Nat.le_of_ble_eq_true rfl) (fun r σ1 e => ct_X7_at x27 r29 G _ r σ1 e) o fun r30 s31 h32 o =>
z_callsI X dX8_behind_33 q_934 wX8_isDigit  (by decide) [.int (pI r30)] [] rfl rfl (Nat.le_of_ble_eq_true rfl) (fun r σ1 e => ct_X8_isDigit r30 h32 G _ r σ1 e) o fun r33 s34 h35 o =>
z_if_eq (tgt := 86) X dX8_behind_36 (by decide) (r01_rg h35) o (fun o =>
z_sub (L1 := [(2, .int (pI x27))]) X [1] rfl <|
ok_some o r29) fun o =>
z_iinc (L1 := [(2, .int (pI (w32 (x27 + 1)))), (0, .ref (G.2.2.1 145))]) X 1 dX8_behind_39 rfl (by decide) rfl <|
z_goto (tgt := 18) X dX8_behind_42 (by decide) <|
z_sub (L1 := [(0, .ref (G.2.2.1 145)), (2, .int (pI (w32 (x27 + 1))))]) X [1, 0] rfl <|
ok_some o (w32_rg _)) r2 : At E s0 0 [(0, .ref (G.2.2.1 145)), (1, .int (pI p1))] [])
set_option maxHeartbeats 4000000 in
set_option maxRecDepth 100000 in
theorem ct_X8_isBlank (p1 : Int) (hp1 : rg p1) (G : Gw) (s0 : St) (r : Int) (σ1 : St) (e : fX8_isBlank p1 s0 = some (r, σ1)) : Ct yX8_isBlank cX8_isBlank 1 (some .boolean) 0 0 SX G [.int (pI p1)] s0 (QI SX G r r01 σ1) :=
  Ct.of (by decide +kernel) (Nat.le_of_ble_eq_true rfl) fun E X Y => by
    have o : Ok (fX8_isBlank p1 s0) (fun x σ' => x = r ∧ σ' = σ1) := ⟨r, σ1, e, rfl, rfl⟩
    unfold fX8_isBlank at o
    exact (
z_iload_n X 0 dX8_isBlank_0 rfl <|
z_bipush X dX8_isBlank_1 bi_32 <|
z_icmp_eq (tgt := 12) X dX8_isBlank_3 (by decide) hp1 kc_32 o (fun o =>
z_iconst X dX8_isBlank_12 <|
z_goto (tgt := 17) X dX8_isBlank_13 (by decide) <|
z_zret X Y dX8_isBlank_17 o kb_1 kb_1) fun o =>
z_iload_n X 0 dX8_isBlank_6 rfl <|
z_bipush X dX8_isBlank_7 bi_10 <|
z_icmp_ne (tgt := 16) X dX8_isBlank_9 (by decide) hp1 kc_10 o (fun o =>
z_iconst X dX8_isBlank_16 <|
z_zret X Y dX8_isBlank_17 o kb_0 kb_0) fun o =>
z_iconst X dX8_isBlank_12 <|
z_goto (tgt := 17) X dX8_isBlank_13 (by decide) <|
z_zret X Y dX8_isBlank_17 o kb_1 kb_1 : At E s0 0 [(0, .int (pI p1))] [])
set_option maxHeartbeats 4000000 in
set_option maxRecDepth 100000 in
theorem ct_J0_coder_7d493 (S : List Kd) (w : Nat) (hw : w < 28) (G : Gw) (s0 : St) (r : Int) (σ1 : St) (e : fJ0_coder_7d493 w s0 = some (r, σ1)) : Ct yJ0_coder_7d493 cJ0_coder_7d493 1 (some .byte) 0 0 S G [.ref (G.2.2.2.1 w)] s0 (QI S G r rg σ1) :=
  Ct.of (by decide +kernel) (Nat.le_of_ble_eq_true rfl) fun E X Y => by
    have o : Ok (fJ0_coder_7d493 w s0) (fun x σ' => x = r ∧ σ' = σ1) := ⟨r, σ1, e, rfl, rfl⟩
    unfold fJ0_coder_7d493 at o
    exact (
z_getsC X dJ0_coder_7d493_0 q_964 <|
z_if_eq (tgt := 13) X dJ0_coder_7d493_3 (by decide) kc_1 o (fun o =>
z_iconst X dJ0_coder_7d493_13 <|
z_btret X Y dJ0_coder_7d493_14 o kc_1 (by decide)) fun o =>
z_aload_n X 0 dJ0_coder_7d493_6 rfl <|
z_scod X dJ0_coder_7d493_7 q_2376 hw <|
z_goto (tgt := 14) X dJ0_coder_7d493_10 (by decide) <|
z_btret X Y dJ0_coder_7d493_14 o kc_0 (by decide) : At E s0 0 [(0, .ref (G.2.2.2.1 w))] [])
set_option maxHeartbeats 4000000 in
set_option maxRecDepth 100000 in
theorem ct_J0_length_8abf5 (S : List Kd) (w : Nat) (hw : w < 28) (G : Gw) (s0 : St) (r : Int) (σ1 : St) (e : fJ0_length_8abf5 w s0 = some (r, σ1)) : Ct yJ0_length_8abf5 cJ0_length_8abf5 1 (some .int) 1 20 S G [.ref (G.2.2.2.1 w)] s0 (QI S G r rg σ1) :=
  Ct.of (by decide +kernel) (Nat.le_of_ble_eq_true rfl) fun E X Y => by
    have o : Ok (fJ0_length_8abf5 w s0) (fun x σ' => x = r ∧ σ' = σ1) := ⟨r, σ1, e, rfl, rfl⟩
    unfold fJ0_length_8abf5 at o
    exact (
z_aload_n X 0 dJ0_length_8abf5_0 rfl <|
z_sval X dJ0_length_8abf5_1 q_2375 hw <|
z_slen X dJ0_length_8abf5_4 hw <|
z_aload_n X 0 dJ0_length_8abf5_5 rfl <|
z_callsv X dJ0_length_8abf5_6 q_960 wJ0_coder_7d493 hw rfl (by decide) [] [.int (pI (strL.getD w 0 : Int))] rfl rfl (Nat.le_of_ble_eq_true rfl) (fun r σ1 e => ct_J0_coder_7d493 S w hw G _ r σ1 e) o fun r1 s2 h3 o =>
z_ishr X dJ0_length_8abf5_9 <|
z_iret X Y dJ0_length_8abf5_10 o (int_rg _) : At E s0 0 [(0, .ref (G.2.2.2.1 w))] [])
set_option maxHeartbeats 4000000 in
set_option maxRecDepth 100000 in
theorem ct_J0_isLatin1_aae02 (S : List Kd) (w : Nat) (hw : w < 28) (G : Gw) (s0 : St) (r : Int) (σ1 : St) (e : fJ0_isLatin1_aae02 w s0 = some (r, σ1)) : Ct yJ0_isLatin1_aae02 cJ0_isLatin1_aae02 1 (some .boolean) 0 0 S G [.ref (G.2.2.2.1 w)] s0 (QI S G r r01 σ1) :=
  Ct.of (by decide +kernel) (Nat.le_of_ble_eq_true rfl) fun E X Y => by
    have o : Ok (fJ0_isLatin1_aae02 w s0) (fun x σ' => x = r ∧ σ' = σ1) := ⟨r, σ1, e, rfl, rfl⟩
    unfold fJ0_isLatin1_aae02 at o
    exact (
z_getsC X dJ0_isLatin1_aae02_0 q_964 <|
z_if_eq (tgt := 17) X dJ0_isLatin1_aae02_3 (by decide) kc_1 o (fun o =>
z_iconst X dJ0_isLatin1_aae02_17 <|
z_zret X Y dJ0_isLatin1_aae02_18 o kb_0 kb_0) fun o =>
z_aload_n X 0 dJ0_isLatin1_aae02_6 rfl <|
z_scod X dJ0_isLatin1_aae02_7 q_2376 hw <|
z_if_ne (tgt := 17) X dJ0_isLatin1_aae02_10 (by decide) kc_0 o (fun o =>
z_iconst X dJ0_isLatin1_aae02_17 <|
z_zret X Y dJ0_isLatin1_aae02_18 o kb_0 kb_0) fun o =>
z_iconst X dJ0_isLatin1_aae02_13 <|
z_goto (tgt := 18) X dJ0_isLatin1_aae02_14 (by decide) <|
z_zret X Y dJ0_isLatin1_aae02_18 o kb_1 kb_1 : At E s0 0 [(0, .ref (G.2.2.2.1 w))] [])
set_option maxHeartbeats 4000000 in
set_option maxRecDepth 100000 in
theorem ct_J3_checkIndex_8e157 (S : List Kd) (p1 : Int) (p2 : Int) (hp1 : rg p1) (hp2 : rg p2) (v : Value) (hv : v.category = 1) (G : Gw) (s0 : St) (r : Int) (σ1 : St) (e : fJ3_checkIndex_8e157 p1 p2 s0 = some (r, σ1)) : Ct yJ3_checkIndex_8e157 cJ3_checkIndex_8e157 3 (some .int) 0 0 S G [.int (pI p1), .int (pI p2), v] s0 (QI S G r rg σ1) :=
  Ct.of (by decide +kernel) (by cases v <;> simp [lg_sl, Value.category] at hv ⊢) fun E X Y => by
    have o : Ok (fJ3_checkIndex_8e157 p1 p2 s0) (fun x σ' => x = r ∧ σ' = σ1) := ⟨r, σ1, e, rfl, rfl⟩
    unfold fJ3_checkIndex_8e157 at o
    exact (
z_iload_n X 0 dJ3_checkIndex_8e157_0 rfl <|
z_joix o (fun (y1 : Unit) s2 => True → At E s2 9 [(0, .int (pI p1)), (1, .int (pI p2)), (2, v)] []) (fun y1 s2 o r3 =>
ok_none o) fun o =>
z_if_lt (tgt := 9) X dJ3_checkIndex_8e157_1 (by decide) hp1 o (fun o =>
ok_some o trivial) fun o =>
z_iload_n X 0 dJ3_checkIndex_8e157_4 rfl <|
z_iload_n X 1 dJ3_checkIndex_8e157_5 rfl <|
z_icmp_lt (tgt := 16) X dJ3_checkIndex_8e157_6 (by decide) hp1 hp2 o (fun o =>
z_iload_n X 0 dJ3_checkIndex_8e157_16 rfl <|
z_iret X Y dJ3_checkIndex_8e157_17 (ok_ret (ok_some o)) hp1) fun o =>
ok_some o trivial : At E s0 0 [(0, .int (pI p1)), (1, .int (pI p2)), (2, v)] [])
set_option maxHeartbeats 4000000 in
set_option maxRecDepth 100000 in
theorem ct_J0_checkIndex_df160 (S : List Kd) (p1 : Int) (p2 : Int) (hp1 : rg p1) (hp2 : rg p2) (G : Gw) (s0 : St) (r : Int) (σ1 : St) (e : fJ0_checkIndex_df160 p1 p2 s0 = some (r, σ1)) : Ct yJ0_checkIndex_df160 cJ0_checkIndex_df160 2 none 1 22 S G [.int (pI p1), .int (pI p2)] s0 (QV S G σ1) :=
  Ct.of (by decide +kernel) (Nat.le_of_ble_eq_true rfl) fun E X Y => by
    have o : Ok (fJ0_checkIndex_df160 p1 p2 s0) (fun x σ' => x = r ∧ σ' = σ1) := ⟨r, σ1, e, rfl, rfl⟩
    unfold fJ0_checkIndex_df160 at o
    exact (
z_iload_n X 0 dJ0_checkIndex_df160_0 rfl <|
z_iload_n X 1 dJ0_checkIndex_df160_1 rfl <|
z_getsF X dJ0_checkIndex_df160_2 q_980 fun u1 hu2 =>
z_callsI X dJ0_checkIndex_df160_5 q_982 wJ3_checkIndex_8e157  (by decide) [.int (pI p1), .int (pI p2), u1] [] rfl rfl (Nat.le_of_ble_eq_true rfl) (fun r σ1 e => ct_J3_checkIndex_8e157 S p1 p2 hp1 hp2 u1 hu2 G _ r σ1 e) o fun r3 s4 h5 o =>
z_pop X dJ0_checkIndex_df160_8 rfl <|
z_vret (v := 0) X Y dJ0_checkIndex_df160_9 o : At E s0 0 [(0, .int (pI p1)), (1, .int (pI p2))] [])
set_option maxHeartbeats 4000000 in
set_option maxRecDepth 100000 in
theorem ct_J1_charAt_3b067 (S : List Kd) (w : Nat) (p2 : Int) (hw : w < 28) (hp2 : rg p2) (G : Gw) (s0 : St) (r : Int) (σ1 : St) (e : fJ1_charAt_3b067 w p2 s0 = some (r, σ1)) : Ct yJ1_charAt_3b067 cJ1_charAt_3b067 2 (some .char) 2 43 S G [.ref (G.2.2.2.2 w), .int (pI p2)] s0 (QI S G r rch σ1) :=
  Ct.of (by decide +kernel) (Nat.le_of_ble_eq_true rfl) fun E X Y => by
    have o : Ok (fJ1_charAt_3b067 w p2 s0) (fun x σ' => x = r ∧ σ' = σ1) := ⟨r, σ1, e, rfl, rfl⟩
    unfold fJ1_charAt_3b067 at o
    exact (
z_iload_n X 1 dJ1_charAt_3b067_0 rfl <|
z_aload_n X 0 dJ1_charAt_3b067_1 rfl <|
z_slen X dJ1_charAt_3b067_2 hw <|
z_callsV X dJ1_charAt_3b067_3 q_977 wJ0_checkIndex_df160  (by decide) [.int (pI p2), .int (pI (strL.getD w 0 : Int))] [] rfl rfl (Nat.le_of_ble_eq_true rfl) (fun r σ1 e => ct_J0_checkIndex_df160 S p2 (strL.getD w 0 : Int) hp2 (slen_rg hw) G _ r σ1 e) o fun r1 s2 o =>
z_aload_n X 0 dJ1_charAt_3b067_6 rfl <|
z_iload_n X 1 dJ1_charAt_3b067_7 rfl <|
z_sbld X dJ1_charAt_3b067_8 hw hp2 o fun v4 r5 o =>
z_sipush X dJ1_charAt_3b067_9 si_255 <|
z_iand X dJ1_charAt_3b067_12 <|
z_i2c X dJ1_charAt_3b067_13 <|
z_cret X Y dJ1_charAt_3b067_14 o (i2c_bd _) (i2c_bd _) : At E s0 0 [(0, .ref (G.2.2.2.2 w)), (1, .int (pI p2))] [])
set_option maxHeartbeats 4000000 in
set_option maxRecDepth 100000 in
theorem ct_J0_charAt_5068e (S : List Kd) (w : Nat) (p1 : Int) (hw : w < 28) (hp1 : rg p1) (G : Gw) (s0 : St) (r : Int) (σ1 : St) (e : fJ0_charAt_5068e w p1 s0 = some (r, σ1)) : Ct yJ0_charAt_5068e cJ0_charAt_5068e 2 (some .char) 3 64 S G [.ref (G.2.2.2.1 w), .int (pI p1)] s0 (QI S G r rch σ1) :=
  Ct.of (by decide +kernel) (Nat.le_of_ble_eq_true rfl) fun E X Y => by
    have o : Ok (fJ0_charAt_5068e w p1 s0) (fun x σ' => x = r ∧ σ' = σ1) := ⟨r, σ1, e, rfl, rfl⟩
    unfold fJ0_charAt_5068e at o
    exact (
z_aload_n X 0 dJ0_charAt_5068e_0 rfl <|
z_callsv X dJ0_charAt_5068e_1 q_970 wJ0_isLatin1_aae02 hw rfl (by decide) [] [] rfl rfl (Nat.le_of_ble_eq_true rfl) (fun r σ1 e => ct_J0_isLatin1_aae02 S w hw G _ r σ1 e) o fun r1 s2 h3 o =>
z_if_eq (tgt := 16) X dJ0_charAt_5068e_4 (by decide) (r01_rg h3) o (fun o =>
ok_none o) fun o =>
z_aload_n X 0 dJ0_charAt_5068e_7 rfl <|
z_sval X dJ0_charAt_5068e_8 q_2375 hw <|
z_iload_n X 1 dJ0_charAt_5068e_11 rfl <|
z_callsI X dJ0_charAt_5068e_12 q_974 wJ1_charAt_3b067  (by decide) [.ref (G.2.2.2.2 w), .int (pI p1)] [] rfl rfl (Nat.le_of_ble_eq_true rfl) (fun r σ1 e => ct_J1_charAt_3b067 S w p1 hw hp1 G _ r σ1 e) o fun r4 s5 h6 o =>
z_cret X Y dJ0_charAt_5068e_15 o h6 h6 : At E s0 0 [(0, .ref (G.2.2.2.1 w)), (1, .int (pI p1))] [])
set_option maxHeartbeats 4000000 in
set_option maxRecDepth 100000 in
theorem ct_X8_spells (p1 : Int) (p2 : Int) (w : Nat) (hp1 : rg p1) (hp2 : rg p2) (hw : w < 28) (G : Gw) (s0 : St) (r : Int) (σ1 : St) (e : fX8_spells p1 p2 w s0 = some (r, σ1)) : Ct yX8_spells cX8_spells 5 (some .boolean) 4 85 SX G [.ref (G.2.2.1 145), .int (pI p1), .int (pI p2), .ref (G.2.2.2.1 w)] s0 (QI SX G r r01 σ1) :=
  Ct.of (by decide +kernel) (Nat.le_of_ble_eq_true rfl) fun E X Y => by
    have o : Ok (fX8_spells p1 p2 w s0) (fun x σ' => x = r ∧ σ' = σ1) := ⟨r, σ1, e, rfl, rfl⟩
    unfold fX8_spells at o
    exact (
z_iload_n X 2 dX8_spells_0 rfl <|
z_iload_n X 1 dX8_spells_1 rfl <|
z_isub X dX8_spells_2 <|
z_aload_n X 3 dX8_spells_3 rfl <|
z_callsv X dX8_spells_4 q_956 wJ0_length_8abf5 hw rfl (by decide) [] [.int (pI (w32 (p2 - p1)))] rfl rfl (Nat.le_of_ble_eq_true rfl) (fun r σ1 e => ct_J0_length_8abf5 SX w hw G _ r σ1 e) o fun r1 s2 h3 o =>
z_icmp_eq (tgt := 12) X dX8_spells_7 (by decide) (w32_rg _) h3 o (fun o =>
z_iconst X dX8_spells_12 <|
z_istore (L1 := [(4, .int (pI 0)), (0, .ref (G.2.2.1 145)), (1, .int (pI p1)), (2, .int (pI p2)), (3, .ref (G.2.2.2.1 w))]) X dX8_spells_13 (by decide) rfl <|
z_joix o (fun (y16 : Unit) s17 => True → At E s17 44 [] []) (fun y16 s17 o r18 =>
z_iconst X dX8_spells_44 <|
z_zret X Y dX8_spells_45 o kb_0 kb_0) fun o =>
z_sub (L1 := [(0, .ref (G.2.2.1 145)), (1, .int (pI p1)), (3, .ref (G.2.2.2.1 w)), (4, .int (pI 0))]) X [1, 2, 4, 0] rfl <|
z_iter (fun (x4 : Int) s5 => rg x4 → At E s5 15 [(0, .ref (G.2.2.1 145)), (1, .int (pI p1)), (3, .ref (G.2.2.2.1 w)), (4, .int (pI x4))] []) o (fun x4 s5 o r6 =>
z_iload X 3 dX8_spells_15 rfl <|
z_aload_n X 2 dX8_spells_17 rfl <|
z_callsv X dX8_spells_18 q_956 wJ0_length_8abf5 hw rfl (by decide) [] [.int (pI x4)] rfl rfl (Nat.le_of_ble_eq_true rfl) (fun r σ1 e => ct_J0_length_8abf5 SX w hw G _ r σ1 e) o fun r7 s8 h9 o =>
z_icmp_ge (tgt := 52) X dX8_spells_21 (by decide) r6 h9 o (fun o =>
z_iconst X dX8_spells_52 <|
z_zret X Y dX8_spells_53 (ok_ret (ok_some o)) kb_1 kb_1) fun o =>
z_aload_n X 0 dX8_spells_24 rfl <|
z_getR (q := 1) X dX8_spells_25 fl_X8_28 sx_145 rfl <|
z_iload_n X 1 dX8_spells_28 rfl <|
z_iload X 3 dX8_spells_29 rfl <|
z_iadd X dX8_spells_31 <|
z_callvI X dX8_spells_32 q_930 wX7_at sx_1 rfl (by decide) [.int (pI (w32 (p1 + x4)))] [] rfl rfl (Nat.le_of_ble_eq_true rfl) (fun r σ1 e => ct_X7_at (w32 (p1 + x4)) (w32_rg _) G _ r σ1 e) o fun r10 s11 h12 o =>
z_aload_n X 2 dX8_spells_35 rfl <|
z_iload X 3 dX8_spells_36 rfl <|
z_callsv X dX8_spells_38 q_966 wJ0_charAt_5068e hw rfl (by decide) [.int (pI x4)] [.int (pI r10)] rfl rfl (Nat.le_of_ble_eq_true rfl) (fun r σ1 e => ct_J0_charAt_5068e SX w x4 hw r6 G _ r σ1 e) o fun r13 s14 h15 o =>
z_icmp_eq (tgt := 46) X dX8_spells_41 (by decide) h12 (rch_rg h15) o (fun o =>
z_iinc (L1 := [(4, .int (pI (w32 (x4 + 1)))), (0, .ref (G.2.2.1 145)), (1, .int (pI p1)), (3, .ref (G.2.2.2.1 w))]) X 3 dX8_spells_46 rfl (by decide) rfl <|
z_goto (tgt := 15) X dX8_spells_49 (by decide) <|
z_sub (L1 := [(0, .ref (G.2.2.1 145)), (1, .int (pI p1)), (3, .ref (G.2.2.2.1 w)), (4, .int (pI (w32 (x4 + 1))))]) X [1, 2, 3, 0] rfl <|
ok_some o (w32_rg _)) fun o =>
z_sub (L1 := []) X [] rfl <|
ok_some o trivial) kc_0) fun o =>
z_iconst X dX8_spells_10 <|
z_zret X Y dX8_spells_11 o kb_0 kb_0 : At E s0 0 [(0, .ref (G.2.2.1 145)), (1, .int (pI p1)), (2, .int (pI p2)), (3, .ref (G.2.2.2.1 w))] [])
set_option maxHeartbeats 4000000 in
set_option maxRecDepth 100000 in
theorem ct_X8_nounOf (p1 : Int) (p2 : Int) (hp1 : rg p1) (hp2 : rg p2) (G : Gw) (s0 : St) (r : Int) (σ1 : St) (e : fX8_nounOf p1 p2 s0 = some (r, σ1)) : Ct yX8_nounOf cX8_nounOf 3 (some .int) 5 109 SX G [.ref (G.2.2.1 145), .int (pI p1), .int (pI p2)] s0 (QI SX G r rg σ1) :=
  Ct.of (by decide +kernel) (Nat.le_of_ble_eq_true rfl) fun E X Y => by
    have o : Ok (fX8_nounOf p1 p2 s0) (fun x σ' => x = r ∧ σ' = σ1) := ⟨r, σ1, e, rfl, rfl⟩
    unfold fX8_nounOf at o
    exact (
z_aload_n X 0 dX8_nounOf_0 rfl <|
z_iload_n X 1 dX8_nounOf_1 rfl <|
z_iload_n X 2 dX8_nounOf_2 rfl <|
z_ldcS X rfl dX8_nounOf_3 (i := 18) rfl <|
z_callvI X dX8_nounOf_5 q_952 wX8_spells sx_145 rfl (by decide) [.int (pI p1), .int (pI p2), .ref (G.2.2.2.1 18)] [] rfl rfl (Nat.le_of_ble_eq_true rfl) (fun r σ1 e => ct_X8_spells p1 p2 18 hp1 hp2 (by decide) G _ r σ1 e) o fun r1 s2 h3 o =>
z_if_eq (tgt := 15) X dX8_nounOf_8 (by decide) (r01_rg h3) o (fun o =>
z_aload_n X 0 dX8_nounOf_15 rfl <|
z_iload_n X 1 dX8_nounOf_16 rfl <|
z_iload_n X 2 dX8_nounOf_17 rfl <|
z_ldcS X rfl dX8_nounOf_18 (i := 19) rfl <|
z_callvI X dX8_nounOf_20 q_952 wX8_spells sx_145 rfl (by decide) [.int (pI p1), .int (pI p2), .ref (G.2.2.2.1 19)] [] rfl rfl (Nat.le_of_ble_eq_true rfl) (fun r σ1 e => ct_X8_spells p1 p2 19 hp1 hp2 (by decide) G _ r σ1 e) o fun r4 s5 h6 o =>
z_if_eq (tgt := 30) X dX8_nounOf_23 (by decide) (r01_rg h6) o (fun o =>
z_aload_n X 0 dX8_nounOf_30 rfl <|
z_iload_n X 1 dX8_nounOf_31 rfl <|
z_iload_n X 2 dX8_nounOf_32 rfl <|
z_ldcS X rfl dX8_nounOf_33 (i := 20) rfl <|
z_callvI X dX8_nounOf_35 q_952 wX8_spells sx_145 rfl (by decide) [.int (pI p1), .int (pI p2), .ref (G.2.2.2.1 20)] [] rfl rfl (Nat.le_of_ble_eq_true rfl) (fun r σ1 e => ct_X8_spells p1 p2 20 hp1 hp2 (by decide) G _ r σ1 e) o fun r7 s8 h9 o =>
z_if_eq (tgt := 45) X dX8_nounOf_38 (by decide) (r01_rg h9) o (fun o =>
z_aload_n X 0 dX8_nounOf_45 rfl <|
z_iload_n X 1 dX8_nounOf_46 rfl <|
z_iload_n X 2 dX8_nounOf_47 rfl <|
z_ldcS X rfl dX8_nounOf_48 (i := 21) rfl <|
z_callvI X dX8_nounOf_50 q_952 wX8_spells sx_145 rfl (by decide) [.int (pI p1), .int (pI p2), .ref (G.2.2.2.1 21)] [] rfl rfl (Nat.le_of_ble_eq_true rfl) (fun r σ1 e => ct_X8_spells p1 p2 21 hp1 hp2 (by decide) G _ r σ1 e) o fun r10 s11 h12 o =>
z_if_eq (tgt := 60) X dX8_nounOf_53 (by decide) (r01_rg h12) o (fun o =>
z_aload_n X 0 dX8_nounOf_60 rfl <|
z_iload_n X 1 dX8_nounOf_61 rfl <|
z_iload_n X 2 dX8_nounOf_62 rfl <|
z_ldcS X rfl dX8_nounOf_63 (i := 22) rfl <|
z_callvI X dX8_nounOf_65 q_952 wX8_spells sx_145 rfl (by decide) [.int (pI p1), .int (pI p2), .ref (G.2.2.2.1 22)] [] rfl rfl (Nat.le_of_ble_eq_true rfl) (fun r σ1 e => ct_X8_spells p1 p2 22 hp1 hp2 (by decide) G _ r σ1 e) o fun r13 s14 h15 o =>
z_if_eq (tgt := 75) X dX8_nounOf_68 (by decide) (r01_rg h15) o (fun o =>
z_aload_n X 0 dX8_nounOf_75 rfl <|
z_iload_n X 1 dX8_nounOf_76 rfl <|
z_iload_n X 2 dX8_nounOf_77 rfl <|
z_ldcS X rfl dX8_nounOf_78 (i := 23) rfl <|
z_callvI X dX8_nounOf_80 q_952 wX8_spells sx_145 rfl (by decide) [.int (pI p1), .int (pI p2), .ref (G.2.2.2.1 23)] [] rfl rfl (Nat.le_of_ble_eq_true rfl) (fun r σ1 e => ct_X8_spells p1 p2 23 hp1 hp2 (by decide) G _ r σ1 e) o fun r16 s17 h18 o =>
z_if_eq (tgt := 90) X dX8_nounOf_83 (by decide) (r01_rg h18) o (fun o =>
z_aload_n X 0 dX8_nounOf_90 rfl <|
z_iload_n X 1 dX8_nounOf_91 rfl <|
z_iload_n X 2 dX8_nounOf_92 rfl <|
z_ldcS X rfl dX8_nounOf_93 (i := 24) rfl <|
z_callvI X dX8_nounOf_95 q_952 wX8_spells sx_145 rfl (by decide) [.int (pI p1), .int (pI p2), .ref (G.2.2.2.1 24)] [] rfl rfl (Nat.le_of_ble_eq_true rfl) (fun r σ1 e => ct_X8_spells p1 p2 24 hp1 hp2 (by decide) G _ r σ1 e) o fun r19 s20 h21 o =>
z_if_eq (tgt := 105) X dX8_nounOf_98 (by decide) (r01_rg h21) o (fun o =>
z_aload_n X 0 dX8_nounOf_105 rfl <|
z_iload_n X 1 dX8_nounOf_106 rfl <|
z_iload_n X 2 dX8_nounOf_107 rfl <|
z_ldcS X rfl dX8_nounOf_108 (i := 25) rfl <|
z_callvI X dX8_nounOf_110 q_952 wX8_spells sx_145 rfl (by decide) [.int (pI p1), .int (pI p2), .ref (G.2.2.2.1 25)] [] rfl rfl (Nat.le_of_ble_eq_true rfl) (fun r σ1 e => ct_X8_spells p1 p2 25 hp1 hp2 (by decide) G _ r σ1 e) o fun r22 s23 h24 o =>
z_if_eq (tgt := 120) X dX8_nounOf_113 (by decide) (r01_rg h24) o (fun o =>
z_aload_n X 0 dX8_nounOf_120 rfl <|
z_iload_n X 1 dX8_nounOf_121 rfl <|
z_iload_n X 2 dX8_nounOf_122 rfl <|
z_ldcS X rfl dX8_nounOf_123 (i := 26) rfl <|
z_callvI X dX8_nounOf_125 q_952 wX8_spells sx_145 rfl (by decide) [.int (pI p1), .int (pI p2), .ref (G.2.2.2.1 26)] [] rfl rfl (Nat.le_of_ble_eq_true rfl) (fun r σ1 e => ct_X8_spells p1 p2 26 hp1 hp2 (by decide) G _ r σ1 e) o fun r25 s26 h27 o =>
z_if_eq (tgt := 135) X dX8_nounOf_128 (by decide) (r01_rg h27) o (fun o =>
z_aload_n X 0 dX8_nounOf_135 rfl <|
z_iload_n X 1 dX8_nounOf_136 rfl <|
z_iload_n X 2 dX8_nounOf_137 rfl <|
z_ldcS X rfl dX8_nounOf_138 (i := 27) rfl <|
z_callvI X dX8_nounOf_140 q_952 wX8_spells sx_145 rfl (by decide) [.int (pI p1), .int (pI p2), .ref (G.2.2.2.1 27)] [] rfl rfl (Nat.le_of_ble_eq_true rfl) (fun r σ1 e => ct_X8_spells p1 p2 27 hp1 hp2 (by decide) G _ r σ1 e) o fun r28 s29 h30 o =>
z_if_eq (tgt := 150) X dX8_nounOf_143 (by decide) (r01_rg h30) o (fun o =>
z_sipush X dX8_nounOf_150 si_258 <|
z_iret X Y dX8_nounOf_153 o kc_258) fun o =>
z_sipush X dX8_nounOf_146 si_279 <|
z_iret X Y dX8_nounOf_149 o kc_279) fun o =>
z_sipush X dX8_nounOf_131 si_278 <|
z_iret X Y dX8_nounOf_134 o kc_278) fun o =>
z_sipush X dX8_nounOf_116 si_277 <|
z_iret X Y dX8_nounOf_119 o kc_277) fun o =>
z_sipush X dX8_nounOf_101 si_276 <|
z_iret X Y dX8_nounOf_104 o kc_276) fun o =>
z_sipush X dX8_nounOf_86 si_275 <|
z_iret X Y dX8_nounOf_89 o kc_275) fun o =>
z_sipush X dX8_nounOf_71 si_274 <|
z_iret X Y dX8_nounOf_74 o kc_274) fun o =>
z_sipush X dX8_nounOf_56 si_273 <|
z_iret X Y dX8_nounOf_59 o kc_273) fun o =>
z_sipush X dX8_nounOf_41 si_272 <|
z_iret X Y dX8_nounOf_44 o kc_272) fun o =>
z_sipush X dX8_nounOf_26 si_271 <|
z_iret X Y dX8_nounOf_29 o kc_271) fun o =>
z_sipush X dX8_nounOf_11 si_270 <|
z_iret X Y dX8_nounOf_14 o kc_270 : At E s0 0 [(0, .ref (G.2.2.1 145)), (1, .int (pI p1)), (2, .int (pI p2))] [])
set_option maxHeartbeats 4000000 in
set_option maxRecDepth 100000 in
theorem ct_X8_wordOf (p1 : Int) (p2 : Int) (hp1 : rg p1) (hp2 : rg p2) (G : Gw) (s0 : St) (r : Int) (σ1 : St) (e : fX8_wordOf p1 p2 s0 = some (r, σ1)) : Ct yX8_wordOf cX8_wordOf 3 (some .int) 6 131 SX G [.ref (G.2.2.1 145), .int (pI p1), .int (pI p2)] s0 (QI SX G r rg σ1) :=
  Ct.of (by decide +kernel) (Nat.le_of_ble_eq_true rfl) fun E X Y => by
    have o : Ok (fX8_wordOf p1 p2 s0) (fun x σ' => x = r ∧ σ' = σ1) := ⟨r, σ1, e, rfl, rfl⟩
    unfold fX8_wordOf at o
    exact (
z_aload_n X 0 dX8_wordOf_0 rfl <|
z_iload_n X 1 dX8_wordOf_1 rfl <|
z_iload_n X 2 dX8_wordOf_2 rfl <|
z_ldcS X rfl dX8_wordOf_3 (i := 0) rfl <|
z_callvI X dX8_wordOf_5 q_952 wX8_spells sx_145 rfl (by decide) [.int (pI p1), .int (pI p2), .ref (G.2.2.2.1 0)] [] rfl rfl (Nat.le_of_ble_eq_true rfl) (fun r σ1 e => ct_X8_spells p1 p2 0 hp1 hp2 (by decide) G _ r σ1 e) o fun r1 s2 h3 o =>
z_if_eq (tgt := 15) X dX8_wordOf_8 (by decide) (r01_rg h3) o (fun o =>
z_aload_n X 0 dX8_wordOf_15 rfl <|
z_iload_n X 1 dX8_wordOf_16 rfl <|
z_iload_n X 2 dX8_wordOf_17 rfl <|
z_ldcS X rfl dX8_wordOf_18 (i := 1) rfl <|
z_callvI X dX8_wordOf_20 q_952 wX8_spells sx_145 rfl (by decide) [.int (pI p1), .int (pI p2), .ref (G.2.2.2.1 1)] [] rfl rfl (Nat.le_of_ble_eq_true rfl) (fun r σ1 e => ct_X8_spells p1 p2 1 hp1 hp2 (by decide) G _ r σ1 e) o fun r4 s5 h6 o =>
z_if_eq (tgt := 30) X dX8_wordOf_23 (by decide) (r01_rg h6) o (fun o =>
z_aload_n X 0 dX8_wordOf_30 rfl <|
z_iload_n X 1 dX8_wordOf_31 rfl <|
z_iload_n X 2 dX8_wordOf_32 rfl <|
z_ldcS X rfl dX8_wordOf_33 (i := 2) rfl <|
z_callvI X dX8_wordOf_35 q_952 wX8_spells sx_145 rfl (by decide) [.int (pI p1), .int (pI p2), .ref (G.2.2.2.1 2)] [] rfl rfl (Nat.le_of_ble_eq_true rfl) (fun r σ1 e => ct_X8_spells p1 p2 2 hp1 hp2 (by decide) G _ r σ1 e) o fun r7 s8 h9 o =>
z_if_eq (tgt := 45) X dX8_wordOf_38 (by decide) (r01_rg h9) o (fun o =>
z_aload_n X 0 dX8_wordOf_45 rfl <|
z_iload_n X 1 dX8_wordOf_46 rfl <|
z_iload_n X 2 dX8_wordOf_47 rfl <|
z_ldcS X rfl dX8_wordOf_48 (i := 3) rfl <|
z_callvI X dX8_wordOf_50 q_952 wX8_spells sx_145 rfl (by decide) [.int (pI p1), .int (pI p2), .ref (G.2.2.2.1 3)] [] rfl rfl (Nat.le_of_ble_eq_true rfl) (fun r σ1 e => ct_X8_spells p1 p2 3 hp1 hp2 (by decide) G _ r σ1 e) o fun r10 s11 h12 o =>
z_if_eq (tgt := 60) X dX8_wordOf_53 (by decide) (r01_rg h12) o (fun o =>
z_aload_n X 0 dX8_wordOf_60 rfl <|
z_iload_n X 1 dX8_wordOf_61 rfl <|
z_iload_n X 2 dX8_wordOf_62 rfl <|
z_ldcS X rfl dX8_wordOf_63 (i := 4) rfl <|
z_callvI X dX8_wordOf_65 q_952 wX8_spells sx_145 rfl (by decide) [.int (pI p1), .int (pI p2), .ref (G.2.2.2.1 4)] [] rfl rfl (Nat.le_of_ble_eq_true rfl) (fun r σ1 e => ct_X8_spells p1 p2 4 hp1 hp2 (by decide) G _ r σ1 e) o fun r13 s14 h15 o =>
z_if_eq (tgt := 75) X dX8_wordOf_68 (by decide) (r01_rg h15) o (fun o =>
z_aload_n X 0 dX8_wordOf_75 rfl <|
z_iload_n X 1 dX8_wordOf_76 rfl <|
z_iload_n X 2 dX8_wordOf_77 rfl <|
z_ldcS X rfl dX8_wordOf_78 (i := 5) rfl <|
z_callvI X dX8_wordOf_80 q_952 wX8_spells sx_145 rfl (by decide) [.int (pI p1), .int (pI p2), .ref (G.2.2.2.1 5)] [] rfl rfl (Nat.le_of_ble_eq_true rfl) (fun r σ1 e => ct_X8_spells p1 p2 5 hp1 hp2 (by decide) G _ r σ1 e) o fun r16 s17 h18 o =>
z_if_eq (tgt := 90) X dX8_wordOf_83 (by decide) (r01_rg h18) o (fun o =>
z_aload_n X 0 dX8_wordOf_90 rfl <|
z_iload_n X 1 dX8_wordOf_91 rfl <|
z_iload_n X 2 dX8_wordOf_92 rfl <|
z_ldcS X rfl dX8_wordOf_93 (i := 6) rfl <|
z_callvI X dX8_wordOf_95 q_952 wX8_spells sx_145 rfl (by decide) [.int (pI p1), .int (pI p2), .ref (G.2.2.2.1 6)] [] rfl rfl (Nat.le_of_ble_eq_true rfl) (fun r σ1 e => ct_X8_spells p1 p2 6 hp1 hp2 (by decide) G _ r σ1 e) o fun r19 s20 h21 o =>
z_if_eq (tgt := 105) X dX8_wordOf_98 (by decide) (r01_rg h21) o (fun o =>
z_aload_n X 0 dX8_wordOf_105 rfl <|
z_iload_n X 1 dX8_wordOf_106 rfl <|
z_iload_n X 2 dX8_wordOf_107 rfl <|
z_ldcS X rfl dX8_wordOf_108 (i := 7) rfl <|
z_callvI X dX8_wordOf_110 q_952 wX8_spells sx_145 rfl (by decide) [.int (pI p1), .int (pI p2), .ref (G.2.2.2.1 7)] [] rfl rfl (Nat.le_of_ble_eq_true rfl) (fun r σ1 e => ct_X8_spells p1 p2 7 hp1 hp2 (by decide) G _ r σ1 e) o fun r22 s23 h24 o =>
z_if_eq (tgt := 120) X dX8_wordOf_113 (by decide) (r01_rg h24) o (fun o =>
z_aload_n X 0 dX8_wordOf_120 rfl <|
z_iload_n X 1 dX8_wordOf_121 rfl <|
z_iload_n X 2 dX8_wordOf_122 rfl <|
z_ldcS X rfl dX8_wordOf_123 (i := 8) rfl <|
z_callvI X dX8_wordOf_125 q_952 wX8_spells sx_145 rfl (by decide) [.int (pI p1), .int (pI p2), .ref (G.2.2.2.1 8)] [] rfl rfl (Nat.le_of_ble_eq_true rfl) (fun r σ1 e => ct_X8_spells p1 p2 8 hp1 hp2 (by decide) G _ r σ1 e) o fun r25 s26 h27 o =>
z_if_eq (tgt := 135) X dX8_wordOf_128 (by decide) (r01_rg h27) o (fun o =>
z_aload_n X 0 dX8_wordOf_135 rfl <|
z_iload_n X 1 dX8_wordOf_136 rfl <|
z_iload_n X 2 dX8_wordOf_137 rfl <|
z_ldcS X rfl dX8_wordOf_138 (i := 9) rfl <|
z_callvI X dX8_wordOf_140 q_952 wX8_spells sx_145 rfl (by decide) [.int (pI p1), .int (pI p2), .ref (G.2.2.2.1 9)] [] rfl rfl (Nat.le_of_ble_eq_true rfl) (fun r σ1 e => ct_X8_spells p1 p2 9 hp1 hp2 (by decide) G _ r σ1 e) o fun r28 s29 h30 o =>
z_if_eq (tgt := 150) X dX8_wordOf_143 (by decide) (r01_rg h30) o (fun o =>
z_aload_n X 0 dX8_wordOf_150 rfl <|
z_iload_n X 1 dX8_wordOf_151 rfl <|
z_iload_n X 2 dX8_wordOf_152 rfl <|
z_ldcS X rfl dX8_wordOf_153 (i := 10) rfl <|
z_callvI X dX8_wordOf_155 q_952 wX8_spells sx_145 rfl (by decide) [.int (pI p1), .int (pI p2), .ref (G.2.2.2.1 10)] [] rfl rfl (Nat.le_of_ble_eq_true rfl) (fun r σ1 e => ct_X8_spells p1 p2 10 hp1 hp2 (by decide) G _ r σ1 e) o fun r31 s32 h33 o =>
z_if_eq (tgt := 165) X dX8_wordOf_158 (by decide) (r01_rg h33) o (fun o =>
z_aload_n X 0 dX8_wordOf_165 rfl <|
z_iload_n X 1 dX8_wordOf_166 rfl <|
z_iload_n X 2 dX8_wordOf_167 rfl <|
z_ldcS X rfl dX8_wordOf_168 (i := 11) rfl <|
z_callvI X dX8_wordOf_170 q_952 wX8_spells sx_145 rfl (by decide) [.int (pI p1), .int (pI p2), .ref (G.2.2.2.1 11)] [] rfl rfl (Nat.le_of_ble_eq_true rfl) (fun r σ1 e => ct_X8_spells p1 p2 11 hp1 hp2 (by decide) G _ r σ1 e) o fun r34 s35 h36 o =>
z_if_eq (tgt := 180) X dX8_wordOf_173 (by decide) (r01_rg h36) o (fun o =>
z_aload_n X 0 dX8_wordOf_180 rfl <|
z_iload_n X 1 dX8_wordOf_181 rfl <|
z_iload_n X 2 dX8_wordOf_182 rfl <|
z_ldcS X rfl dX8_wordOf_183 (i := 12) rfl <|
z_callvI X dX8_wordOf_185 q_952 wX8_spells sx_145 rfl (by decide) [.int (pI p1), .int (pI p2), .ref (G.2.2.2.1 12)] [] rfl rfl (Nat.le_of_ble_eq_true rfl) (fun r σ1 e => ct_X8_spells p1 p2 12 hp1 hp2 (by decide) G _ r σ1 e) o fun r37 s38 h39 o =>
z_if_eq (tgt := 195) X dX8_wordOf_188 (by decide) (r01_rg h39) o (fun o =>
z_aload_n X 0 dX8_wordOf_195 rfl <|
z_iload_n X 1 dX8_wordOf_196 rfl <|
z_iload_n X 2 dX8_wordOf_197 rfl <|
z_ldcS X rfl dX8_wordOf_198 (i := 13) rfl <|
z_callvI X dX8_wordOf_200 q_952 wX8_spells sx_145 rfl (by decide) [.int (pI p1), .int (pI p2), .ref (G.2.2.2.1 13)] [] rfl rfl (Nat.le_of_ble_eq_true rfl) (fun r σ1 e => ct_X8_spells p1 p2 13 hp1 hp2 (by decide) G _ r σ1 e) o fun r40 s41 h42 o =>
z_if_eq (tgt := 210) X dX8_wordOf_203 (by decide) (r01_rg h42) o (fun o =>
z_aload_n X 0 dX8_wordOf_210 rfl <|
z_iload_n X 1 dX8_wordOf_211 rfl <|
z_iload_n X 2 dX8_wordOf_212 rfl <|
z_ldcS X rfl dX8_wordOf_213 (i := 14) rfl <|
z_callvI X dX8_wordOf_215 q_952 wX8_spells sx_145 rfl (by decide) [.int (pI p1), .int (pI p2), .ref (G.2.2.2.1 14)] [] rfl rfl (Nat.le_of_ble_eq_true rfl) (fun r σ1 e => ct_X8_spells p1 p2 14 hp1 hp2 (by decide) G _ r σ1 e) o fun r43 s44 h45 o =>
z_if_eq (tgt := 225) X dX8_wordOf_218 (by decide) (r01_rg h45) o (fun o =>
z_aload_n X 0 dX8_wordOf_225 rfl <|
z_iload_n X 1 dX8_wordOf_226 rfl <|
z_iload_n X 2 dX8_wordOf_227 rfl <|
z_ldcS X rfl dX8_wordOf_228 (i := 15) rfl <|
z_callvI X dX8_wordOf_230 q_952 wX8_spells sx_145 rfl (by decide) [.int (pI p1), .int (pI p2), .ref (G.2.2.2.1 15)] [] rfl rfl (Nat.le_of_ble_eq_true rfl) (fun r σ1 e => ct_X8_spells p1 p2 15 hp1 hp2 (by decide) G _ r σ1 e) o fun r46 s47 h48 o =>
z_if_eq (tgt := 240) X dX8_wordOf_233 (by decide) (r01_rg h48) o (fun o =>
z_aload_n X 0 dX8_wordOf_240 rfl <|
z_iload_n X 1 dX8_wordOf_241 rfl <|
z_iload_n X 2 dX8_wordOf_242 rfl <|
z_ldcS X rfl dX8_wordOf_243 (i := 16) rfl <|
z_callvI X dX8_wordOf_245 q_952 wX8_spells sx_145 rfl (by decide) [.int (pI p1), .int (pI p2), .ref (G.2.2.2.1 16)] [] rfl rfl (Nat.le_of_ble_eq_true rfl) (fun r σ1 e => ct_X8_spells p1 p2 16 hp1 hp2 (by decide) G _ r σ1 e) o fun r49 s50 h51 o =>
z_if_eq (tgt := 255) X dX8_wordOf_248 (by decide) (r01_rg h51) o (fun o =>
z_aload_n X 0 dX8_wordOf_255 rfl <|
z_iload_n X 1 dX8_wordOf_256 rfl <|
z_iload_n X 2 dX8_wordOf_257 rfl <|
z_ldcS X rfl dX8_wordOf_258 (i := 17) rfl <|
z_callvI X dX8_wordOf_260 q_952 wX8_spells sx_145 rfl (by decide) [.int (pI p1), .int (pI p2), .ref (G.2.2.2.1 17)] [] rfl rfl (Nat.le_of_ble_eq_true rfl) (fun r σ1 e => ct_X8_spells p1 p2 17 hp1 hp2 (by decide) G _ r σ1 e) o fun r52 s53 h54 o =>
z_if_eq (tgt := 270) X dX8_wordOf_263 (by decide) (r01_rg h54) o (fun o =>
z_aload_n X 0 dX8_wordOf_270 rfl <|
z_iload_n X 1 dX8_wordOf_271 rfl <|
z_iload_n X 2 dX8_wordOf_272 rfl <|
z_callvI X dX8_wordOf_273 q_1021 wX8_nounOf sx_145 rfl (by decide) [.int (pI p1), .int (pI p2)] [] rfl rfl (Nat.le_of_ble_eq_true rfl) (fun r σ1 e => ct_X8_nounOf p1 p2 hp1 hp2 G _ r σ1 e) o fun r55 s56 h57 o =>
z_iret X Y dX8_wordOf_276 o h57) fun o =>
z_sipush X dX8_wordOf_266 si_290 <|
z_iret X Y dX8_wordOf_269 o kc_290) fun o =>
z_sipush X dX8_wordOf_251 si_289 <|
z_iret X Y dX8_wordOf_254 o kc_289) fun o =>
z_sipush X dX8_wordOf_236 si_288 <|
z_iret X Y dX8_wordOf_239 o kc_288) fun o =>
z_sipush X dX8_wordOf_221 si_287 <|
z_iret X Y dX8_wordOf_224 o kc_287) fun o =>
z_sipush X dX8_wordOf_206 si_286 <|
z_iret X Y dX8_wordOf_209 o kc_286) fun o =>
z_sipush X dX8_wordOf_191 si_285 <|
z_iret X Y dX8_wordOf_194 o kc_285) fun o =>
z_sipush X dX8_wordOf_176 si_284 <|
z_iret X Y dX8_wordOf_179 o kc_284) fun o =>
z_sipush X dX8_wordOf_161 si_283 <|
z_iret X Y dX8_wordOf_164 o kc_283) fun o =>
z_sipush X dX8_wordOf_146 si_282 <|
z_iret X Y dX8_wordOf_149 o kc_282) fun o =>
z_sipush X dX8_wordOf_131 si_281 <|
z_iret X Y dX8_wordOf_134 o kc_281) fun o =>
z_sipush X dX8_wordOf_116 si_280 <|
z_iret X Y dX8_wordOf_119 o kc_280) fun o =>
z_sipush X dX8_wordOf_101 si_266 <|
z_iret X Y dX8_wordOf_104 o kc_266) fun o =>
z_sipush X dX8_wordOf_86 si_265 <|
z_iret X Y dX8_wordOf_89 o kc_265) fun o =>
z_sipush X dX8_wordOf_71 si_264 <|
z_iret X Y dX8_wordOf_74 o kc_264) fun o =>
z_sipush X dX8_wordOf_56 si_263 <|
z_iret X Y dX8_wordOf_59 o kc_263) fun o =>
z_sipush X dX8_wordOf_41 si_262 <|
z_iret X Y dX8_wordOf_44 o kc_262) fun o =>
z_sipush X dX8_wordOf_26 si_261 <|
z_iret X Y dX8_wordOf_29 o kc_261) fun o =>
z_sipush X dX8_wordOf_11 si_260 <|
z_iret X Y dX8_wordOf_14 o kc_260 : At E s0 0 [(0, .ref (G.2.2.1 145)), (1, .int (pI p1)), (2, .int (pI p2))] [])
set_option maxHeartbeats 4000000 in
set_option maxRecDepth 100000 in
theorem ct_X8_note (p1 : Int) (p2 : Int) (hp1 : rg p1) (hp2 : rg p2) (G : Gw) (s0 : St) (r : Int) (σ1 : St) (e : fX8_note p1 p2 s0 = some (r, σ1)) : Ct yX8_note cX8_note 6 none 7 153 SX G [.ref (G.2.2.1 145), .int (pI p1), .int (pI p2)] s0 (QV SX G σ1) :=
  Ct.of (by decide +kernel) (Nat.le_of_ble_eq_true rfl) fun E X Y => by
    have o : Ok (fX8_note p1 p2 s0) (fun x σ' => x = r ∧ σ' = σ1) := ⟨r, σ1, e, rfl, rfl⟩
    unfold fX8_note at o
    exact (
z_aload_n X 0 dX8_note_0 rfl <|
z_getI X dX8_note_1 fl_X8_21 sx_145 rfl o fun v1 r2 o =>
z_sipush X dX8_note_4 si_400 <|
z_icmp_lt (tgt := 11) X dX8_note_7 (by decide) r2 kc_400 o (fun o =>
z_aload_n X 0 dX8_note_11 rfl <|
z_getR (q := 1) X dX8_note_12 fl_X8_28 sx_145 rfl <|
z_iload_n X 1 dX8_note_15 rfl <|
z_callvI X dX8_note_16 q_930 wX7_at sx_1 rfl (by decide) [.int (pI p1)] [] rfl rfl (Nat.le_of_ble_eq_true rfl) (fun r σ1 e => ct_X7_at p1 hp1 G _ r σ1 e) o fun r3 s4 h5 o =>
z_istore_n (L1 := [(3, .int (pI r3)), (0, .ref (G.2.2.1 145)), (1, .int (pI p1)), (2, .int (pI p2))]) X dX8_note_19 rfl (by decide) rfl <|
z_aload_n X 1 dX8_note_20 rfl <|
z_getR (q := 146) X dX8_note_21 fl_X8_9 sx_145 rfl <|
z_aload_n X 1 dX8_note_24 rfl <|
z_getI X dX8_note_25 fl_X8_21 sx_145 rfl o fun v6 r7 o =>
z_iload_n X 0 dX8_note_28 rfl <|
z_iast X dX8_note_29 sx_146 r7 h5 o fun s8 o =>
z_aload_n X 1 dX8_note_30 rfl <|
z_getR (q := 147) X dX8_note_31 fl_X8_15 sx_145 rfl <|
z_aload_n X 1 dX8_note_34 rfl <|
z_getI X dX8_note_35 fl_X8_21 sx_145 rfl o fun v9 r10 o =>
z_iconst X dX8_note_38 <|
z_iast X dX8_note_39 sx_147 r10 kc_0 o fun s11 o =>
z_aload_n X 1 dX8_note_40 rfl <|
z_getR (q := 148) X dX8_note_41 fl_X8_18 sx_145 rfl <|
z_aload_n X 1 dX8_note_44 rfl <|
z_getI X dX8_note_45 fl_X8_21 sx_145 rfl o fun v12 r13 o =>
z_iload_n X 2 dX8_note_48 rfl <|
z_iast X dX8_note_49 sx_148 r13 hp1 o fun s14 o =>
z_iload_n X 0 dX8_note_50 rfl <|
z_callsI X dX8_note_51 q_937 wX8_isLetter  (by decide) [.int (pI r3)] [] rfl rfl (Nat.le_of_ble_eq_true rfl) (fun r σ1 e => ct_X8_isLetter r3 h5 G _ r σ1 e) o fun r15 s16 h17 o =>
z_join o (fun (y24 : Unit) s25 => True → At E s25 72 [(0, .ref (G.2.2.1 145)), (1, .int (pI p1)), (2, .int (pI p2)), (3, .int (pI r3))] []) (fun y24 s25 o r26 =>
z_iload_n X 3 dX8_note_72 rfl <|
z_callsI X dX8_note_73 q_934 wX8_isDigit  (by decide) [.int (pI r3)] [] rfl rfl (Nat.le_of_ble_eq_true rfl) (fun r σ1 e => ct_X8_isDigit r3 h5 G _ r σ1 e) o fun r27 s28 h29 o =>
z_if_eq (tgt := 170) X dX8_note_76 (by decide) (r01_rg h29) o (fun o =>
z_aload_n X 0 dX8_note_170 rfl <|
z_dup X dX8_note_171 rfl <|
z_getI X dX8_note_172 fl_X8_21 sx_145 rfl o fun v30 r31 o =>
z_iconst X dX8_note_175 <|
z_iadd X dX8_note_176 <|
z_putI X dX8_note_177 fl_X8_21 sx_145 ft_X8_4 rfl (w32_rg _) o fun s32 o =>
z_vret (v := 0) X Y dX8_note_180 o) fun o =>
z_iload_n X 2 dX8_note_79 rfl <|
z_iload_n X 1 dX8_note_80 rfl <|
z_isub X dX8_note_81 <|
z_iconst X dX8_note_82 <|
z_join o (fun (y33 : Int) s34 => r01 y33 → At E s34 91 [(0, .ref (G.2.2.1 145)), (1, .int (pI p1)), (2, .int (pI p2))] [.int (pI y33)]) (fun y33 s34 o r35 =>
z_istore (L1 := [(4, .int (pI y33)), (0, .ref (G.2.2.1 145)), (1, .int (pI p1)), (2, .int (pI p2))]) X dX8_note_91 (by decide) rfl <|
z_aload_n X 1 dX8_note_93 rfl <|
z_getR (q := 146) X dX8_note_94 fl_X8_9 sx_145 rfl <|
z_aload_n X 1 dX8_note_97 rfl <|
z_getI X dX8_note_98 fl_X8_21 sx_145 rfl o fun v36 r37 o =>
z_iload X 0 dX8_note_101 rfl <|
z_join o (fun (y38 : Int) s39 => rg y38 → At E s39 115 [(0, .ref (G.2.2.1 145)), (1, .int (pI p1)), (2, .int (pI p2)), (4, .int (pI y33))] [.int (pI y38), .int (pI v36), .ref (G.2.2.1 146)]) (fun y38 s39 o r40 =>
z_iast X dX8_note_115 sx_146 r37 r40 o fun s41 o =>
z_iload_n X 1 dX8_note_116 rfl <|
z_istore (L1 := [(5, .int (pI p1)), (0, .ref (G.2.2.1 145)), (1, .int (pI p1)), (2, .int (pI p2)), (4, .int (pI y33))]) X dX8_note_117 (by decide) rfl <|
z_join o (fun (y55 : Unit) s56 => True → At E s56 170 [(0, .ref (G.2.2.1 145))] []) (fun y55 s56 o r57 =>
z_aload_n X 0 dX8_note_170 rfl <|
z_dup X dX8_note_171 rfl <|
z_getI X dX8_note_172 fl_X8_21 sx_145 rfl o fun v58 r59 o =>
z_iconst X dX8_note_175 <|
z_iadd X dX8_note_176 <|
z_putI X dX8_note_177 fl_X8_21 sx_145 ft_X8_4 rfl (w32_rg _) o fun s60 o =>
z_vret (v := 0) X Y dX8_note_180 o) fun o =>
z_sub (L1 := [(0, .ref (G.2.2.1 145)), (2, .int (pI p2)), (4, .int (pI y33)), (5, .int (pI p1))]) X [1, 3, 4, 0] rfl <|
z_iter (fun (x42 : Int) s43 => rg x42 → At E s43 119 [(0, .ref (G.2.2.1 145)), (2, .int (pI p2)), (4, .int (pI y33)), (5, .int (pI x42))] []) o (fun x42 s43 o r44 =>
z_iload X 2 dX8_note_119 rfl <|
z_if_eq (tgt := 170) X dX8_note_121 (by decide) (r01_rg r35) o (fun o =>
z_sub (L1 := [(0, .ref (G.2.2.1 145))]) X [0] rfl <|
ok_some o trivial) fun o =>
z_iload X 3 dX8_note_124 rfl <|
z_iload_n X 1 dX8_note_126 rfl <|
z_icmp_ge (tgt := 170) X dX8_note_127 (by decide) r44 hp2 o (fun o =>
z_sub (L1 := [(0, .ref (G.2.2.1 145))]) X [0] rfl <|
ok_some o trivial) fun o =>
z_aload_n X 0 dX8_note_130 rfl <|
z_getR (q := 147) X dX8_note_131 fl_X8_15 sx_145 rfl <|
z_aload_n X 0 dX8_note_134 rfl <|
z_getI X dX8_note_135 fl_X8_21 sx_145 rfl o fun v45 r46 o =>
z_bipush X dX8_note_138 bi_10 <|
z_aload_n X 0 dX8_note_140 rfl <|
z_getR (q := 147) X dX8_note_141 fl_X8_15 sx_145 rfl <|
z_aload_n X 0 dX8_note_144 rfl <|
z_getI X dX8_note_145 fl_X8_21 sx_145 rfl o fun v47 r48 o =>
z_iald X dX8_note_148 sx_147 r48 o fun v49 r50 o =>
z_imul X dX8_note_149 <|
z_aload_n X 0 dX8_note_150 rfl <|
z_getR (q := 1) X dX8_note_151 fl_X8_28 sx_145 rfl <|
z_iload X 3 dX8_note_154 rfl <|
z_callvI X dX8_note_156 q_930 wX7_at sx_1 rfl (by decide) [.int (pI x42)] [.int (pI (w32 (10 * v49))), .int (pI v45), .ref (G.2.2.1 147)] rfl rfl (Nat.le_of_ble_eq_true rfl) (fun r σ1 e => ct_X7_at x42 r44 G _ r σ1 e) o fun r51 s52 h53 o =>
z_iadd X dX8_note_159 <|
z_bipush X dX8_note_160 bi_48 <|
z_isub X dX8_note_162 <|
z_iast X dX8_note_163 sx_147 r46 (w32_rg _) o fun s54 o =>
z_iinc (L1 := [(5, .int (pI (w32 (x42 + 1)))), (0, .ref (G.2.2.1 145)), (2, .int (pI p2)), (4, .int (pI y33))]) X 3 dX8_note_164 rfl (by decide) rfl <|
z_goto (tgt := 119) X dX8_note_167 (by decide) <|
z_sub (L1 := [(0, .ref (G.2.2.1 145)), (2, .int (pI p2)), (4, .int (pI y33)), (5, .int (pI (w32 (x42 + 1))))]) X [1, 2, 3, 0] rfl <|
ok_some o (w32_rg _)) hp1) fun o =>
z_if_eq (tgt := 112) X dX8_note_103 (by decide) (r01_rg r35) o (fun o =>
z_sipush X dX8_note_112 si_258 <|
z_sub (L1 := [(0, .ref (G.2.2.1 145)), (1, .int (pI p1)), (2, .int (pI p2)), (4, .int (pI y33))]) X [1, 2, 3, 0] rfl <|
ok_some o kc_258) fun o =>
z_sipush X dX8_note_106 si_257 <|
z_goto (tgt := 115) X dX8_note_109 (by decide) <|
z_sub (L1 := [(0, .ref (G.2.2.1 145)), (1, .int (pI p1)), (2, .int (pI p2)), (4, .int (pI y33))]) X [1, 2, 3, 0] rfl <|
ok_some o kc_257) fun o =>
z_icmp_gt (tgt := 90) X dX8_note_83 (by decide) (w32_rg _) kc_4 o (fun o =>
z_iconst X dX8_note_90 <|
z_sub (L1 := [(0, .ref (G.2.2.1 145)), (1, .int (pI p1)), (2, .int (pI p2))]) X [0, 1, 2] rfl <|
ok_some o kb_0) fun o =>
z_iconst X dX8_note_86 <|
z_goto (tgt := 91) X dX8_note_87 (by decide) <|
z_sub (L1 := [(0, .ref (G.2.2.1 145)), (1, .int (pI p1)), (2, .int (pI p2))]) X [0, 1, 2] rfl <|
ok_some o kb_1) fun o =>
z_if_eq (tgt := 72) X dX8_note_54 (by decide) (r01_rg h17) o (fun o =>
z_sub (L1 := [(0, .ref (G.2.2.1 145)), (1, .int (pI p1)), (2, .int (pI p2)), (3, .int (pI r3))]) X [1, 2, 3, 0] rfl <|
ok_some o trivial) fun o =>
z_aload_n X 1 dX8_note_57 rfl <|
z_getR (q := 146) X dX8_note_58 fl_X8_9 sx_145 rfl <|
z_aload_n X 1 dX8_note_61 rfl <|
z_getI X dX8_note_62 fl_X8_21 sx_145 rfl o fun v18 r19 o =>
z_aload_n X 1 dX8_note_65 rfl <|
z_iload_n X 2 dX8_note_66 rfl <|
z_iload_n X 3 dX8_note_67 rfl <|
z_callvI X dX8_note_68 q_947 wX8_wordOf sx_145 rfl (by decide) [.int (pI p1), .int (pI p2)] [.int (pI v18), .ref (G.2.2.1 146)] rfl rfl (Nat.le_of_ble_eq_true rfl) (fun r σ1 e => ct_X8_wordOf p1 p2 hp1 hp2 G _ r σ1 e) o fun r20 s21 h22 o =>
z_iast X dX8_note_71 sx_146 r19 h22 o fun s23 o =>
z_sub (L1 := [(0, .ref (G.2.2.1 145)), (1, .int (pI p1)), (2, .int (pI p2)), (3, .int (pI r3))]) X [1, 2, 3, 0] rfl <|
ok_some o trivial) fun o =>
z_vret (v := 0) X Y dX8_note_10 o : At E s0 0 [(0, .ref (G.2.2.1 145)), (1, .int (pI p1)), (2, .int (pI p2))] [])
set_option maxHeartbeats 4000000 in
set_option maxRecDepth 100000 in
theorem ct_X8_scan   (G : Gw) (s0 : St) (r : Int) (σ1 : St) (e : fX8_scan s0 = some (r, σ1)) : Ct yX8_scan cX8_scan 4 none 8 178 SX G [.ref (G.2.2.1 145)] s0 (QV SX G σ1) :=
  Ct.of (by decide +kernel) (Nat.le_of_ble_eq_true rfl) fun E X Y => by
    have o : Ok (fX8_scan s0) (fun x σ' => x = r ∧ σ' = σ1) := ⟨r, σ1, e, rfl, rfl⟩
    unfold fX8_scan at o
    exact (
z_aload_n X 0 dX8_scan_0 rfl <|
z_iconst X dX8_scan_1 <|
z_putI X dX8_scan_2 fl_X8_21 sx_145 ft_X8_4 rfl kc_0 o fun s1 o =>
z_aload_n X 0 dX8_scan_5 rfl <|
z_iconst X dX8_scan_6 <|
z_putI X dX8_scan_7 fl_X8_25 sx_145 ft_X8_5 rfl kc_0 o fun s2 o =>
z_iconst X dX8_scan_10 <|
z_istore_n (L1 := [(1, .int (pI 0)), (0, .ref (G.2.2.1 145))]) X dX8_scan_11 rfl (by decide) rfl <|
z_iconst X dX8_scan_12 <|
z_istore_n (L1 := [(2, .int (pI 0)), (1, .int (pI 0)), (0, .ref (G.2.2.1 145))]) X dX8_scan_13 rfl (by decide) rfl <|
z_join o (fun (y21 : Unit) s22 => True → At E s22 66 [(0, .ref (G.2.2.1 145))] []) (fun y21 s22 o r23 =>
z_aload_n X 0 dX8_scan_66 rfl <|
z_getR (q := 146) X dX8_scan_67 fl_X8_9 sx_145 rfl <|
z_aload_n X 0 dX8_scan_70 rfl <|
z_getI X dX8_scan_71 fl_X8_21 sx_145 rfl o fun v24 r25 o =>
z_sipush X dX8_scan_74 si_256 <|
z_iast X dX8_scan_77 sx_146 r25 kc_256 o fun s26 o =>
z_aload_n X 0 dX8_scan_78 rfl <|
z_getR (q := 148) X dX8_scan_79 fl_X8_18 sx_145 rfl <|
z_aload_n X 0 dX8_scan_82 rfl <|
z_getI X dX8_scan_83 fl_X8_21 sx_145 rfl o fun v27 r28 o =>
z_aload_n X 0 dX8_scan_86 rfl <|
z_getR (q := 1) X dX8_scan_87 fl_X8_28 sx_145 rfl <|
z_callvI X dX8_scan_90 q_925 wX7_length sx_1 rfl (by decide) [] [.int (pI v27), .ref (G.2.2.1 148)] rfl rfl (Nat.le_of_ble_eq_true rfl) (fun r σ1 e => ct_X7_length G _ r σ1 e) o fun r29 s30 h31 o =>
z_iast X dX8_scan_93 sx_148 r28 h31 o fun s32 o =>
z_vret (v := 0) X Y dX8_scan_94 o) fun o =>
z_sub (L1 := [(0, .ref (G.2.2.1 145)), (1, .int (pI 0)), (2, .int (pI 0))]) X [2, 1, 0] rfl <|
z_iter (fun (x3 : Int × Int) s4 => rg x3.1 ∧ rg x3.2 → At E s4 14 [(0, .ref (G.2.2.1 145)), (1, .int (pI x3.1)), (2, .int (pI x3.2))] []) o (fun x3 s4 o r5 =>
z_iload_n X 2 dX8_scan_14 rfl <|
z_sipush X dX8_scan_15 si_400 <|
z_icmp_ge (tgt := 66) X dX8_scan_18 (by decide) r5.2 kc_400 o (fun o =>
z_sub (L1 := [(0, .ref (G.2.2.1 145))]) X [0] rfl <|
ok_some o trivial) fun o =>
z_iload_n X 1 dX8_scan_21 rfl <|
z_aload_n X 0 dX8_scan_22 rfl <|
z_getR (q := 1) X dX8_scan_23 fl_X8_28 sx_145 rfl <|
z_callvI X dX8_scan_26 q_925 wX7_length sx_1 rfl (by decide) [] [.int (pI x3.1)] rfl rfl (Nat.le_of_ble_eq_true rfl) (fun r σ1 e => ct_X7_length G _ r σ1 e) o fun r6 s7 h8 o =>
z_icmp_ge (tgt := 66) X dX8_scan_29 (by decide) r5.1 h8 o (fun o =>
z_sub (L1 := [(0, .ref (G.2.2.1 145))]) X [0] rfl <|
ok_some o trivial) fun o =>
z_aload_n X 0 dX8_scan_32 rfl <|
z_iload_n X 1 dX8_scan_33 rfl <|
z_callvI X dX8_scan_34 q_926 wX8_behind sx_145 rfl (by decide) [.int (pI x3.1)] [] rfl rfl (Nat.le_of_ble_eq_true rfl) (fun r σ1 e => ct_X8_behind x3.1 r5.1 G _ r σ1 e) o fun r9 s10 h11 o =>
z_istore_n (L1 := [(3, .int (pI r9)), (0, .ref (G.2.2.1 145)), (1, .int (pI x3.1)), (2, .int (pI x3.2))]) X dX8_scan_37 rfl (by decide) rfl <|
z_aload_n X 1 dX8_scan_38 rfl <|
z_getR (q := 1) X dX8_scan_39 fl_X8_28 sx_145 rfl <|
z_iload_n X 2 dX8_scan_42 rfl <|
z_callvI X dX8_scan_43 q_930 wX7_at sx_1 rfl (by decide) [.int (pI x3.1)] [] rfl rfl (Nat.le_of_ble_eq_true rfl) (fun r σ1 e => ct_X7_at x3.1 r5.1 G _ r σ1 e) o fun r12 s13 h14 o =>
z_callsI X dX8_scan_46 q_940 wX8_isBlank  (by decide) [.int (pI r12)] [] rfl rfl (Nat.le_of_ble_eq_true rfl) (fun r σ1 e => ct_X8_isBlank r12 h14 G _ r σ1 e) o fun r15 s16 h17 o =>
z_if_ne (tgt := 58) X dX8_scan_49 (by decide) (r01_rg h17) o (fun o =>
z_iload_n X 0 dX8_scan_58 rfl <|
z_istore_n (L1 := [(1, .int (pI r9)), (3, .int (pI r9)), (0, .ref (G.2.2.1 145)), (2, .int (pI x3.2))]) X dX8_scan_59 rfl (by decide) rfl <|
z_iinc (L1 := [(2, .int (pI (w32 (x3.2 + 1)))), (1, .int (pI r9)), (3, .int (pI r9)), (0, .ref (G.2.2.1 145))]) X 3 dX8_scan_60 rfl (by decide) rfl <|
z_goto (tgt := 14) X dX8_scan_63 (by decide) <|
z_sub (L1 := [(0, .ref (G.2.2.1 145)), (1, .int (pI r9)), (2, .int (pI (w32 (x3.2 + 1))))]) X [3, 1, 0] rfl <|
ok_some o ⟨h11, (w32_rg _)⟩) fun o =>
z_aload_n X 1 dX8_scan_52 rfl <|
z_iload_n X 2 dX8_scan_53 rfl <|
z_iload_n X 0 dX8_scan_54 rfl <|
z_callvV X dX8_scan_55 q_943 wX8_note sx_145 rfl (by decide) [.int (pI x3.1), .int (pI r9)] [] rfl rfl (Nat.le_of_ble_eq_true rfl) (fun r σ1 e => ct_X8_note x3.1 r9 r5.1 h11 G _ r σ1 e) o fun r18 s19 o =>
z_iload_n X 0 dX8_scan_58 rfl <|
z_istore_n (L1 := [(1, .int (pI r9)), (3, .int (pI r9)), (0, .ref (G.2.2.1 145)), (2, .int (pI x3.2))]) X dX8_scan_59 rfl (by decide) rfl <|
z_iinc (L1 := [(2, .int (pI (w32 (x3.2 + 1)))), (1, .int (pI r9)), (3, .int (pI r9)), (0, .ref (G.2.2.1 145))]) X 3 dX8_scan_60 rfl (by decide) rfl <|
z_goto (tgt := 14) X dX8_scan_63 (by decide) <|
z_sub (L1 := [(0, .ref (G.2.2.1 145)), (1, .int (pI r9)), (2, .int (pI (w32 (x3.2 + 1))))]) X [3, 1, 0] rfl <|
ok_some o ⟨h11, (w32_rg _)⟩) ⟨kc_0, kc_0⟩ : At E s0 0 [(0, .ref (G.2.2.1 145))] [])
set_option maxHeartbeats 4000000 in
set_option maxRecDepth 100000 in
theorem ct_X8_kind   (G : Gw) (s0 : St) (r : Int) (σ1 : St) (e : fX8_kind s0 = some (r, σ1)) : Ct yX8_kind cX8_kind 1 (some .int) 0 0 SX G [.ref (G.2.2.1 145)] s0 (QI SX G r rg σ1) :=
  Ct.of (by decide +kernel) (Nat.le_of_ble_eq_true rfl) fun E X Y => by
    have o : Ok (fX8_kind s0) (fun x σ' => x = r ∧ σ' = σ1) := ⟨r, σ1, e, rfl, rfl⟩
    unfold fX8_kind at o
    exact (
z_aload_n X 0 dX8_kind_0 rfl <|
z_getR (q := 146) X dX8_kind_1 fl_X8_9 sx_145 rfl <|
z_aload_n X 0 dX8_kind_4 rfl <|
z_getI X dX8_kind_5 fl_X8_25 sx_145 rfl o fun v1 r2 o =>
z_iald X dX8_kind_8 sx_146 r2 o fun v3 r4 o =>
z_iret X Y dX8_kind_9 o r4 : At E s0 0 [(0, .ref (G.2.2.1 145))] [])
set_option maxHeartbeats 4000000 in
set_option maxRecDepth 100000 in
theorem ct_X8_advance   (G : Gw) (s0 : St) (r : Int) (σ1 : St) (e : fX8_advance s0 = some (r, σ1)) : Ct yX8_advance cX8_advance 1 none 0 0 SX G [.ref (G.2.2.1 145)] s0 (QV SX G σ1) :=
  Ct.of (by decide +kernel) (Nat.le_of_ble_eq_true rfl) fun E X Y => by
    have o : Ok (fX8_advance s0) (fun x σ' => x = r ∧ σ' = σ1) := ⟨r, σ1, e, rfl, rfl⟩
    unfold fX8_advance at o
    exact (
z_aload_n X 0 dX8_advance_0 rfl <|
z_getI X dX8_advance_1 fl_X8_25 sx_145 rfl o fun v1 r2 o =>
z_aload_n X 0 dX8_advance_4 rfl <|
z_getI X dX8_advance_5 fl_X8_21 sx_145 rfl o fun v3 r4 o =>
z_icmp_ge (tgt := 21) X dX8_advance_8 (by decide) r2 r4 o (fun o =>
z_vret (v := 0) X Y dX8_advance_21 o) fun o =>
z_aload_n X 0 dX8_advance_11 rfl <|
z_dup X dX8_advance_12 rfl <|
z_getI X dX8_advance_13 fl_X8_25 sx_145 rfl o fun v5 r6 o =>
z_iconst X dX8_advance_16 <|
z_iadd X dX8_advance_17 <|
z_putI X dX8_advance_18 fl_X8_25 sx_145 ft_X8_5 rfl (w32_rg _) o fun s7 o =>
z_vret (v := 0) X Y dX8_advance_21 o : At E s0 0 [(0, .ref (G.2.2.1 145))] [])
set_option maxHeartbeats 4000000 in
set_option maxRecDepth 100000 in
theorem ct_X5_refuse (p1 : Int) (hp1 : rg p1) (G : Gw) (s0 : St) (r : Int) (σ1 : St) (e : fX5_refuse p1 s0 = some (r, σ1)) : Ct yX5_refuse cX5_refuse 2 (some .boolean) 0 0 SX G [.ref (G.2.2.1 139), .int (pI p1)] s0 (QI SX G r r01 σ1) :=
  Ct.of (by decide +kernel) (Nat.le_of_ble_eq_true rfl) fun E X Y => by
    have o : Ok (fX5_refuse p1 s0) (fun x σ' => x = r ∧ σ' = σ1) := ⟨r, σ1, e, rfl, rfl⟩
    unfold fX5_refuse at o
    exact (
z_aload_n X 0 dX5_refuse_0 rfl <|
z_iload_n X 1 dX5_refuse_1 rfl <|
z_putI X dX5_refuse_2 fl_X5_34 sx_139 ft_X5_7 rfl hp1 o fun s1 o =>
z_iconst X dX5_refuse_5 <|
z_zret X Y dX5_refuse_6 o kb_0 kb_0 : At E s0 0 [(0, .ref (G.2.2.1 139)), (1, .int (pI p1))] [])
set_option maxHeartbeats 4000000 in
set_option maxRecDepth 100000 in
theorem ct_X5_beginLine (p1 : Int) (hp1 : rg p1) (G : Gw) (s0 : St) (r : Int) (σ1 : St) (e : fX5_beginLine p1 s0 = some (r, σ1)) : Ct yX5_beginLine cX5_beginLine 2 (some .boolean) 1 21 SX G [.ref (G.2.2.1 139), .int (pI p1)] s0 (QI SX G r r01 σ1) :=
  Ct.of (by decide +kernel) (Nat.le_of_ble_eq_true rfl) fun E X Y => by
    have o : Ok (fX5_beginLine p1 s0) (fun x σ' => x = r ∧ σ' = σ1) := ⟨r, σ1, e, rfl, rfl⟩
    unfold fX5_beginLine at o
    exact (
z_aload_n X 0 dX5_beginLine_0 rfl <|
z_getR (q := 145) X dX5_beginLine_1 fl_X5_45 sx_139 rfl <|
z_callvI X dX5_beginLine_4 q_1035 wX8_kind sx_145 rfl (by decide) [] [] rfl rfl (Nat.le_of_ble_eq_true rfl) (fun r σ1 e => ct_X8_kind G _ r σ1 e) o fun r1 s2 h3 o =>
z_iload_n X 1 dX5_beginLine_7 rfl <|
z_icmp_eq (tgt := 17) X dX5_beginLine_8 (by decide) h3 hp1 o (fun o =>
z_aload_n X 0 dX5_beginLine_17 rfl <|
z_getR (q := 140) X dX5_beginLine_18 fl_X5_14 sx_139 rfl <|
z_callvI X dX5_beginLine_21 q_1051 wX6_isFull sx_140 rfl (by decide) [] [] rfl rfl (Nat.le_of_ble_eq_true rfl) (fun r σ1 e => ct_X6_isFull SX 140 141 64 ⟨sx_140, sx_141, (by decide)⟩ G _ r σ1 e) o fun r4 s5 h6 o =>
z_if_eq (tgt := 33) X dX5_beginLine_24 (by decide) (r01_rg h6) o (fun o =>
z_aload_n X 0 dX5_beginLine_33 rfl <|
z_getR (q := 145) X dX5_beginLine_34 fl_X5_45 sx_139 rfl <|
z_callvV X dX5_beginLine_37 q_1052 wX8_advance sx_145 rfl (by decide) [] [] rfl rfl (Nat.le_of_ble_eq_true rfl) (fun r σ1 e => ct_X8_advance G _ r σ1 e) o fun r7 s8 o =>
z_iconst X dX5_beginLine_40 <|
z_zret X Y dX5_beginLine_41 o kb_1 kb_1) fun o =>
z_aload_n X 0 dX5_beginLine_27 rfl <|
z_iconst X dX5_beginLine_28 <|
z_callvI X dX5_beginLine_29 q_1043 wX5_refuse sx_139 rfl (by decide) [.int (pI 3)] [] rfl rfl (Nat.le_of_ble_eq_true rfl) (fun r σ1 e => ct_X5_refuse 3 kc_3 G _ r σ1 e) o fun r10 s11 h12 o =>
z_zret X Y dX5_beginLine_32 o h12 h12) fun o =>
z_aload_n X 0 dX5_beginLine_11 rfl <|
z_iconst X dX5_beginLine_12 <|
z_callvI X dX5_beginLine_13 q_1043 wX5_refuse sx_139 rfl (by decide) [.int (pI 1)] [] rfl rfl (Nat.le_of_ble_eq_true rfl) (fun r σ1 e => ct_X5_refuse 1 kc_1 G _ r σ1 e) o fun r13 s14 h15 o =>
z_zret X Y dX5_beginLine_16 o h15 h15 : At E s0 0 [(0, .ref (G.2.2.1 139)), (1, .int (pI p1))] [])
set_option maxHeartbeats 4000000 in
set_option maxRecDepth 100000 in
theorem ct_X8_number   (G : Gw) (s0 : St) (r : Int) (σ1 : St) (e : fX8_number s0 = some (r, σ1)) : Ct yX8_number cX8_number 1 (some .int) 0 0 SX G [.ref (G.2.2.1 145)] s0 (QI SX G r rg σ1) :=
  Ct.of (by decide +kernel) (Nat.le_of_ble_eq_true rfl) fun E X Y => by
    have o : Ok (fX8_number s0) (fun x σ' => x = r ∧ σ' = σ1) := ⟨r, σ1, e, rfl, rfl⟩
    unfold fX8_number at o
    exact (
z_aload_n X 0 dX8_number_0 rfl <|
z_getR (q := 147) X dX8_number_1 fl_X8_15 sx_145 rfl <|
z_aload_n X 0 dX8_number_4 rfl <|
z_getI X dX8_number_5 fl_X8_25 sx_145 rfl o fun v1 r2 o =>
z_iald X dX8_number_8 sx_147 r2 o fun v3 r4 o =>
z_iret X Y dX8_number_9 o r4 : At E s0 0 [(0, .ref (G.2.2.1 145))] [])
set_option maxHeartbeats 4000000 in
set_option maxRecDepth 100000 in
theorem ct_X5_readOperand (p1 : Int) (hp1 : r01 p1) (G : Gw) (s0 : St) (r : Int) (σ1 : St) (e : fX5_readOperand p1 s0 = some (r, σ1)) : Ct yX5_readOperand cX5_readOperand 4 (some .boolean) 1 22 SX G [.ref (G.2.2.1 139), .int (pI p1)] s0 (QI SX G r r01 σ1) :=
  Ct.of (by decide +kernel) (Nat.le_of_ble_eq_true rfl) fun E X Y => by
    have o : Ok (fX5_readOperand p1 s0) (fun x σ' => x = r ∧ σ' = σ1) := ⟨r, σ1, e, rfl, rfl⟩
    unfold fX5_readOperand at o
    exact (
z_aload_n X 0 dX5_readOperand_0 rfl <|
z_getR (q := 145) X dX5_readOperand_1 fl_X5_45 sx_139 rfl <|
z_callvI X dX5_readOperand_4 q_1035 wX8_kind sx_145 rfl (by decide) [] [] rfl rfl (Nat.le_of_ble_eq_true rfl) (fun r σ1 e => ct_X8_kind G _ r σ1 e) o fun r1 s2 h3 o =>
z_istore_n (L1 := [(2, .int (pI r1)), (0, .ref (G.2.2.1 139)), (1, .int (pI p1))]) X dX5_readOperand_7 rfl (by decide) rfl <|
z_iload_n X 2 dX5_readOperand_8 rfl <|
z_join o (fun (y7 : Int) s8 => r01 y7 → At E s8 30 [(0, .ref (G.2.2.1 139)), (1, .int (pI p1)), (2, .int (pI r1))] [.int (pI y7)]) (fun y7 s8 o r9 =>
z_istore_n (L1 := [(3, .int (pI y7)), (0, .ref (G.2.2.1 139)), (1, .int (pI p1)), (2, .int (pI r1))]) X dX5_readOperand_30 rfl (by decide) rfl <|
z_iload_n X 3 dX5_readOperand_31 rfl <|
z_sipush X dX5_readOperand_32 si_257 <|
z_joix o (fun (y13 : Unit) s14 => True → At E s14 48 [(0, .ref (G.2.2.1 139)), (1, .int (pI p1)), (2, .int (pI r1)), (3, .int (pI y7))] []) (fun y13 s14 o r15 =>
z_iload_n X 1 dX5_readOperand_48 rfl <|
z_joix o (fun (y22 : Unit) s23 => True → At E s23 68 [(0, .ref (G.2.2.1 139)), (2, .int (pI r1)), (3, .int (pI y7))] []) (fun y22 s23 o r24 =>
z_aload_n X 0 dX5_readOperand_68 rfl <|
z_getR (q := 142) X dX5_readOperand_69 fl_X5_20 sx_139 rfl <|
z_iload_n X 2 dX5_readOperand_72 rfl <|
z_join o (fun (y28 : Int) s29 => rg y28 → At E s29 88 [(0, .ref (G.2.2.1 139))] [.int (pI y28), .ref (G.2.2.1 142)]) (fun y28 s29 o r30 =>
z_callvI X dX5_readOperand_88 q_1069 wX6_add sx_142 rfl (by decide) [.int (pI y28)] [] rfl rfl (Nat.le_of_ble_eq_true rfl) (fun r σ1 e => ct_X6_add SX 142 143 400 y28 ⟨sx_142, sx_143, (by decide)⟩ r30 G _ r σ1 e) o fun r31 s32 h33 o =>
z_pop X dX5_readOperand_91 rfl <|
z_aload_n X 0 dX5_readOperand_92 rfl <|
z_getR (q := 145) X dX5_readOperand_93 fl_X5_45 sx_139 rfl <|
z_callvV X dX5_readOperand_96 q_1052 wX8_advance sx_145 rfl (by decide) [] [] rfl rfl (Nat.le_of_ble_eq_true rfl) (fun r σ1 e => ct_X8_advance G _ r σ1 e) o fun r34 s35 o =>
z_iconst X dX5_readOperand_99 <|
z_zret X Y dX5_readOperand_100 o kb_1 kb_1) fun o =>
z_if_eq (tgt := 81) X dX5_readOperand_73 (by decide) (r01_rg r9) o (fun o =>
z_aload_n X 0 dX5_readOperand_81 rfl <|
z_getR (q := 145) X dX5_readOperand_82 fl_X5_45 sx_139 rfl <|
z_callvI X dX5_readOperand_85 q_1065 wX8_number sx_145 rfl (by decide) [] [.ref (G.2.2.1 142)] rfl rfl (Nat.le_of_ble_eq_true rfl) (fun r σ1 e => ct_X8_number G _ r σ1 e) o fun r25 s26 h27 o =>
z_sub (L1 := [(0, .ref (G.2.2.1 139))]) X [0] rfl <|
ok_some o h27) fun o =>
z_iload_n X 1 dX5_readOperand_76 rfl <|
z_ineg X dX5_readOperand_77 <|
z_goto (tgt := 88) X dX5_readOperand_78 (by decide) <|
z_sub (L1 := [(0, .ref (G.2.2.1 139))]) X [0] rfl <|
ok_some o (w32_rg _)) fun o =>
z_if_eq (tgt := 68) X dX5_readOperand_49 (by decide) (r01_rg hp1) o (fun o =>
z_sub (L1 := [(0, .ref (G.2.2.1 139)), (2, .int (pI r1)), (3, .int (pI y7))]) X [0, 2, 3] rfl <|
ok_some o trivial) fun o =>
z_aload_n X 0 dX5_readOperand_52 rfl <|
z_getR (q := 145) X dX5_readOperand_53 fl_X5_45 sx_139 rfl <|
z_callvI X dX5_readOperand_56 q_1065 wX8_number sx_145 rfl (by decide) [] [] rfl rfl (Nat.le_of_ble_eq_true rfl) (fun r σ1 e => ct_X8_number G _ r σ1 e) o fun r16 s17 h18 o =>
z_if_ne (tgt := 68) X dX5_readOperand_59 (by decide) h18 o (fun o =>
z_sub (L1 := [(0, .ref (G.2.2.1 139)), (2, .int (pI r1)), (3, .int (pI y7))]) X [0, 2, 3] rfl <|
ok_some o trivial) fun o =>
z_aload_n X 0 dX5_readOperand_62 rfl <|
z_iconst X dX5_readOperand_63 <|
z_callvI X dX5_readOperand_64 q_1043 wX5_refuse sx_139 rfl (by decide) [.int (pI 2)] [] rfl rfl (Nat.le_of_ble_eq_true rfl) (fun r σ1 e => ct_X5_refuse 2 kc_2 G _ r σ1 e) o fun r19 s20 h21 o =>
z_zret X Y dX5_readOperand_67 (ok_ret (ok_some o)) h21 h21) fun o =>
z_icmp_eq (tgt := 48) X dX5_readOperand_35 (by decide) h3 kc_257 o (fun o =>
z_sub (L1 := [(0, .ref (G.2.2.1 139)), (1, .int (pI p1)), (2, .int (pI r1)), (3, .int (pI y7))]) X [1, 2, 3, 0] rfl <|
ok_some o trivial) fun o =>
z_iload_n X 0 dX5_readOperand_38 rfl <|
z_if_ne (tgt := 48) X dX5_readOperand_39 (by decide) (r01_rg r9) o (fun o =>
z_sub (L1 := [(0, .ref (G.2.2.1 139)), (1, .int (pI p1)), (2, .int (pI r1)), (3, .int (pI y7))]) X [1, 2, 3, 0] rfl <|
ok_some o trivial) fun o =>
z_aload_n X 1 dX5_readOperand_42 rfl <|
z_iconst X dX5_readOperand_43 <|
z_callvI X dX5_readOperand_44 q_1043 wX5_refuse sx_139 rfl (by decide) [.int (pI 1)] [] rfl rfl (Nat.le_of_ble_eq_true rfl) (fun r σ1 e => ct_X5_refuse 1 kc_1 G _ r σ1 e) o fun r10 s11 h12 o =>
z_zret X Y dX5_readOperand_47 (ok_ret (ok_some o)) h12 h12) fun o =>
z_if_ne (tgt := 29) X dX5_readOperand_9 (by decide) (r01_rg hp1) o (fun o =>
z_iconst X dX5_readOperand_29 <|
z_sub (L1 := [(0, .ref (G.2.2.1 139)), (1, .int (pI p1)), (2, .int (pI r1))]) X [1, 2, 0] rfl <|
ok_some o kb_0) fun o =>
z_iload_n X 0 dX5_readOperand_12 rfl <|
z_sipush X dX5_readOperand_13 si_270 <|
z_sipush X dX5_readOperand_16 si_279 <|
z_callsIN X dX5_readOperand_19 q_916 wX11_within  (by decide) [.int (pI r1), .int (pI 270), .int (pI 279)] [] rfl rfl (Nat.le_of_ble_eq_true rfl) (fun r σ1 e => ct_X11_within r1 270 279 h3 kc_270 kc_279 G _ r σ1 e) o fun r4 s5 h6 o =>
z_if_eq (tgt := 29) X dX5_readOperand_22 (by decide) (r01_rg h6) o (fun o =>
z_iconst X dX5_readOperand_29 <|
z_sub (L1 := [(0, .ref (G.2.2.1 139)), (1, .int (pI p1)), (2, .int (pI r1))]) X [1, 2, 0] rfl <|
ok_some o kb_0) fun o =>
z_iconst X dX5_readOperand_25 <|
z_goto (tgt := 30) X dX5_readOperand_26 (by decide) <|
z_sub (L1 := [(0, .ref (G.2.2.1 139)), (1, .int (pI p1)), (2, .int (pI r1))]) X [1, 2, 0] rfl <|
ok_some o kb_1 : At E s0 0 [(0, .ref (G.2.2.1 139)), (1, .int (pI p1))] [])
set_option maxHeartbeats 4000000 in
set_option maxRecDepth 100000 in
theorem ct_X5_readSum   (G : Gw) (s0 : St) (r : Int) (σ1 : St) (e : fX5_readSum s0 = some (r, σ1)) : Ct yX5_readSum cX5_readSum 4 (some .boolean) 2 45 SX G [.ref (G.2.2.1 139)] s0 (QI SX G r r01 σ1) :=
  Ct.of (by decide +kernel) (Nat.le_of_ble_eq_true rfl) fun E X Y => by
    have o : Ok (fX5_readSum s0) (fun x σ' => x = r ∧ σ' = σ1) := ⟨r, σ1, e, rfl, rfl⟩
    unfold fX5_readSum at o
    exact (
z_iconst X dX5_readSum_0 <|
z_istore_n (L1 := [(1, .int (pI (-1))), (0, .ref (G.2.2.1 139))]) X dX5_readSum_1 rfl (by decide) rfl <|
z_iconst X dX5_readSum_2 <|
z_istore_n (L1 := [(2, .int (pI (-1))), (1, .int (pI (-1))), (0, .ref (G.2.2.1 139))]) X dX5_readSum_3 rfl (by decide) rfl <|
z_iconst X dX5_readSum_4 <|
z_istore_n (L1 := [(3, .int (pI 0)), (2, .int (pI (-1))), (1, .int (pI (-1))), (0, .ref (G.2.2.1 139))]) X dX5_readSum_5 rfl (by decide) rfl <|
z_joix o (fun (y31 : Unit) s32 => True → At E s32 31 [] []) (fun y31 s32 o r33 =>
z_iconst X dX5_readSum_31 <|
z_zret X Y dX5_readSum_32 o kb_0 kb_0) fun o =>
z_sub (L1 := [(0, .ref (G.2.2.1 139)), (1, .int (pI (-1))), (2, .int (pI (-1))), (3, .int (pI 0))]) X [3, 2, 1, 0] rfl <|
z_iter (fun (x1 : Int × Int × Int) s2 => rg x1.1 ∧ rg x1.2.1 ∧ rg x1.2.2 → At E s2 6 [(0, .ref (G.2.2.1 139)), (1, .int (pI x1.1)), (2, .int (pI x1.2.1)), (3, .int (pI x1.2.2))] []) o (fun x1 s2 o r3 =>
z_iload_n X 3 dX5_readSum_6 rfl <|
z_sipush X dX5_readSum_7 si_400 <|
z_icmp_ge (tgt := 114) X dX5_readSum_10 (by decide) r3.2.2 kc_400 o (fun o =>
z_iconst X dX5_readSum_114 <|
z_zret X Y dX5_readSum_115 (ok_ret (ok_some o)) kb_0 kb_0) fun o =>
z_aload_n X 0 dX5_readSum_13 rfl <|
z_iload_n X 2 dX5_readSum_14 rfl <|
z_bipush X dX5_readSum_15 bi_47 <|
z_join o (fun (y4 : Int) s5 => r01 y4 → At E s5 25 [(0, .ref (G.2.2.1 139)), (1, .int (pI x1.1)), (2, .int (pI x1.2.1)), (3, .int (pI x1.2.2))] [.int (pI y4), .ref (G.2.2.1 139)]) (fun y4 s5 o r6 =>
z_callvI X dX5_readSum_25 q_1061 wX5_readOperand sx_139 rfl (by decide) [.int (pI y4)] [] rfl rfl (Nat.le_of_ble_eq_true rfl) (fun r σ1 e => ct_X5_readOperand y4 r6 G _ r σ1 e) o fun r7 s8 h9 o =>
z_if_ne (tgt := 33) X dX5_readSum_28 (by decide) (r01_rg h9) o (fun o =>
z_iload_n X 2 dX5_readSum_33 rfl <|
z_iconst X dX5_readSum_34 <|
z_join o (fun (y13 : Unit) s14 => True → At E s14 48 [(0, .ref (G.2.2.1 139)), (1, .int (pI x1.1)), (3, .int (pI x1.2.2))] []) (fun y13 s14 o r15 =>
z_aload_n X 0 dX5_readSum_48 rfl <|
z_getR (q := 145) X dX5_readSum_49 fl_X5_45 sx_139 rfl <|
z_callvI X dX5_readSum_52 q_1035 wX8_kind sx_145 rfl (by decide) [] [] rfl rfl (Nat.le_of_ble_eq_true rfl) (fun r σ1 e => ct_X8_kind G _ r σ1 e) o fun r16 s17 h18 o =>
z_istore_n (L1 := [(2, .int (pI r16)), (0, .ref (G.2.2.1 139)), (1, .int (pI x1.1)), (3, .int (pI x1.2.2))]) X dX5_readSum_55 rfl (by decide) rfl <|
z_iload_n X 0 dX5_readSum_56 rfl <|
z_bipush X dX5_readSum_57 bi_42 <|
z_joix o (fun (y25 : Int × Int) s26 => rg y25.1 ∧ rg y25.2 → At E s26 101 [(0, .ref (G.2.2.1 139)), (1, .int (pI y25.1)), (2, .int (pI y25.2)), (3, .int (pI x1.2.2))] []) (fun y25 s26 o r27 =>
z_aload_n X 0 dX5_readSum_101 rfl <|
z_getR (q := 145) X dX5_readSum_102 fl_X5_45 sx_139 rfl <|
z_callvV X dX5_readSum_105 q_1052 wX8_advance sx_145 rfl (by decide) [] [] rfl rfl (Nat.le_of_ble_eq_true rfl) (fun r σ1 e => ct_X8_advance G _ r σ1 e) o fun r28 s29 o =>
z_iinc (L1 := [(3, .int (pI (w32 (x1.2.2 + 1)))), (0, .ref (G.2.2.1 139)), (1, .int (pI y25.1)), (2, .int (pI y25.2))]) X 3 dX5_readSum_108 rfl (by decide) rfl <|
z_goto (tgt := 6) X dX5_readSum_111 (by decide) <|
z_sub (L1 := [(0, .ref (G.2.2.1 139)), (1, .int (pI y25.1)), (2, .int (pI y25.2)), (3, .int (pI (w32 (x1.2.2 + 1))))]) X [1, 2, 3, 0] rfl <|
ok_some o ⟨r27.1, r27.2, (w32_rg _)⟩) fun o =>
z_icmp_eq (tgt := 101) X dX5_readSum_59 (by decide) h18 kc_42 o (fun o =>
z_sub (L1 := [(0, .ref (G.2.2.1 139)), (1, .int (pI x1.1)), (2, .int (pI r16)), (3, .int (pI x1.2.2))]) X [1, 2, 0, 3] rfl <|
ok_some o ⟨r3.1, h18⟩) fun o =>
z_iload_n X 0 dX5_readSum_62 rfl <|
z_bipush X dX5_readSum_63 bi_47 <|
z_icmp_eq (tgt := 101) X dX5_readSum_65 (by decide) h18 kc_47 o (fun o =>
z_sub (L1 := [(0, .ref (G.2.2.1 139)), (1, .int (pI x1.1)), (2, .int (pI r16)), (3, .int (pI x1.2.2))]) X [1, 2, 0, 3] rfl <|
ok_some o ⟨r3.1, h18⟩) fun o =>
z_iload_n X 2 dX5_readSum_68 rfl <|
z_iconst X dX5_readSum_69 <|
z_join o (fun (y22 : Unit) s23 => True → At E s23 83 [(0, .ref (G.2.2.1 139)), (2, .int (pI r16)), (3, .int (pI x1.2.2))] []) (fun y22 s23 o r24 =>
z_iload_n X 1 dX5_readSum_83 rfl <|
z_istore_n (L1 := [(1, .int (pI r16)), (0, .ref (G.2.2.1 139)), (2, .int (pI r16)), (3, .int (pI x1.2.2))]) X dX5_readSum_84 rfl (by decide) rfl <|
z_iconst X dX5_readSum_85 <|
z_istore_n (L1 := [(2, .int (pI (-1))), (1, .int (pI r16)), (0, .ref (G.2.2.1 139)), (3, .int (pI x1.2.2))]) X dX5_readSum_86 rfl (by decide) rfl <|
z_iload_n X 1 dX5_readSum_87 rfl <|
z_bipush X dX5_readSum_88 bi_43 <|
z_icmp_eq (tgt := 101) X dX5_readSum_90 (by decide) h18 kc_43 o (fun o =>
z_sub (L1 := [(0, .ref (G.2.2.1 139)), (1, .int (pI r16)), (2, .int (pI (-1))), (3, .int (pI x1.2.2))]) X [2, 1, 0, 3] rfl <|
ok_some o ⟨h18, kc_m1⟩) fun o =>
z_iload_n X 1 dX5_readSum_93 rfl <|
z_bipush X dX5_readSum_94 bi_45 <|
z_icmp_eq (tgt := 101) X dX5_readSum_96 (by decide) h18 kc_45 o (fun o =>
z_sub (L1 := [(0, .ref (G.2.2.1 139)), (1, .int (pI r16)), (2, .int (pI (-1))), (3, .int (pI x1.2.2))]) X [2, 1, 0, 3] rfl <|
ok_some o ⟨h18, kc_m1⟩) fun o =>
z_iconst X dX5_readSum_99 <|
z_zret X Y dX5_readSum_100 (ok_ret (ok_some o)) kb_1 kb_1) fun o =>
z_icmp_eq (tgt := 83) X dX5_readSum_70 (by decide) r3.1 kc_m1 o (fun o =>
z_sub (L1 := [(0, .ref (G.2.2.1 139)), (2, .int (pI r16)), (3, .int (pI x1.2.2))]) X [1, 0, 3] rfl <|
ok_some o trivial) fun o =>
z_aload_n X 1 dX5_readSum_73 rfl <|
z_getR (q := 142) X dX5_readSum_74 fl_X5_20 sx_139 rfl <|
z_iload_n X 2 dX5_readSum_77 rfl <|
z_ineg X dX5_readSum_78 <|
z_callvI X dX5_readSum_79 q_1069 wX6_add sx_142 rfl (by decide) [.int (pI (w32 (-x1.1)))] [] rfl rfl (Nat.le_of_ble_eq_true rfl) (fun r σ1 e => ct_X6_add SX 142 143 400 (w32 (-x1.1)) ⟨sx_142, sx_143, (by decide)⟩ (w32_rg _) G _ r σ1 e) o fun r19 s20 h21 o =>
z_pop X dX5_readSum_82 rfl <|
z_sub (L1 := [(0, .ref (G.2.2.1 139)), (2, .int (pI r16)), (3, .int (pI x1.2.2))]) X [1, 0, 3] rfl <|
ok_some o trivial) fun o =>
z_icmp_eq (tgt := 48) X dX5_readSum_35 (by decide) r3.2.1 kc_m1 o (fun o =>
z_sub (L1 := [(0, .ref (G.2.2.1 139)), (1, .int (pI x1.1)), (3, .int (pI x1.2.2))]) X [0, 1, 3] rfl <|
ok_some o trivial) fun o =>
z_aload_n X 0 dX5_readSum_38 rfl <|
z_getR (q := 142) X dX5_readSum_39 fl_X5_20 sx_139 rfl <|
z_iload_n X 2 dX5_readSum_42 rfl <|
z_ineg X dX5_readSum_43 <|
z_callvI X dX5_readSum_44 q_1069 wX6_add sx_142 rfl (by decide) [.int (pI (w32 (-x1.2.1)))] [] rfl rfl (Nat.le_of_ble_eq_true rfl) (fun r σ1 e => ct_X6_add SX 142 143 400 (w32 (-x1.2.1)) ⟨sx_142, sx_143, (by decide)⟩ (w32_rg _) G _ r σ1 e) o fun r10 s11 h12 o =>
z_pop X dX5_readSum_47 rfl <|
z_sub (L1 := [(0, .ref (G.2.2.1 139)), (1, .int (pI x1.1)), (3, .int (pI x1.2.2))]) X [0, 1, 3] rfl <|
ok_some o trivial) fun o =>
z_sub (L1 := []) X [] rfl <|
ok_some o trivial) fun o =>
z_icmp_ne (tgt := 24) X dX5_readSum_17 (by decide) r3.2.1 kc_47 o (fun o =>
z_iconst X dX5_readSum_24 <|
ok_some o kb_0) fun o =>
z_iconst X dX5_readSum_20 <|
z_goto (tgt := 25) X dX5_readSum_21 (by decide) <|
ok_some o kb_1) ⟨kc_m1, kc_m1, kc_0⟩ : At E s0 0 [(0, .ref (G.2.2.1 139))] [])
set_option maxHeartbeats 4000000 in
set_option maxRecDepth 100000 in
theorem ct_X5_putOff (p1 : Int) (hp1 : rg p1) (G : Gw) (s0 : St) (r : Int) (σ1 : St) (e : fX5_putOff p1 s0 = some (r, σ1)) : Ct yX5_putOff cX5_putOff 2 none 0 0 SX G [.ref (G.2.2.1 139), .int (pI p1)] s0 (QV SX G σ1) :=
  Ct.of (by decide +kernel) (Nat.le_of_ble_eq_true rfl) fun E X Y => by
    have o : Ok (fX5_putOff p1 s0) (fun x σ' => x = r ∧ σ' = σ1) := ⟨r, σ1, e, rfl, rfl⟩
    unfold fX5_putOff at o
    exact (
z_aload_n X 0 dX5_putOff_0 rfl <|
z_getI X dX5_putOff_1 fl_X5_27 sx_139 rfl o fun v1 r2 o =>
z_aload_n X 0 dX5_putOff_4 rfl <|
z_getR (q := 144) X dX5_putOff_5 fl_X5_23 sx_139 rfl <|
z_alen X dX5_putOff_8 sx_144 <|
z_icmp_lt (tgt := 13) X dX5_putOff_9 (by decide) r2 kc_28 o (fun o =>
z_aload_n X 0 dX5_putOff_13 rfl <|
z_getR (q := 144) X dX5_putOff_14 fl_X5_23 sx_139 rfl <|
z_aload_n X 0 dX5_putOff_17 rfl <|
z_getI X dX5_putOff_18 fl_X5_27 sx_139 rfl o fun v3 r4 o =>
z_iload_n X 1 dX5_putOff_21 rfl <|
z_iast X dX5_putOff_22 sx_144 r4 hp1 o fun s5 o =>
z_aload_n X 0 dX5_putOff_23 rfl <|
z_dup X dX5_putOff_24 rfl <|
z_getI X dX5_putOff_25 fl_X5_27 sx_139 rfl o fun v6 r7 o =>
z_iconst X dX5_putOff_28 <|
z_iadd X dX5_putOff_29 <|
z_putI X dX5_putOff_30 fl_X5_27 sx_139 ft_X5_5 rfl (w32_rg _) o fun s8 o =>
z_vret (v := 0) X Y dX5_putOff_33 o) fun o =>
z_vret (v := 0) X Y dX5_putOff_12 o : At E s0 0 [(0, .ref (G.2.2.1 139)), (1, .int (pI p1))] [])
set_option maxHeartbeats 4000000 in
set_option maxRecDepth 100000 in
theorem ct_X5_readOpenings   (G : Gw) (s0 : St) (r : Int) (σ1 : St) (e : fX5_readOpenings s0 = some (r, σ1)) : Ct yX5_readOpenings cX5_readOpenings 3 (some .boolean) 1 21 SX G [.ref (G.2.2.1 139)] s0 (QI SX G r r01 σ1) :=
  Ct.of (by decide +kernel) (Nat.le_of_ble_eq_true rfl) fun E X Y => by
    have o : Ok (fX5_readOpenings s0) (fun x σ' => x = r ∧ σ' = σ1) := ⟨r, σ1, e, rfl, rfl⟩
    unfold fX5_readOpenings at o
    exact (
z_iconst X dX5_readOpenings_0 <|
z_istore_n (L1 := [(1, .int (pI 0)), (0, .ref (G.2.2.1 139))]) X dX5_readOpenings_1 rfl (by decide) rfl <|
z_joix o (fun (y21 : Unit) s22 => True → At E s22 40 [(0, .ref (G.2.2.1 139))] []) (fun y21 s22 o r23 =>
z_aload_n X 0 dX5_readOpenings_40 rfl <|
z_iconst X dX5_readOpenings_41 <|
z_callvI X dX5_readOpenings_42 q_1043 wX5_refuse sx_139 rfl (by decide) [.int (pI 3)] [] rfl rfl (Nat.le_of_ble_eq_true rfl) (fun r σ1 e => ct_X5_refuse 3 kc_3 G _ r σ1 e) o fun r24 s25 h26 o =>
z_zret X Y dX5_readOpenings_45 o h26 h26) fun o =>
z_sub (L1 := [(0, .ref (G.2.2.1 139)), (1, .int (pI 0))]) X [1, 0] rfl <|
z_iter (fun (x1 : Int) s2 => rg x1 → At E s2 2 [(0, .ref (G.2.2.1 139)), (1, .int (pI x1))] []) o (fun x1 s2 o r3 =>
z_iload_n X 1 dX5_readOpenings_2 rfl <|
z_bipush X dX5_readOpenings_3 bi_8 <|
z_icmp_gt (tgt := 74) X dX5_readOpenings_5 (by decide) r3 kc_8 o (fun o =>
z_iconst X dX5_readOpenings_74 <|
z_zret X Y dX5_readOpenings_75 (ok_ret (ok_some o)) kb_1 kb_1) fun o =>
z_aload_n X 0 dX5_readOpenings_8 rfl <|
z_getR (q := 145) X dX5_readOpenings_9 fl_X5_45 sx_139 rfl <|
z_callvI X dX5_readOpenings_12 q_1035 wX8_kind sx_145 rfl (by decide) [] [] rfl rfl (Nat.le_of_ble_eq_true rfl) (fun r σ1 e => ct_X8_kind G _ r σ1 e) o fun r4 s5 h6 o =>
z_istore_n (L1 := [(2, .int (pI r4)), (0, .ref (G.2.2.1 139)), (1, .int (pI x1))]) X dX5_readOpenings_15 rfl (by decide) rfl <|
z_iload_n X 0 dX5_readOpenings_16 rfl <|
z_bipush X dX5_readOpenings_17 bi_40 <|
z_joix o (fun (y7 : Unit) s8 => True → At E s8 31 [(0, .ref (G.2.2.1 139)), (1, .int (pI x1)), (2, .int (pI r4))] []) (fun y7 s8 o r9 =>
z_aload_n X 0 dX5_readOpenings_31 rfl <|
z_getI X dX5_readOpenings_32 fl_X5_31 sx_139 rfl o fun v10 r11 o =>
z_bipush X dX5_readOpenings_35 bi_8 <|
z_icmp_lt (tgt := 46) X dX5_readOpenings_37 (by decide) r11 kc_8 o (fun o =>
z_aload_n X 0 dX5_readOpenings_46 rfl <|
z_iload_n X 2 dX5_readOpenings_47 rfl <|
z_callvV X dX5_readOpenings_48 q_1081 wX5_putOff sx_139 rfl (by decide) [.int (pI r4)] [] rfl rfl (Nat.le_of_ble_eq_true rfl) (fun r σ1 e => ct_X5_putOff r4 h6 G _ r σ1 e) o fun r12 s13 o =>
z_aload_n X 0 dX5_readOpenings_51 rfl <|
z_dup X dX5_readOpenings_52 rfl <|
z_getI X dX5_readOpenings_53 fl_X5_31 sx_139 rfl o fun v15 r16 o =>
z_iconst X dX5_readOpenings_56 <|
z_iadd X dX5_readOpenings_57 <|
z_putI X dX5_readOpenings_58 fl_X5_31 sx_139 ft_X5_6 rfl (w32_rg _) o fun s17 o =>
z_aload_n X 0 dX5_readOpenings_61 rfl <|
z_getR (q := 145) X dX5_readOpenings_62 fl_X5_45 sx_139 rfl <|
z_callvV X dX5_readOpenings_65 q_1052 wX8_advance sx_145 rfl (by decide) [] [] rfl rfl (Nat.le_of_ble_eq_true rfl) (fun r σ1 e => ct_X8_advance G _ r σ1 e) o fun r18 s19 o =>
z_iinc (L1 := [(1, .int (pI (w32 (x1 + 1)))), (0, .ref (G.2.2.1 139)), (2, .int (pI r4))]) X 1 dX5_readOpenings_68 rfl (by decide) rfl <|
z_goto (tgt := 2) X dX5_readOpenings_71 (by decide) <|
z_sub (L1 := [(0, .ref (G.2.2.1 139)), (1, .int (pI (w32 (x1 + 1))))]) X [1, 0] rfl <|
ok_some o (w32_rg _)) fun o =>
z_sub (L1 := [(0, .ref (G.2.2.1 139))]) X [0] rfl <|
ok_some o trivial) fun o =>
z_icmp_eq (tgt := 31) X dX5_readOpenings_19 (by decide) h6 kc_40 o (fun o =>
z_sub (L1 := [(0, .ref (G.2.2.1 139)), (1, .int (pI x1)), (2, .int (pI r4))]) X [1, 2, 0] rfl <|
ok_some o trivial) fun o =>
z_iload_n X 0 dX5_readOpenings_22 rfl <|
z_sipush X dX5_readOpenings_23 si_266 <|
z_icmp_eq (tgt := 31) X dX5_readOpenings_26 (by decide) h6 kc_266 o (fun o =>
z_sub (L1 := [(0, .ref (G.2.2.1 139)), (1, .int (pI x1)), (2, .int (pI r4))]) X [1, 2, 0] rfl <|
ok_some o trivial) fun o =>
z_iconst X dX5_readOpenings_29 <|
z_zret X Y dX5_readOpenings_30 (ok_ret (ok_some o)) kb_1 kb_1) kc_0 : At E s0 0 [(0, .ref (G.2.2.1 139))] [])
set_option maxHeartbeats 4000000 in
set_option maxRecDepth 100000 in
theorem ct_X5_readComparison   (G : Gw) (s0 : St) (r : Int) (σ1 : St) (e : fX5_readComparison s0 = some (r, σ1)) : Ct yX5_readComparison cX5_readComparison 2 (some .boolean) 3 68 SX G [.ref (G.2.2.1 139)] s0 (QI SX G r r01 σ1) :=
  Ct.of (by decide +kernel) (Nat.le_of_ble_eq_true rfl) fun E X Y => by
    have o : Ok (fX5_readComparison s0) (fun x σ' => x = r ∧ σ' = σ1) := ⟨r, σ1, e, rfl, rfl⟩
    unfold fX5_readComparison at o
    exact (
z_aload_n X 0 dX5_readComparison_0 rfl <|
z_callvI X dX5_readComparison_1 q_1057 wX5_readSum sx_139 rfl (by decide) [] [] rfl rfl (Nat.le_of_ble_eq_true rfl) (fun r σ1 e => ct_X5_readSum G _ r σ1 e) o fun r1 s2 h3 o =>
z_if_ne (tgt := 9) X dX5_readComparison_4 (by decide) (r01_rg h3) o (fun o =>
z_aload_n X 0 dX5_readComparison_9 rfl <|
z_getR (q := 145) X dX5_readComparison_10 fl_X5_45 sx_139 rfl <|
z_callvI X dX5_readComparison_13 q_1035 wX8_kind sx_145 rfl (by decide) [] [] rfl rfl (Nat.le_of_ble_eq_true rfl) (fun r σ1 e => ct_X8_kind G _ r σ1 e) o fun r4 s5 h6 o =>
z_istore_n (L1 := [(1, .int (pI r4)), (0, .ref (G.2.2.1 139))]) X dX5_readComparison_16 rfl (by decide) rfl <|
z_iload_n X 0 dX5_readComparison_17 rfl <|
z_bipush X dX5_readComparison_18 bi_60 <|
z_joix o (fun (y10 : Unit) s11 => True → At E s11 41 [(0, .ref (G.2.2.1 139)), (1, .int (pI r4))] []) (fun y10 s11 o r12 =>
z_aload_n X 0 dX5_readComparison_41 rfl <|
z_getR (q := 145) X dX5_readComparison_42 fl_X5_45 sx_139 rfl <|
z_callvV X dX5_readComparison_45 q_1052 wX8_advance sx_145 rfl (by decide) [] [] rfl rfl (Nat.le_of_ble_eq_true rfl) (fun r σ1 e => ct_X8_advance G _ r σ1 e) o fun r13 s14 o =>
z_aload_n X 0 dX5_readComparison_48 rfl <|
z_callvI X dX5_readComparison_49 q_1057 wX5_readSum sx_139 rfl (by decide) [] [] rfl rfl (Nat.le_of_ble_eq_true rfl) (fun r σ1 e => ct_X5_readSum G _ r σ1 e) o fun r16 s17 h18 o =>
z_if_ne (tgt := 57) X dX5_readComparison_52 (by decide) (r01_rg h18) o (fun o =>
z_aload_n X 0 dX5_readComparison_57 rfl <|
z_getR (q := 142) X dX5_readComparison_58 fl_X5_20 sx_139 rfl <|
z_iload_n X 1 dX5_readComparison_61 rfl <|
z_ineg X dX5_readComparison_62 <|
z_callvI X dX5_readComparison_63 q_1069 wX6_add sx_142 rfl (by decide) [.int (pI (w32 (-r4)))] [] rfl rfl (Nat.le_of_ble_eq_true rfl) (fun r σ1 e => ct_X6_add SX 142 143 400 (w32 (-r4)) ⟨sx_142, sx_143, (by decide)⟩ (w32_rg _) G _ r σ1 e) o fun r19 s20 h21 o =>
z_pop X dX5_readComparison_66 rfl <|
z_iconst X dX5_readComparison_67 <|
z_zret X Y dX5_readComparison_68 o kb_1 kb_1) fun o =>
z_iconst X dX5_readComparison_55 <|
z_zret X Y dX5_readComparison_56 o kb_0 kb_0) fun o =>
z_icmp_eq (tgt := 41) X dX5_readComparison_20 (by decide) h6 kc_60 o (fun o =>
z_sub (L1 := [(0, .ref (G.2.2.1 139)), (1, .int (pI r4))]) X [1, 0] rfl <|
ok_some o trivial) fun o =>
z_iload_n X 0 dX5_readComparison_23 rfl <|
z_bipush X dX5_readComparison_24 bi_61 <|
z_icmp_eq (tgt := 41) X dX5_readComparison_26 (by decide) h6 kc_61 o (fun o =>
z_sub (L1 := [(0, .ref (G.2.2.1 139)), (1, .int (pI r4))]) X [1, 0] rfl <|
ok_some o trivial) fun o =>
z_iload_n X 0 dX5_readComparison_29 rfl <|
z_bipush X dX5_readComparison_30 bi_62 <|
z_icmp_eq (tgt := 41) X dX5_readComparison_32 (by decide) h6 kc_62 o (fun o =>
z_sub (L1 := [(0, .ref (G.2.2.1 139)), (1, .int (pI r4))]) X [1, 0] rfl <|
ok_some o trivial) fun o =>
z_aload_n X 1 dX5_readComparison_35 rfl <|
z_iconst X dX5_readComparison_36 <|
z_callvI X dX5_readComparison_37 q_1043 wX5_refuse sx_139 rfl (by decide) [.int (pI 1)] [] rfl rfl (Nat.le_of_ble_eq_true rfl) (fun r σ1 e => ct_X5_refuse 1 kc_1 G _ r σ1 e) o fun r7 s8 h9 o =>
z_zret X Y dX5_readComparison_40 (ok_ret (ok_some o)) h9 h9) fun o =>
z_iconst X dX5_readComparison_7 <|
z_zret X Y dX5_readComparison_8 o kb_0 kb_0 : At E s0 0 [(0, .ref (G.2.2.1 139))] [])
set_option maxHeartbeats 4000000 in
set_option maxRecDepth 100000 in
theorem ct_X5_noteDown (p1 : Int) (hp1 : rg p1) (G : Gw) (s0 : St) (r : Int) (σ1 : St) (e : fX5_noteDown p1 s0 = some (r, σ1)) : Ct yX5_noteDown cX5_noteDown 2 none 1 21 SX G [.ref (G.2.2.1 139), .int (pI p1)] s0 (QV SX G σ1) :=
  Ct.of (by decide +kernel) (Nat.le_of_ble_eq_true rfl) fun E X Y => by
    have o : Ok (fX5_noteDown p1 s0) (fun x σ' => x = r ∧ σ' = σ1) := ⟨r, σ1, e, rfl, rfl⟩
    unfold fX5_noteDown at o
    exact (
z_join o (fun (y30 : Unit) s31 => True → At E s31 78 [] []) (fun y30 s31 o r32 =>
z_vret (v := 0) X Y dX5_noteDown_78 o) fun o =>
z_iter (fun (x1 : Unit) s2 => True → At E s2 0 [(0, .ref (G.2.2.1 139)), (1, .int (pI p1))] []) o (fun x1 s2 o r3 =>
z_aload_n X 0 dX5_noteDown_0 rfl <|
z_getI X dX5_noteDown_1 fl_X5_27 sx_139 rfl o fun v4 r5 o =>
z_if_le (tgt := 78) X dX5_noteDown_4 (by decide) r5 o (fun o =>
z_sub (L1 := []) X [] rfl <|
ok_some o trivial) fun o =>
z_aload_n X 0 dX5_noteDown_7 rfl <|
z_getR (q := 144) X dX5_noteDown_8 fl_X5_23 sx_139 rfl <|
z_aload_n X 0 dX5_noteDown_11 rfl <|
z_getI X dX5_noteDown_12 fl_X5_27 sx_139 rfl o fun v6 r7 o =>
z_iconst X dX5_noteDown_15 <|
z_isub X dX5_noteDown_16 <|
z_iald X dX5_noteDown_17 sx_144 (w32_rg _) o fun v8 r9 o =>
z_iload_n X 1 dX5_noteDown_18 rfl <|
z_icmp_lt (tgt := 78) X dX5_noteDown_19 (by decide) r9 hp1 o (fun o =>
z_sub (L1 := []) X [] rfl <|
ok_some o trivial) fun o =>
z_aload_n X 0 dX5_noteDown_22 rfl <|
z_dup X dX5_noteDown_23 rfl <|
z_getI X dX5_noteDown_24 fl_X5_27 sx_139 rfl o fun v10 r11 o =>
z_iconst X dX5_noteDown_27 <|
z_isub X dX5_noteDown_28 <|
z_putI X dX5_noteDown_29 fl_X5_27 sx_139 ft_X5_5 rfl (w32_rg _) o fun s12 o =>
z_aload_n X 0 dX5_noteDown_32 rfl <|
z_getR (q := 144) X dX5_noteDown_33 fl_X5_23 sx_139 rfl <|
z_aload_n X 0 dX5_noteDown_36 rfl <|
z_getI X dX5_noteDown_37 fl_X5_27 sx_139 rfl o fun v13 r14 o =>
z_iald X dX5_noteDown_40 sx_144 r14 o fun v15 r16 o =>
z_sipush X dX5_noteDown_41 si_266 <|
z_join o (fun (y20 : Unit) s21 => True → At E s21 57 [(0, .ref (G.2.2.1 139)), (1, .int (pI p1))] []) (fun y20 s21 o r22 =>
z_aload_n X 0 dX5_noteDown_57 rfl <|
z_getR (q := 142) X dX5_noteDown_58 fl_X5_20 sx_139 rfl <|
z_aload_n X 0 dX5_noteDown_61 rfl <|
z_getR (q := 144) X dX5_noteDown_62 fl_X5_23 sx_139 rfl <|
z_aload_n X 0 dX5_noteDown_65 rfl <|
z_getI X dX5_noteDown_66 fl_X5_27 sx_139 rfl o fun v23 r24 o =>
z_iald X dX5_noteDown_69 sx_144 r24 o fun v25 r26 o =>
z_ineg X dX5_noteDown_70 <|
z_callvI X dX5_noteDown_71 q_1069 wX6_add sx_142 rfl (by decide) [.int (pI (w32 (-v25)))] [] rfl rfl (Nat.le_of_ble_eq_true rfl) (fun r σ1 e => ct_X6_add SX 142 143 400 (w32 (-v25)) ⟨sx_142, sx_143, (by decide)⟩ (w32_rg _) G _ r σ1 e) o fun r27 s28 h29 o =>
z_pop X dX5_noteDown_74 rfl <|
z_goto (tgt := 0) X dX5_noteDown_75 (by decide) <|
ok_some o trivial) fun o =>
z_icmp_ne (tgt := 57) X dX5_noteDown_44 (by decide) r16 kc_266 o (fun o =>
ok_some o trivial) fun o =>
z_aload_n X 0 dX5_noteDown_47 rfl <|
z_dup X dX5_noteDown_48 rfl <|
z_getI X dX5_noteDown_49 fl_X5_31 sx_139 rfl o fun v17 r18 o =>
z_iconst X dX5_noteDown_52 <|
z_isub X dX5_noteDown_53 <|
z_putI X dX5_noteDown_54 fl_X5_31 sx_139 ft_X5_6 rfl (w32_rg _) o fun s19 o =>
ok_some o trivial) trivial : At E s0 0 [(0, .ref (G.2.2.1 139)), (1, .int (pI p1))] [])
