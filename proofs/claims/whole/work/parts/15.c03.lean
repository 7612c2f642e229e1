set_option maxHeartbeats 4000000 in
set_option maxRecDepth 100000 in
theorem ct_X4_longestRising (p1 : Int) (hp1 : rg p1) (G : Gw) (s0 : St) (r : Int) (σ1 : St) (e : fX4_longestRising p1 s0 = some (r, σ1)) : Ct yX4_longestRising cX4_longestRising 5 (some .int) 1 17 SX G [.ref (G.2.2.1 157), .int (pI p1)] s0 (QI SX G r rg σ1) :=
  Ct.of (by decide +kernel) (Nat.le_of_ble_eq_true rfl) fun E X Y => by
    have o : Ok (fX4_longestRising p1 s0) (fun x σ' => x = r ∧ σ' = σ1) := ⟨r, σ1, e, rfl, rfl⟩
    unfold fX4_longestRising at o
    exact (
z_iconst X dX4_longestRising_0 <|
z_istore_n (L1 := [(2, .int (pI 0)), (0, .ref (G.2.2.1 157)), (1, .int (pI p1))]) X dX4_longestRising_1 rfl (by decide) rfl <|
z_iconst X dX4_longestRising_2 <|
z_istore_n (L1 := [(3, .int (pI 0)), (2, .int (pI 0)), (0, .ref (G.2.2.1 157)), (1, .int (pI p1))]) X dX4_longestRising_3 rfl (by decide) rfl <|
z_join o (fun (y24 : Int) s25 => rg y24 → At E s25 94 [(2, .int (pI y24))] []) (fun y24 s25 o r26 =>
z_iload_n X 0 dX4_longestRising_94 rfl <|
z_iret X Y dX4_longestRising_95 o r26) fun o =>
z_sub (L1 := [(0, .ref (G.2.2.1 157)), (1, .int (pI p1)), (2, .int (pI 0)), (3, .int (pI 0))]) X [2, 3, 1, 0] rfl <|
z_iter (fun (x1 : Int × Int) s2 => rg x1.1 ∧ rg x1.2 → At E s2 4 [(0, .ref (G.2.2.1 157)), (1, .int (pI p1)), (2, .int (pI x1.1)), (3, .int (pI x1.2))] []) o (fun x1 s2 o r3 =>
z_iload_n X 3 dX4_longestRising_4 rfl <|
z_iload_n X 1 dX4_longestRising_5 rfl <|
z_icmp_ge (tgt := 94) X dX4_longestRising_6 (by decide) r3.2 hp1 o (fun o =>
z_sub (L1 := [(2, .int (pI x1.1))]) X [2] rfl <|
ok_some o r3.1) fun o =>
z_iload_n X 3 dX4_longestRising_9 rfl <|
z_bipush X dX4_longestRising_10 bi_9 <|
z_icmp_ge (tgt := 94) X dX4_longestRising_12 (by decide) r3.2 kc_9 o (fun o =>
z_sub (L1 := [(2, .int (pI x1.1))]) X [2] rfl <|
ok_some o r3.1) fun o =>
z_aload_n X 0 dX4_longestRising_15 rfl <|
z_getR (q := 170) X dX4_longestRising_16 fl_X4_49 sx_157 rfl <|
z_iload_n X 3 dX4_longestRising_19 rfl <|
z_iconst X dX4_longestRising_20 <|
z_iast X dX4_longestRising_21 sx_170 r3.2 kc_1 o fun s4 o =>
z_iconst X dX4_longestRising_22 <|
z_istore (L1 := [(4, .int (pI 0)), (0, .ref (G.2.2.1 157)), (1, .int (pI p1)), (2, .int (pI x1.1)), (3, .int (pI x1.2))]) X dX4_longestRising_23 (by decide) rfl <|
z_join o (fun (y17 : Unit) s18 => True → At E s18 77 [(0, .ref (G.2.2.1 157)), (1, .int (pI p1)), (2, .int (pI x1.1)), (3, .int (pI x1.2))] []) (fun y17 s18 o r19 =>
z_iload_n X 2 dX4_longestRising_77 rfl <|
z_aload_n X 0 dX4_longestRising_78 rfl <|
z_getR (q := 170) X dX4_longestRising_79 fl_X4_49 sx_157 rfl <|
z_iload_n X 3 dX4_longestRising_82 rfl <|
z_iald X dX4_longestRising_83 sx_170 r3.2 o fun v20 r21 o =>
z_mmax X dX4_longestRising_84 q_1274 q_840 q_174 q_841 (by decide) (Nat.le_of_ble_eq_true rfl) r3.1 r21 <|
z_istoreL_n (L1 := fun v22 => [(2, .int (pI v22)), (0, .ref (G.2.2.1 157)), (1, .int (pI p1)), (3, .int (pI x1.2))]) (R := rg) X dX4_longestRising_87 rfl (by decide) (fun _ => rfl) o (imx_rg r3.1 r21) fun v22 r23 o =>
z_iinc (L1 := [(3, .int (pI (w32 (x1.2 + 1)))), (2, .int (pI v22)), (0, .ref (G.2.2.1 157)), (1, .int (pI p1))]) X 3 dX4_longestRising_88 rfl (by decide) rfl <|
z_goto (tgt := 4) X dX4_longestRising_91 (by decide) <|
z_sub (L1 := [(0, .ref (G.2.2.1 157)), (1, .int (pI p1)), (2, .int (pI v22)), (3, .int (pI (w32 (x1.2 + 1))))]) X [2, 3, 1, 0] rfl <|
ok_some o ⟨r23, (w32_rg _)⟩) fun o =>
z_sub (L1 := [(0, .ref (G.2.2.1 157)), (1, .int (pI p1)), (2, .int (pI x1.1)), (3, .int (pI x1.2)), (4, .int (pI 0))]) X [1, 2, 3, 4, 0] rfl <|
z_iter (fun (x5 : Int) s6 => rg x5 → At E s6 25 [(0, .ref (G.2.2.1 157)), (1, .int (pI p1)), (2, .int (pI x1.1)), (3, .int (pI x1.2)), (4, .int (pI x5))] []) o (fun x5 s6 o r7 =>
z_iload X 4 dX4_longestRising_25 rfl <|
z_iload_n X 3 dX4_longestRising_27 rfl <|
z_icmp_ge (tgt := 77) X dX4_longestRising_28 (by decide) r7 r3.2 o (fun o =>
z_sub (L1 := [(0, .ref (G.2.2.1 157)), (1, .int (pI p1)), (2, .int (pI x1.1)), (3, .int (pI x1.2))]) X [0, 1, 2, 3] rfl <|
ok_some o trivial) fun o =>
z_aload_n X 0 dX4_longestRising_31 rfl <|
z_getR (q := 169) X dX4_longestRising_32 fl_X4_46 sx_157 rfl <|
z_iload X 4 dX4_longestRising_35 rfl <|
z_iald X dX4_longestRising_37 sx_169 r7 o fun v8 r9 o =>
z_aload_n X 0 dX4_longestRising_38 rfl <|
z_getR (q := 169) X dX4_longestRising_39 fl_X4_46 sx_157 rfl <|
z_iload_n X 3 dX4_longestRising_42 rfl <|
z_iald X dX4_longestRising_43 sx_169 r3.2 o fun v10 r11 o =>
z_icmp_ge (tgt := 71) X dX4_longestRising_44 (by decide) r9 r11 o (fun o =>
z_iinc (L1 := [(4, .int (pI (w32 (x5 + 1)))), (0, .ref (G.2.2.1 157)), (1, .int (pI p1)), (2, .int (pI x1.1)), (3, .int (pI x1.2))]) X 4 dX4_longestRising_71 rfl (by decide) rfl <|
z_goto (tgt := 25) X dX4_longestRising_74 (by decide) <|
z_sub (L1 := [(0, .ref (G.2.2.1 157)), (1, .int (pI p1)), (2, .int (pI x1.1)), (3, .int (pI x1.2)), (4, .int (pI (w32 (x5 + 1))))]) X [1, 2, 3, 4, 0] rfl <|
ok_some o (w32_rg _)) fun o =>
z_aload_n X 0 dX4_longestRising_47 rfl <|
z_getR (q := 170) X dX4_longestRising_48 fl_X4_49 sx_157 rfl <|
z_iload_n X 3 dX4_longestRising_51 rfl <|
z_aload_n X 0 dX4_longestRising_52 rfl <|
z_getR (q := 170) X dX4_longestRising_53 fl_X4_49 sx_157 rfl <|
z_iload_n X 3 dX4_longestRising_56 rfl <|
z_iald X dX4_longestRising_57 sx_170 r3.2 o fun v12 r13 o =>
z_aload_n X 0 dX4_longestRising_58 rfl <|
z_getR (q := 170) X dX4_longestRising_59 fl_X4_49 sx_157 rfl <|
z_iload X 4 dX4_longestRising_62 rfl <|
z_iald X dX4_longestRising_64 sx_170 r7 o fun v14 r15 o =>
z_iconst X dX4_longestRising_65 <|
z_iadd X dX4_longestRising_66 <|
z_mmax X dX4_longestRising_67 q_1274 q_840 q_174 q_841 (by decide) (Nat.le_of_ble_eq_true rfl) r13 (w32_rg _) <|
z_iast X dX4_longestRising_70 sx_170 r3.2 (imx_rg r13 (w32_rg _)) o fun s16 o =>
z_iinc (L1 := [(4, .int (pI (w32 (x5 + 1)))), (0, .ref (G.2.2.1 157)), (1, .int (pI p1)), (2, .int (pI x1.1)), (3, .int (pI x1.2))]) X 4 dX4_longestRising_71 rfl (by decide) rfl <|
z_goto (tgt := 25) X dX4_longestRising_74 (by decide) <|
z_sub (L1 := [(0, .ref (G.2.2.1 157)), (1, .int (pI p1)), (2, .int (pI x1.1)), (3, .int (pI x1.2)), (4, .int (pI (w32 (x5 + 1))))]) X [1, 2, 3, 4, 0] rfl <|
ok_some o (w32_rg _)) kc_0) ⟨kc_0, kc_0⟩ : At E s0 0 [(0, .ref (G.2.2.1 157)), (1, .int (pI p1))] [])
set_option maxHeartbeats 4000000 in
set_option maxRecDepth 100000 in
theorem ct_X4_lesserBehind (p1 : Int) (p2 : Int) (hp1 : rg p1) (hp2 : rg p2) (G : Gw) (s0 : St) (r : Int) (σ1 : St) (e : fX4_lesserBehind p1 p2 s0 = some (r, σ1)) : Ct yX4_lesserBehind cX4_lesserBehind 5 (some .int) 0 0 SX G [.ref (G.2.2.1 157), .int (pI p1), .int (pI p2)] s0 (QI SX G r rg σ1) :=
  Ct.of (by decide +kernel) (Nat.le_of_ble_eq_true rfl) fun E X Y => by
    have o : Ok (fX4_lesserBehind p1 p2 s0) (fun x σ' => x = r ∧ σ' = σ1) := ⟨r, σ1, e, rfl, rfl⟩
    unfold fX4_lesserBehind at o
    exact (
z_iconst X dX4_lesserBehind_0 <|
z_istore_n (L1 := [(3, .int (pI 0)), (0, .ref (G.2.2.1 157)), (1, .int (pI p1)), (2, .int (pI p2))]) X dX4_lesserBehind_1 rfl (by decide) rfl <|
z_iload_n X 2 dX4_lesserBehind_2 rfl <|
z_iconst X dX4_lesserBehind_3 <|
z_iadd X dX4_lesserBehind_4 <|
z_istoreL (L1 := fun v1 => [(4, .int (pI v1)), (3, .int (pI 0)), (0, .ref (G.2.2.1 157)), (1, .int (pI p1)), (2, .int (pI p2))]) (R := rg) X dX4_lesserBehind_5 (by decide) (fun _ => rfl) o (w32_rg _) fun v1 r2 o =>
z_join o (fun (y10 : Int) s11 => rg y10 → At E s11 45 [(3, .int (pI y10))] []) (fun y10 s11 o r12 =>
z_iload_n X 0 dX4_lesserBehind_45 rfl <|
z_iret X Y dX4_lesserBehind_46 o r12) fun o =>
z_sub (L1 := [(0, .ref (G.2.2.1 157)), (1, .int (pI p1)), (2, .int (pI p2)), (3, .int (pI 0)), (4, .int (pI v1))]) X [2, 3, 4, 1, 0] rfl <|
z_iter (fun (x3 : Int × Int) s4 => rg x3.1 ∧ rg x3.2 → At E s4 7 [(0, .ref (G.2.2.1 157)), (1, .int (pI p1)), (2, .int (pI p2)), (3, .int (pI x3.1)), (4, .int (pI x3.2))] []) o (fun x3 s4 o r5 =>
z_iload X 4 dX4_lesserBehind_7 rfl <|
z_iload_n X 2 dX4_lesserBehind_9 rfl <|
z_icmp_ge (tgt := 45) X dX4_lesserBehind_10 (by decide) r5.2 hp2 o (fun o =>
z_sub (L1 := [(3, .int (pI x3.1))]) X [3] rfl <|
ok_some o r5.1) fun o =>
z_iload X 4 dX4_lesserBehind_13 rfl <|
z_bipush X dX4_lesserBehind_15 bi_9 <|
z_icmp_ge (tgt := 45) X dX4_lesserBehind_17 (by decide) r5.2 kc_9 o (fun o =>
z_sub (L1 := [(3, .int (pI x3.1))]) X [3] rfl <|
ok_some o r5.1) fun o =>
z_aload_n X 0 dX4_lesserBehind_20 rfl <|
z_getR (q := 169) X dX4_lesserBehind_21 fl_X4_46 sx_157 rfl <|
z_iload X 4 dX4_lesserBehind_24 rfl <|
z_iald X dX4_lesserBehind_26 sx_169 r5.2 o fun v6 r7 o =>
z_aload_n X 0 dX4_lesserBehind_27 rfl <|
z_getR (q := 169) X dX4_lesserBehind_28 fl_X4_46 sx_157 rfl <|
z_iload_n X 1 dX4_lesserBehind_31 rfl <|
z_iald X dX4_lesserBehind_32 sx_169 hp1 o fun v8 r9 o =>
z_icmp_ge (tgt := 39) X dX4_lesserBehind_33 (by decide) r7 r9 o (fun o =>
z_iinc (L1 := [(4, .int (pI (w32 (x3.2 + 1)))), (0, .ref (G.2.2.1 157)), (1, .int (pI p1)), (2, .int (pI p2)), (3, .int (pI x3.1))]) X 4 dX4_lesserBehind_39 rfl (by decide) rfl <|
z_goto (tgt := 7) X dX4_lesserBehind_42 (by decide) <|
z_sub (L1 := [(0, .ref (G.2.2.1 157)), (1, .int (pI p1)), (2, .int (pI p2)), (3, .int (pI x3.1)), (4, .int (pI (w32 (x3.2 + 1))))]) X [1, 2, 3, 4, 0] rfl <|
ok_some o ⟨r5.1, (w32_rg _)⟩) fun o =>
z_iinc (L1 := [(3, .int (pI (w32 (x3.1 + 1)))), (0, .ref (G.2.2.1 157)), (1, .int (pI p1)), (2, .int (pI p2)), (4, .int (pI x3.2))]) X 3 dX4_lesserBehind_36 rfl (by decide) rfl <|
z_iinc (L1 := [(4, .int (pI (w32 (x3.2 + 1)))), (3, .int (pI (w32 (x3.1 + 1)))), (0, .ref (G.2.2.1 157)), (1, .int (pI p1)), (2, .int (pI p2))]) X 4 dX4_lesserBehind_39 rfl (by decide) rfl <|
z_goto (tgt := 7) X dX4_lesserBehind_42 (by decide) <|
z_sub (L1 := [(0, .ref (G.2.2.1 157)), (1, .int (pI p1)), (2, .int (pI p2)), (3, .int (pI (w32 (x3.1 + 1)))), (4, .int (pI (w32 (x3.2 + 1))))]) X [2, 3, 4, 1, 0] rfl <|
ok_some o ⟨(w32_rg _), (w32_rg _)⟩) ⟨kc_0, r2⟩ : At E s0 0 [(0, .ref (G.2.2.1 157)), (1, .int (pI p1)), (2, .int (pI p2))] [])
set_option maxHeartbeats 4000000 in
set_option maxRecDepth 100000 in
theorem ct_X4_wrongCouples (p1 : Int) (hp1 : rg p1) (G : Gw) (s0 : St) (r : Int) (σ1 : St) (e : fX4_wrongCouples p1 s0 = some (r, σ1)) : Ct yX4_wrongCouples cX4_wrongCouples 4 (some .int) 1 24 SX G [.ref (G.2.2.1 157), .int (pI p1)] s0 (QI SX G r rg σ1) :=
  Ct.of (by decide +kernel) (Nat.le_of_ble_eq_true rfl) fun E X Y => by
    have o : Ok (fX4_wrongCouples p1 s0) (fun x σ' => x = r ∧ σ' = σ1) := ⟨r, σ1, e, rfl, rfl⟩
    unfold fX4_wrongCouples at o
    exact (
z_iconst X dX4_wrongCouples_0 <|
z_istore_n (L1 := [(2, .int (pI 0)), (0, .ref (G.2.2.1 157)), (1, .int (pI p1))]) X dX4_wrongCouples_1 rfl (by decide) rfl <|
z_iconst X dX4_wrongCouples_2 <|
z_istore_n (L1 := [(3, .int (pI 0)), (2, .int (pI 0)), (0, .ref (G.2.2.1 157)), (1, .int (pI p1))]) X dX4_wrongCouples_3 rfl (by decide) rfl <|
z_join o (fun (y9 : Int) s10 => rg y9 → At E s10 24 [(2, .int (pI y9))] []) (fun y9 s10 o r11 =>
z_iload_n X 0 dX4_wrongCouples_24 rfl <|
z_iret X Y dX4_wrongCouples_25 o r11) fun o =>
z_sub (L1 := [(0, .ref (G.2.2.1 157)), (1, .int (pI p1)), (2, .int (pI 0)), (3, .int (pI 0))]) X [2, 3, 1, 0] rfl <|
z_iter (fun (x1 : Int × Int) s2 => rg x1.1 ∧ rg x1.2 → At E s2 4 [(0, .ref (G.2.2.1 157)), (1, .int (pI p1)), (2, .int (pI x1.1)), (3, .int (pI x1.2))] []) o (fun x1 s2 o r3 =>
z_iload_n X 3 dX4_wrongCouples_4 rfl <|
z_iload_n X 1 dX4_wrongCouples_5 rfl <|
z_icmp_ge (tgt := 24) X dX4_wrongCouples_6 (by decide) r3.2 hp1 o (fun o =>
z_sub (L1 := [(2, .int (pI x1.1))]) X [2] rfl <|
ok_some o r3.1) fun o =>
z_iload_n X 2 dX4_wrongCouples_9 rfl <|
z_aload_n X 0 dX4_wrongCouples_10 rfl <|
z_iload_n X 3 dX4_wrongCouples_11 rfl <|
z_iload_n X 1 dX4_wrongCouples_12 rfl <|
z_callvI X dX4_wrongCouples_13 q_1483 wX4_lesserBehind sx_157 rfl (by decide) [.int (pI x1.2), .int (pI p1)] [.int (pI x1.1)] rfl rfl (Nat.le_of_ble_eq_true rfl) (fun r σ1 e => ct_X4_lesserBehind x1.2 p1 r3.2 hp1 G _ r σ1 e) o fun r4 s5 h6 o =>
z_iadd X dX4_wrongCouples_16 <|
z_istoreL_n (L1 := fun v7 => [(2, .int (pI v7)), (0, .ref (G.2.2.1 157)), (1, .int (pI p1)), (3, .int (pI x1.2))]) (R := rg) X dX4_wrongCouples_17 rfl (by decide) (fun _ => rfl) o (w32_rg _) fun v7 r8 o =>
z_iinc (L1 := [(3, .int (pI (w32 (x1.2 + 1)))), (2, .int (pI v7)), (0, .ref (G.2.2.1 157)), (1, .int (pI p1))]) X 3 dX4_wrongCouples_18 rfl (by decide) rfl <|
z_goto (tgt := 4) X dX4_wrongCouples_21 (by decide) <|
z_sub (L1 := [(0, .ref (G.2.2.1 157)), (1, .int (pI p1)), (2, .int (pI v7)), (3, .int (pI (w32 (x1.2 + 1))))]) X [2, 3, 1, 0] rfl <|
ok_some o ⟨r8, (w32_rg _)⟩) ⟨kc_0, kc_0⟩ : At E s0 0 [(0, .ref (G.2.2.1 157)), (1, .int (pI p1))] [])
set_option maxHeartbeats 4000000 in
set_option maxRecDepth 100000 in
theorem ct_X4_placeAmongAll (p1 : Int) (hp1 : rg p1) (G : Gw) (s0 : St) (r : Int) (σ1 : St) (e : fX4_placeAmongAll p1 s0 = some (r, σ1)) : Ct yX4_placeAmongAll cX4_placeAmongAll 4 (some .int) 1 24 SX G [.ref (G.2.2.1 157), .int (pI p1)] s0 (QI SX G r rg σ1) :=
  Ct.of (by decide +kernel) (Nat.le_of_ble_eq_true rfl) fun E X Y => by
    have o : Ok (fX4_placeAmongAll p1 s0) (fun x σ' => x = r ∧ σ' = σ1) := ⟨r, σ1, e, rfl, rfl⟩
    unfold fX4_placeAmongAll at o
    exact (
z_iconst X dX4_placeAmongAll_0 <|
z_istore_n (L1 := [(2, .int (pI 0)), (0, .ref (G.2.2.1 157)), (1, .int (pI p1))]) X dX4_placeAmongAll_1 rfl (by decide) rfl <|
z_iconst X dX4_placeAmongAll_2 <|
z_istore_n (L1 := [(3, .int (pI 0)), (2, .int (pI 0)), (0, .ref (G.2.2.1 157)), (1, .int (pI p1))]) X dX4_placeAmongAll_3 rfl (by decide) rfl <|
z_join o (fun (y9 : Int) s10 => rg y9 → At E s10 28 [(2, .int (pI y9))] []) (fun y9 s10 o r11 =>
z_iload_n X 0 dX4_placeAmongAll_28 rfl <|
z_iret X Y dX4_placeAmongAll_29 o r11) fun o =>
z_sub (L1 := [(0, .ref (G.2.2.1 157)), (1, .int (pI p1)), (2, .int (pI 0)), (3, .int (pI 0))]) X [2, 3, 1, 0] rfl <|
z_iter (fun (x1 : Int × Int) s2 => rg x1.1 ∧ rg x1.2 → At E s2 4 [(0, .ref (G.2.2.1 157)), (1, .int (pI p1)), (2, .int (pI x1.1)), (3, .int (pI x1.2))] []) o (fun x1 s2 o r3 =>
z_iload_n X 3 dX4_placeAmongAll_4 rfl <|
z_iload_n X 1 dX4_placeAmongAll_5 rfl <|
z_icmp_ge (tgt := 28) X dX4_placeAmongAll_6 (by decide) r3.2 hp1 o (fun o =>
z_sub (L1 := [(2, .int (pI x1.1))]) X [2] rfl <|
ok_some o r3.1) fun o =>
z_iload_n X 2 dX4_placeAmongAll_9 rfl <|
z_iload_n X 1 dX4_placeAmongAll_10 rfl <|
z_iload_n X 3 dX4_placeAmongAll_11 rfl <|
z_isub X dX4_placeAmongAll_12 <|
z_imul X dX4_placeAmongAll_13 <|
z_aload_n X 0 dX4_placeAmongAll_14 rfl <|
z_iload_n X 3 dX4_placeAmongAll_15 rfl <|
z_iload_n X 1 dX4_placeAmongAll_16 rfl <|
z_callvI X dX4_placeAmongAll_17 q_1483 wX4_lesserBehind sx_157 rfl (by decide) [.int (pI x1.2), .int (pI p1)] [.int (pI (w32 (x1.1 * w32 (p1 - x1.2))))] rfl rfl (Nat.le_of_ble_eq_true rfl) (fun r σ1 e => ct_X4_lesserBehind x1.2 p1 r3.2 hp1 G _ r σ1 e) o fun r4 s5 h6 o =>
z_iadd X dX4_placeAmongAll_20 <|
z_istoreL_n (L1 := fun v7 => [(2, .int (pI v7)), (0, .ref (G.2.2.1 157)), (1, .int (pI p1)), (3, .int (pI x1.2))]) (R := rg) X dX4_placeAmongAll_21 rfl (by decide) (fun _ => rfl) o (w32_rg _) fun v7 r8 o =>
z_iinc (L1 := [(3, .int (pI (w32 (x1.2 + 1)))), (2, .int (pI v7)), (0, .ref (G.2.2.1 157)), (1, .int (pI p1))]) X 3 dX4_placeAmongAll_22 rfl (by decide) rfl <|
z_goto (tgt := 4) X dX4_placeAmongAll_25 (by decide) <|
z_sub (L1 := [(0, .ref (G.2.2.1 157)), (1, .int (pI p1)), (2, .int (pI v7)), (3, .int (pI (w32 (x1.2 + 1))))]) X [2, 3, 1, 0] rfl <|
ok_some o ⟨r8, (w32_rg _)⟩) ⟨kc_0, kc_0⟩ : At E s0 0 [(0, .ref (G.2.2.1 157)), (1, .int (pI p1))] [])
set_option maxHeartbeats 4000000 in
set_option maxRecDepth 100000 in
theorem ct_X11_hooks (p1 : Int) (p2 : Int) (hp1 : rg p1) (hp2 : rg p2) (G : Gw) (s0 : St) (r : Int) (σ1 : St) (e : fX11_hooks p1 p2 s0 = some (r, σ1)) : Ct yX11_hooks cX11_hooks 4 (some .int) 2 47 SX G [.ref (G.2.2.1 0), .int (pI p1), .int (pI p2)] s0 (QI SX G r rg σ1) :=
  Ct.of (by decide +kernel) (Nat.le_of_ble_eq_true rfl) fun E X Y => by
    have o : Ok (fX11_hooks p1 p2 s0) (fun x σ' => x = r ∧ σ' = σ1) := ⟨r, σ1, e, rfl, rfl⟩
    unfold fX11_hooks at o
    exact (
z_aload_n X 0 dX11_hooks_0 rfl <|
z_getR (q := 157) X dX11_hooks_1 fl_X11_90 sx_0 rfl <|
z_iload_n X 1 dX11_hooks_4 rfl <|
z_callvI X dX11_hooks_5 q_1471 wX4_hang sx_157 rfl (by decide) [.int (pI p1)] [] rfl rfl (Nat.le_of_ble_eq_true rfl) (fun r σ1 e => ct_X4_hang p1 hp1 G _ r σ1 e) o fun r1 s2 h3 o =>
z_istore_n (L1 := [(3, .int (pI r1)), (0, .ref (G.2.2.1 0)), (1, .int (pI p1)), (2, .int (pI p2))]) X dX11_hooks_8 rfl (by decide) rfl <|
z_iload_n X 0 dX11_hooks_9 rfl <|
z_iconst X dX11_hooks_10 <|
z_icmp_ne (tgt := 16) X dX11_hooks_11 (by decide) h3 kc_m1 o (fun o =>
z_iload_n X 3 dX11_hooks_16 rfl <|
z_cas o (fun c4 o =>
z_tin (tgt := 44) X 0 dX11_hooks_17 hp2 (by omega) rfl (by omega) (by decide) <|
z_aload_n X 1 dX11_hooks_44 rfl <|
z_getR (q := 157) X dX11_hooks_45 fl_X11_90 sx_0 rfl <|
z_iload_n X 0 dX11_hooks_48 rfl <|
z_callvI X dX11_hooks_49 q_1475 wX4_longestRising sx_157 rfl (by decide) [.int (pI r1)] [] rfl rfl (Nat.le_of_ble_eq_true rfl) (fun r σ1 e => ct_X4_longestRising r1 h3 G _ r σ1 e) o fun r5 s6 h7 o =>
z_iret X Y dX11_hooks_52 o h7) fun c4 o =>
z_cas o (fun c8 o =>
z_tin (tgt := 53) X 1 dX11_hooks_17 hp2 (by omega) rfl (by omega) (by decide) <|
z_aload_n X 1 dX11_hooks_53 rfl <|
z_getR (q := 157) X dX11_hooks_54 fl_X11_90 sx_0 rfl <|
z_iload_n X 0 dX11_hooks_57 rfl <|
z_callvI X dX11_hooks_58 q_1479 wX4_wrongCouples sx_157 rfl (by decide) [.int (pI r1)] [] rfl rfl (Nat.le_of_ble_eq_true rfl) (fun r σ1 e => ct_X4_wrongCouples r1 h3 G _ r σ1 e) o fun r9 s10 h11 o =>
z_iret X Y dX11_hooks_61 o h11) fun c8 o =>
z_cas o (fun c12 o =>
z_tin (tgt := 62) X 2 dX11_hooks_17 hp2 (by omega) rfl (by omega) (by decide) <|
z_aload_n X 1 dX11_hooks_62 rfl <|
z_getR (q := 157) X dX11_hooks_63 fl_X11_90 sx_0 rfl <|
z_iload_n X 0 dX11_hooks_66 rfl <|
z_callvI X dX11_hooks_67 q_1487 wX4_placeAmongAll sx_157 rfl (by decide) [.int (pI r1)] [] rfl rfl (Nat.le_of_ble_eq_true rfl) (fun r σ1 e => ct_X4_placeAmongAll r1 h3 G _ r σ1 e) o fun r13 s14 h15 o =>
z_iret X Y dX11_hooks_70 o h15) fun c12 o =>
z_tout (tgt := 71) X dX11_hooks_17 hp2 (by omega) (by decide) <|
z_iconst X dX11_hooks_71 <|
z_iret X Y dX11_hooks_72 o kc_m1) fun o =>
z_iconst X dX11_hooks_14 <|
z_iret X Y dX11_hooks_15 o kc_m1 : At E s0 0 [(0, .ref (G.2.2.1 0)), (1, .int (pI p1)), (2, .int (pI p2))] [])
set_option maxHeartbeats 4000000 in
set_option maxRecDepth 100000 in
theorem ct_X6_copyFrom (S : List Kd) (ro rc rn : Nat) (ro2 rc2 rn2 : Nat) (hR : isR S ro rc rn) (hR2 : isR S ro2 rc2 rn2) (G : Gw) (s0 : St) (r : Int) (σ1 : St) (e : fX6_copyFrom ro rc rn ro2 rc2 rn2 s0 = some (r, σ1)) : Ct yX6_copyFrom cX6_copyFrom 2 none 1 40 S G [.ref (G.2.2.1 ro), .ref (G.2.2.1 ro2)] s0 (QV S G σ1) :=
  Ct.of (by decide +kernel) (Nat.le_of_ble_eq_true rfl) fun E X Y => by
    have o : Ok (fX6_copyFrom ro rc rn ro2 rc2 rn2 s0) (fun x σ' => x = r ∧ σ' = σ1) := ⟨r, σ1, e, rfl, rfl⟩
    unfold fX6_copyFrom at o
    exact (
z_aload_n X 1 dX6_copyFrom_0 rfl <|
z_getI X dX6_copyFrom_1 fl_X6_9 hR2.1 rfl o fun v1 r2 o =>
z_aload_n X 0 dX6_copyFrom_4 rfl <|
z_getI X dX6_copyFrom_5 fl_X6_9 hR.1 rfl o fun v3 r4 o =>
z_icmp_ne (tgt := 24) X dX6_copyFrom_8 (by decide) r2 r4 o (fun o =>
z_vret (v := 0) X Y dX6_copyFrom_24 o) fun o =>
z_aload_n X 1 dX6_copyFrom_11 rfl <|
z_getR (q := rc2) X dX6_copyFrom_12 fl_X6_15 hR2.1 rfl <|
z_alen X dX6_copyFrom_15 hR2.2.1 <|
z_aload_n X 0 dX6_copyFrom_16 rfl <|
z_getR (q := rc) X dX6_copyFrom_17 fl_X6_15 hR.1 rfl <|
z_alen X dX6_copyFrom_20 hR.2.1 <|
z_icmp_eq (tgt := 25) X dX6_copyFrom_21 (by decide) (nrg hR2.2.2) (nrg hR.2.2) o (fun o =>
z_aload_n X 0 dX6_copyFrom_25 rfl <|
z_aload_n X 1 dX6_copyFrom_26 rfl <|
z_getI X dX6_copyFrom_27 fl_X6_19 hR2.1 rfl o fun v5 r6 o =>
z_putI X dX6_copyFrom_30 fl_X6_19 hR.1 ft_X6_2 rfl r6 o fun s7 o =>
z_aload_n X 1 dX6_copyFrom_33 rfl <|
z_getR (q := rc2) X dX6_copyFrom_34 fl_X6_15 hR2.1 rfl <|
z_iconst X dX6_copyFrom_37 <|
z_aload_n X 0 dX6_copyFrom_38 rfl <|
z_getR (q := rc) X dX6_copyFrom_39 fl_X6_15 hR.1 rfl <|
z_iconst X dX6_copyFrom_42 <|
z_aload_n X 0 dX6_copyFrom_43 rfl <|
z_getI X dX6_copyFrom_44 fl_X6_19 hR.1 rfl o fun v8 r9 o =>
z_aload_n X 0 dX6_copyFrom_47 rfl <|
z_getI X dX6_copyFrom_48 fl_X6_9 hR.1 rfl o fun v10 r11 o =>
z_imul X dX6_copyFrom_51 <|
z_copy X dX6_copyFrom_52 q_1146 q_743 q_742 q_172 hR2.2.1 hR.2.1 kc_0 kc_0 (w32_rg _) (by decide) (Nat.le_of_ble_eq_true rfl) o fun s12 o =>
z_vret (v := 0) X Y dX6_copyFrom_55 o) fun o =>
z_vret (v := 0) X Y dX6_copyFrom_24 o : At E s0 0 [(0, .ref (G.2.2.1 ro)), (1, .ref (G.2.2.1 ro2))] [])
set_option maxHeartbeats 4000000 in
set_option maxRecDepth 100000 in
theorem ct_X9_copyFrom_17_199   (G : Gw) (s0 : St) (r : Int) (σ1 : St) (e : fX9_copyFrom_17_199 s0 = some (r, σ1)) : Ct yX9_copyFrom cX9_copyFrom 2 none 2 61 SX G [.ref (G.2.2.1 17), .ref (G.2.2.1 199)] s0 (QV SX G σ1) :=
  Ct.of (by decide +kernel) (Nat.le_of_ble_eq_true rfl) fun E X Y => by
    have o : Ok (fX9_copyFrom_17_199 s0) (fun x σ' => x = r ∧ σ' = σ1) := ⟨r, σ1, e, rfl, rfl⟩
    unfold fX9_copyFrom_17_199 at o
    exact (
z_aload_n X 0 dX9_copyFrom_0 rfl <|
z_getR (q := 18) X dX9_copyFrom_1 fl_X9_14 sx_17 rfl <|
z_aload_n X 1 dX9_copyFrom_4 rfl <|
z_getR (q := 200) X dX9_copyFrom_5 fl_X9_14 sx_199 rfl <|
z_callvV X dX9_copyFrom_8 q_1524 wX6_copyFrom sx_18 rfl (by decide) [.ref (G.2.2.1 200)] [] rfl rfl (Nat.le_of_ble_eq_true rfl) (fun r σ1 e => ct_X6_copyFrom SX 18 19 64 200 201 64 ⟨sx_18, sx_19, (by decide)⟩ ⟨sx_200, sx_201, (by decide)⟩ G _ r σ1 e) o fun r1 s2 o =>
z_aload_n X 0 dX9_copyFrom_11 rfl <|
z_getR (q := 20) X dX9_copyFrom_12 fl_X9_20 sx_17 rfl <|
z_aload_n X 1 dX9_copyFrom_15 rfl <|
z_getR (q := 202) X dX9_copyFrom_16 fl_X9_20 sx_199 rfl <|
z_callvV X dX9_copyFrom_19 q_1524 wX6_copyFrom sx_20 rfl (by decide) [.ref (G.2.2.1 202)] [] rfl rfl (Nat.le_of_ble_eq_true rfl) (fun r σ1 e => ct_X6_copyFrom SX 20 21 400 202 203 400 ⟨sx_20, sx_21, (by decide)⟩ ⟨sx_202, sx_203, (by decide)⟩ G _ r σ1 e) o fun r4 s5 o =>
z_aload_n X 0 dX9_copyFrom_22 rfl <|
z_getR (q := 22) X dX9_copyFrom_23 fl_X9_23 sx_17 rfl <|
z_aload_n X 1 dX9_copyFrom_26 rfl <|
z_getR (q := 204) X dX9_copyFrom_27 fl_X9_23 sx_199 rfl <|
z_callvV X dX9_copyFrom_30 q_1524 wX6_copyFrom sx_22 rfl (by decide) [.ref (G.2.2.1 204)] [] rfl rfl (Nat.le_of_ble_eq_true rfl) (fun r σ1 e => ct_X6_copyFrom SX 22 23 64 204 205 64 ⟨sx_22, sx_23, (by decide)⟩ ⟨sx_204, sx_205, (by decide)⟩ G _ r σ1 e) o fun r7 s8 o =>
z_aload_n X 0 dX9_copyFrom_33 rfl <|
z_getR (q := 24) X dX9_copyFrom_34 fl_X9_26 sx_17 rfl <|
z_aload_n X 1 dX9_copyFrom_37 rfl <|
z_getR (q := 206) X dX9_copyFrom_38 fl_X9_26 sx_199 rfl <|
z_callvV X dX9_copyFrom_41 q_1524 wX6_copyFrom sx_24 rfl (by decide) [.ref (G.2.2.1 206)] [] rfl rfl (Nat.le_of_ble_eq_true rfl) (fun r σ1 e => ct_X6_copyFrom SX 24 25 64 206 207 64 ⟨sx_24, sx_25, (by decide)⟩ ⟨sx_206, sx_207, (by decide)⟩ G _ r σ1 e) o fun r10 s11 o =>
z_aload_n X 0 dX9_copyFrom_44 rfl <|
z_getR (q := 26) X dX9_copyFrom_45 fl_X9_29 sx_17 rfl <|
z_aload_n X 1 dX9_copyFrom_48 rfl <|
z_getR (q := 208) X dX9_copyFrom_49 fl_X9_29 sx_199 rfl <|
z_callvV X dX9_copyFrom_52 q_1524 wX6_copyFrom sx_26 rfl (by decide) [.ref (G.2.2.1 208)] [] rfl rfl (Nat.le_of_ble_eq_true rfl) (fun r σ1 e => ct_X6_copyFrom SX 26 27 64 208 209 64 ⟨sx_26, sx_27, (by decide)⟩ ⟨sx_208, sx_209, (by decide)⟩ G _ r σ1 e) o fun r13 s14 o =>
z_aload_n X 0 dX9_copyFrom_55 rfl <|
z_getR (q := 28) X dX9_copyFrom_56 fl_X9_32 sx_17 rfl <|
z_aload_n X 1 dX9_copyFrom_59 rfl <|
z_getR (q := 210) X dX9_copyFrom_60 fl_X9_32 sx_199 rfl <|
z_callvV X dX9_copyFrom_63 q_1524 wX6_copyFrom sx_28 rfl (by decide) [.ref (G.2.2.1 210)] [] rfl rfl (Nat.le_of_ble_eq_true rfl) (fun r σ1 e => ct_X6_copyFrom SX 28 29 50 210 211 50 ⟨sx_28, sx_29, (by decide)⟩ ⟨sx_210, sx_211, (by decide)⟩ G _ r σ1 e) o fun r16 s17 o =>
z_aload_n X 0 dX9_copyFrom_66 rfl <|
z_getR (q := 30) X dX9_copyFrom_67 fl_X9_35 sx_17 rfl <|
z_aload_n X 1 dX9_copyFrom_70 rfl <|
z_getR (q := 212) X dX9_copyFrom_71 fl_X9_35 sx_199 rfl <|
z_callvV X dX9_copyFrom_74 q_1524 wX6_copyFrom sx_30 rfl (by decide) [.ref (G.2.2.1 212)] [] rfl rfl (Nat.le_of_ble_eq_true rfl) (fun r σ1 e => ct_X6_copyFrom SX 30 31 10 212 213 10 ⟨sx_30, sx_31, (by decide)⟩ ⟨sx_212, sx_213, (by decide)⟩ G _ r σ1 e) o fun r19 s20 o =>
z_aload_n X 0 dX9_copyFrom_77 rfl <|
z_getR (q := 32) X dX9_copyFrom_78 fl_X9_38 sx_17 rfl <|
z_aload_n X 1 dX9_copyFrom_81 rfl <|
z_getR (q := 214) X dX9_copyFrom_82 fl_X9_38 sx_199 rfl <|
z_callvV X dX9_copyFrom_85 q_1524 wX6_copyFrom sx_32 rfl (by decide) [.ref (G.2.2.1 214)] [] rfl rfl (Nat.le_of_ble_eq_true rfl) (fun r σ1 e => ct_X6_copyFrom SX 32 33 48 214 215 48 ⟨sx_32, sx_33, (by decide)⟩ ⟨sx_214, sx_215, (by decide)⟩ G _ r σ1 e) o fun r22 s23 o =>
z_aload_n X 0 dX9_copyFrom_88 rfl <|
z_getR (q := 34) X dX9_copyFrom_89 fl_X9_41 sx_17 rfl <|
z_aload_n X 1 dX9_copyFrom_92 rfl <|
z_getR (q := 216) X dX9_copyFrom_93 fl_X9_41 sx_199 rfl <|
z_callvV X dX9_copyFrom_96 q_1524 wX6_copyFrom sx_34 rfl (by decide) [.ref (G.2.2.1 216)] [] rfl rfl (Nat.le_of_ble_eq_true rfl) (fun r σ1 e => ct_X6_copyFrom SX 34 35 8 216 217 8 ⟨sx_34, sx_35, (by decide)⟩ ⟨sx_216, sx_217, (by decide)⟩ G _ r σ1 e) o fun r25 s26 o =>
z_aload_n X 0 dX9_copyFrom_99 rfl <|
z_getR (q := 36) X dX9_copyFrom_100 fl_X9_44 sx_17 rfl <|
z_aload_n X 1 dX9_copyFrom_103 rfl <|
z_getR (q := 218) X dX9_copyFrom_104 fl_X9_44 sx_199 rfl <|
z_callvV X dX9_copyFrom_107 q_1524 wX6_copyFrom sx_36 rfl (by decide) [.ref (G.2.2.1 218)] [] rfl rfl (Nat.le_of_ble_eq_true rfl) (fun r σ1 e => ct_X6_copyFrom SX 36 37 12 218 219 12 ⟨sx_36, sx_37, (by decide)⟩ ⟨sx_218, sx_219, (by decide)⟩ G _ r σ1 e) o fun r28 s29 o =>
z_aload_n X 0 dX9_copyFrom_110 rfl <|
z_getR (q := 38) X dX9_copyFrom_111 fl_X9_47 sx_17 rfl <|
z_aload_n X 1 dX9_copyFrom_114 rfl <|
z_getR (q := 220) X dX9_copyFrom_115 fl_X9_47 sx_199 rfl <|
z_callvV X dX9_copyFrom_118 q_1524 wX6_copyFrom sx_38 rfl (by decide) [.ref (G.2.2.1 220)] [] rfl rfl (Nat.le_of_ble_eq_true rfl) (fun r σ1 e => ct_X6_copyFrom SX 38 39 24 220 221 24 ⟨sx_38, sx_39, (by decide)⟩ ⟨sx_220, sx_221, (by decide)⟩ G _ r σ1 e) o fun r31 s32 o =>
z_aload_n X 0 dX9_copyFrom_121 rfl <|
z_getR (q := 40) X dX9_copyFrom_122 fl_X9_50 sx_17 rfl <|
z_aload_n X 1 dX9_copyFrom_125 rfl <|
z_getR (q := 222) X dX9_copyFrom_126 fl_X9_50 sx_199 rfl <|
z_callvV X dX9_copyFrom_129 q_1524 wX6_copyFrom sx_40 rfl (by decide) [.ref (G.2.2.1 222)] [] rfl rfl (Nat.le_of_ble_eq_true rfl) (fun r σ1 e => ct_X6_copyFrom SX 40 41 12 222 223 12 ⟨sx_40, sx_41, (by decide)⟩ ⟨sx_222, sx_223, (by decide)⟩ G _ r σ1 e) o fun r34 s35 o =>
z_aload_n X 0 dX9_copyFrom_132 rfl <|
z_getR (q := 42) X dX9_copyFrom_133 fl_X9_53 sx_17 rfl <|
z_aload_n X 1 dX9_copyFrom_136 rfl <|
z_getR (q := 224) X dX9_copyFrom_137 fl_X9_53 sx_199 rfl <|
z_callvV X dX9_copyFrom_140 q_1524 wX6_copyFrom sx_42 rfl (by decide) [.ref (G.2.2.1 224)] [] rfl rfl (Nat.le_of_ble_eq_true rfl) (fun r σ1 e => ct_X6_copyFrom SX 42 43 12 224 225 12 ⟨sx_42, sx_43, (by decide)⟩ ⟨sx_224, sx_225, (by decide)⟩ G _ r σ1 e) o fun r37 s38 o =>
z_aload_n X 0 dX9_copyFrom_143 rfl <|
z_getR (q := 44) X dX9_copyFrom_144 fl_X9_56 sx_17 rfl <|
z_aload_n X 1 dX9_copyFrom_147 rfl <|
z_getR (q := 226) X dX9_copyFrom_148 fl_X9_56 sx_199 rfl <|
z_callvV X dX9_copyFrom_151 q_1524 wX6_copyFrom sx_44 rfl (by decide) [.ref (G.2.2.1 226)] [] rfl rfl (Nat.le_of_ble_eq_true rfl) (fun r σ1 e => ct_X6_copyFrom SX 44 45 24 226 227 24 ⟨sx_44, sx_45, (by decide)⟩ ⟨sx_226, sx_227, (by decide)⟩ G _ r σ1 e) o fun r40 s41 o =>
z_aload_n X 0 dX9_copyFrom_154 rfl <|
z_getR (q := 46) X dX9_copyFrom_155 fl_X9_59 sx_17 rfl <|
z_aload_n X 1 dX9_copyFrom_158 rfl <|
z_getR (q := 228) X dX9_copyFrom_159 fl_X9_59 sx_199 rfl <|
z_callvV X dX9_copyFrom_162 q_1524 wX6_copyFrom sx_46 rfl (by decide) [.ref (G.2.2.1 228)] [] rfl rfl (Nat.le_of_ble_eq_true rfl) (fun r σ1 e => ct_X6_copyFrom SX 46 47 8 228 229 8 ⟨sx_46, sx_47, (by decide)⟩ ⟨sx_228, sx_229, (by decide)⟩ G _ r σ1 e) o fun r43 s44 o =>
z_aload_n X 0 dX9_copyFrom_165 rfl <|
z_getR (q := 48) X dX9_copyFrom_166 fl_X9_62 sx_17 rfl <|
z_aload_n X 1 dX9_copyFrom_169 rfl <|
z_getR (q := 230) X dX9_copyFrom_170 fl_X9_62 sx_199 rfl <|
z_callvV X dX9_copyFrom_173 q_1524 wX6_copyFrom sx_48 rfl (by decide) [.ref (G.2.2.1 230)] [] rfl rfl (Nat.le_of_ble_eq_true rfl) (fun r σ1 e => ct_X6_copyFrom SX 48 49 16 230 231 16 ⟨sx_48, sx_49, (by decide)⟩ ⟨sx_230, sx_231, (by decide)⟩ G _ r σ1 e) o fun r46 s47 o =>
z_vret (v := 0) X Y dX9_copyFrom_176 o : At E s0 0 [(0, .ref (G.2.2.1 17)), (1, .ref (G.2.2.1 199))] [])
set_option maxHeartbeats 4000000 in
set_option maxRecDepth 100000 in
theorem ct_X9_copyFrom_199_17   (G : Gw) (s0 : St) (r : Int) (σ1 : St) (e : fX9_copyFrom_199_17 s0 = some (r, σ1)) : Ct yX9_copyFrom cX9_copyFrom 2 none 2 61 SX G [.ref (G.2.2.1 199), .ref (G.2.2.1 17)] s0 (QV SX G σ1) :=
  Ct.of (by decide +kernel) (Nat.le_of_ble_eq_true rfl) fun E X Y => by
    have o : Ok (fX9_copyFrom_199_17 s0) (fun x σ' => x = r ∧ σ' = σ1) := ⟨r, σ1, e, rfl, rfl⟩
    unfold fX9_copyFrom_199_17 at o
    exact (
z_aload_n X 0 dX9_copyFrom_0 rfl <|
z_getR (q := 200) X dX9_copyFrom_1 fl_X9_14 sx_199 rfl <|
z_aload_n X 1 dX9_copyFrom_4 rfl <|
z_getR (q := 18) X dX9_copyFrom_5 fl_X9_14 sx_17 rfl <|
z_callvV X dX9_copyFrom_8 q_1524 wX6_copyFrom sx_200 rfl (by decide) [.ref (G.2.2.1 18)] [] rfl rfl (Nat.le_of_ble_eq_true rfl) (fun r σ1 e => ct_X6_copyFrom SX 200 201 64 18 19 64 ⟨sx_200, sx_201, (by decide)⟩ ⟨sx_18, sx_19, (by decide)⟩ G _ r σ1 e) o fun r1 s2 o =>
z_aload_n X 0 dX9_copyFrom_11 rfl <|
z_getR (q := 202) X dX9_copyFrom_12 fl_X9_20 sx_199 rfl <|
z_aload_n X 1 dX9_copyFrom_15 rfl <|
z_getR (q := 20) X dX9_copyFrom_16 fl_X9_20 sx_17 rfl <|
z_callvV X dX9_copyFrom_19 q_1524 wX6_copyFrom sx_202 rfl (by decide) [.ref (G.2.2.1 20)] [] rfl rfl (Nat.le_of_ble_eq_true rfl) (fun r σ1 e => ct_X6_copyFrom SX 202 203 400 20 21 400 ⟨sx_202, sx_203, (by decide)⟩ ⟨sx_20, sx_21, (by decide)⟩ G _ r σ1 e) o fun r4 s5 o =>
z_aload_n X 0 dX9_copyFrom_22 rfl <|
z_getR (q := 204) X dX9_copyFrom_23 fl_X9_23 sx_199 rfl <|
z_aload_n X 1 dX9_copyFrom_26 rfl <|
z_getR (q := 22) X dX9_copyFrom_27 fl_X9_23 sx_17 rfl <|
z_callvV X dX9_copyFrom_30 q_1524 wX6_copyFrom sx_204 rfl (by decide) [.ref (G.2.2.1 22)] [] rfl rfl (Nat.le_of_ble_eq_true rfl) (fun r σ1 e => ct_X6_copyFrom SX 204 205 64 22 23 64 ⟨sx_204, sx_205, (by decide)⟩ ⟨sx_22, sx_23, (by decide)⟩ G _ r σ1 e) o fun r7 s8 o =>
z_aload_n X 0 dX9_copyFrom_33 rfl <|
z_getR (q := 206) X dX9_copyFrom_34 fl_X9_26 sx_199 rfl <|
z_aload_n X 1 dX9_copyFrom_37 rfl <|
z_getR (q := 24) X dX9_copyFrom_38 fl_X9_26 sx_17 rfl <|
z_callvV X dX9_copyFrom_41 q_1524 wX6_copyFrom sx_206 rfl (by decide) [.ref (G.2.2.1 24)] [] rfl rfl (Nat.le_of_ble_eq_true rfl) (fun r σ1 e => ct_X6_copyFrom SX 206 207 64 24 25 64 ⟨sx_206, sx_207, (by decide)⟩ ⟨sx_24, sx_25, (by decide)⟩ G _ r σ1 e) o fun r10 s11 o =>
z_aload_n X 0 dX9_copyFrom_44 rfl <|
z_getR (q := 208) X dX9_copyFrom_45 fl_X9_29 sx_199 rfl <|
z_aload_n X 1 dX9_copyFrom_48 rfl <|
z_getR (q := 26) X dX9_copyFrom_49 fl_X9_29 sx_17 rfl <|
z_callvV X dX9_copyFrom_52 q_1524 wX6_copyFrom sx_208 rfl (by decide) [.ref (G.2.2.1 26)] [] rfl rfl (Nat.le_of_ble_eq_true rfl) (fun r σ1 e => ct_X6_copyFrom SX 208 209 64 26 27 64 ⟨sx_208, sx_209, (by decide)⟩ ⟨sx_26, sx_27, (by decide)⟩ G _ r σ1 e) o fun r13 s14 o =>
z_aload_n X 0 dX9_copyFrom_55 rfl <|
z_getR (q := 210) X dX9_copyFrom_56 fl_X9_32 sx_199 rfl <|
z_aload_n X 1 dX9_copyFrom_59 rfl <|
z_getR (q := 28) X dX9_copyFrom_60 fl_X9_32 sx_17 rfl <|
z_callvV X dX9_copyFrom_63 q_1524 wX6_copyFrom sx_210 rfl (by decide) [.ref (G.2.2.1 28)] [] rfl rfl (Nat.le_of_ble_eq_true rfl) (fun r σ1 e => ct_X6_copyFrom SX 210 211 50 28 29 50 ⟨sx_210, sx_211, (by decide)⟩ ⟨sx_28, sx_29, (by decide)⟩ G _ r σ1 e) o fun r16 s17 o =>
z_aload_n X 0 dX9_copyFrom_66 rfl <|
z_getR (q := 212) X dX9_copyFrom_67 fl_X9_35 sx_199 rfl <|
z_aload_n X 1 dX9_copyFrom_70 rfl <|
z_getR (q := 30) X dX9_copyFrom_71 fl_X9_35 sx_17 rfl <|
z_callvV X dX9_copyFrom_74 q_1524 wX6_copyFrom sx_212 rfl (by decide) [.ref (G.2.2.1 30)] [] rfl rfl (Nat.le_of_ble_eq_true rfl) (fun r σ1 e => ct_X6_copyFrom SX 212 213 10 30 31 10 ⟨sx_212, sx_213, (by decide)⟩ ⟨sx_30, sx_31, (by decide)⟩ G _ r σ1 e) o fun r19 s20 o =>
z_aload_n X 0 dX9_copyFrom_77 rfl <|
z_getR (q := 214) X dX9_copyFrom_78 fl_X9_38 sx_199 rfl <|
z_aload_n X 1 dX9_copyFrom_81 rfl <|
z_getR (q := 32) X dX9_copyFrom_82 fl_X9_38 sx_17 rfl <|
z_callvV X dX9_copyFrom_85 q_1524 wX6_copyFrom sx_214 rfl (by decide) [.ref (G.2.2.1 32)] [] rfl rfl (Nat.le_of_ble_eq_true rfl) (fun r σ1 e => ct_X6_copyFrom SX 214 215 48 32 33 48 ⟨sx_214, sx_215, (by decide)⟩ ⟨sx_32, sx_33, (by decide)⟩ G _ r σ1 e) o fun r22 s23 o =>
z_aload_n X 0 dX9_copyFrom_88 rfl <|
z_getR (q := 216) X dX9_copyFrom_89 fl_X9_41 sx_199 rfl <|
z_aload_n X 1 dX9_copyFrom_92 rfl <|
z_getR (q := 34) X dX9_copyFrom_93 fl_X9_41 sx_17 rfl <|
z_callvV X dX9_copyFrom_96 q_1524 wX6_copyFrom sx_216 rfl (by decide) [.ref (G.2.2.1 34)] [] rfl rfl (Nat.le_of_ble_eq_true rfl) (fun r σ1 e => ct_X6_copyFrom SX 216 217 8 34 35 8 ⟨sx_216, sx_217, (by decide)⟩ ⟨sx_34, sx_35, (by decide)⟩ G _ r σ1 e) o fun r25 s26 o =>
z_aload_n X 0 dX9_copyFrom_99 rfl <|
z_getR (q := 218) X dX9_copyFrom_100 fl_X9_44 sx_199 rfl <|
z_aload_n X 1 dX9_copyFrom_103 rfl <|
z_getR (q := 36) X dX9_copyFrom_104 fl_X9_44 sx_17 rfl <|
z_callvV X dX9_copyFrom_107 q_1524 wX6_copyFrom sx_218 rfl (by decide) [.ref (G.2.2.1 36)] [] rfl rfl (Nat.le_of_ble_eq_true rfl) (fun r σ1 e => ct_X6_copyFrom SX 218 219 12 36 37 12 ⟨sx_218, sx_219, (by decide)⟩ ⟨sx_36, sx_37, (by decide)⟩ G _ r σ1 e) o fun r28 s29 o =>
z_aload_n X 0 dX9_copyFrom_110 rfl <|
z_getR (q := 220) X dX9_copyFrom_111 fl_X9_47 sx_199 rfl <|
z_aload_n X 1 dX9_copyFrom_114 rfl <|
z_getR (q := 38) X dX9_copyFrom_115 fl_X9_47 sx_17 rfl <|
z_callvV X dX9_copyFrom_118 q_1524 wX6_copyFrom sx_220 rfl (by decide) [.ref (G.2.2.1 38)] [] rfl rfl (Nat.le_of_ble_eq_true rfl) (fun r σ1 e => ct_X6_copyFrom SX 220 221 24 38 39 24 ⟨sx_220, sx_221, (by decide)⟩ ⟨sx_38, sx_39, (by decide)⟩ G _ r σ1 e) o fun r31 s32 o =>
z_aload_n X 0 dX9_copyFrom_121 rfl <|
z_getR (q := 222) X dX9_copyFrom_122 fl_X9_50 sx_199 rfl <|
z_aload_n X 1 dX9_copyFrom_125 rfl <|
z_getR (q := 40) X dX9_copyFrom_126 fl_X9_50 sx_17 rfl <|
z_callvV X dX9_copyFrom_129 q_1524 wX6_copyFrom sx_222 rfl (by decide) [.ref (G.2.2.1 40)] [] rfl rfl (Nat.le_of_ble_eq_true rfl) (fun r σ1 e => ct_X6_copyFrom SX 222 223 12 40 41 12 ⟨sx_222, sx_223, (by decide)⟩ ⟨sx_40, sx_41, (by decide)⟩ G _ r σ1 e) o fun r34 s35 o =>
z_aload_n X 0 dX9_copyFrom_132 rfl <|
z_getR (q := 224) X dX9_copyFrom_133 fl_X9_53 sx_199 rfl <|
z_aload_n X 1 dX9_copyFrom_136 rfl <|
z_getR (q := 42) X dX9_copyFrom_137 fl_X9_53 sx_17 rfl <|
z_callvV X dX9_copyFrom_140 q_1524 wX6_copyFrom sx_224 rfl (by decide) [.ref (G.2.2.1 42)] [] rfl rfl (Nat.le_of_ble_eq_true rfl) (fun r σ1 e => ct_X6_copyFrom SX 224 225 12 42 43 12 ⟨sx_224, sx_225, (by decide)⟩ ⟨sx_42, sx_43, (by decide)⟩ G _ r σ1 e) o fun r37 s38 o =>
z_aload_n X 0 dX9_copyFrom_143 rfl <|
z_getR (q := 226) X dX9_copyFrom_144 fl_X9_56 sx_199 rfl <|
z_aload_n X 1 dX9_copyFrom_147 rfl <|
z_getR (q := 44) X dX9_copyFrom_148 fl_X9_56 sx_17 rfl <|
z_callvV X dX9_copyFrom_151 q_1524 wX6_copyFrom sx_226 rfl (by decide) [.ref (G.2.2.1 44)] [] rfl rfl (Nat.le_of_ble_eq_true rfl) (fun r σ1 e => ct_X6_copyFrom SX 226 227 24 44 45 24 ⟨sx_226, sx_227, (by decide)⟩ ⟨sx_44, sx_45, (by decide)⟩ G _ r σ1 e) o fun r40 s41 o =>
z_aload_n X 0 dX9_copyFrom_154 rfl <|
z_getR (q := 228) X dX9_copyFrom_155 fl_X9_59 sx_199 rfl <|
z_aload_n X 1 dX9_copyFrom_158 rfl <|
z_getR (q := 46) X dX9_copyFrom_159 fl_X9_59 sx_17 rfl <|
z_callvV X dX9_copyFrom_162 q_1524 wX6_copyFrom sx_228 rfl (by decide) [.ref (G.2.2.1 46)] [] rfl rfl (Nat.le_of_ble_eq_true rfl) (fun r σ1 e => ct_X6_copyFrom SX 228 229 8 46 47 8 ⟨sx_228, sx_229, (by decide)⟩ ⟨sx_46, sx_47, (by decide)⟩ G _ r σ1 e) o fun r43 s44 o =>
z_aload_n X 0 dX9_copyFrom_165 rfl <|
z_getR (q := 230) X dX9_copyFrom_166 fl_X9_62 sx_199 rfl <|
z_aload_n X 1 dX9_copyFrom_169 rfl <|
z_getR (q := 48) X dX9_copyFrom_170 fl_X9_62 sx_17 rfl <|
z_callvV X dX9_copyFrom_173 q_1524 wX6_copyFrom sx_230 rfl (by decide) [.ref (G.2.2.1 48)] [] rfl rfl (Nat.le_of_ble_eq_true rfl) (fun r σ1 e => ct_X6_copyFrom SX 230 231 16 48 49 16 ⟨sx_230, sx_231, (by decide)⟩ ⟨sx_48, sx_49, (by decide)⟩ G _ r σ1 e) o fun r46 s47 o =>
z_vret (v := 0) X Y dX9_copyFrom_176 o : At E s0 0 [(0, .ref (G.2.2.1 199)), (1, .ref (G.2.2.1 17))] [])
set_option maxHeartbeats 4000000 in
set_option maxRecDepth 100000 in
theorem ct_X11_image (p1 : Int) (hp1 : r01 p1) (G : Gw) (s0 : St) (r : Int) (σ1 : St) (e : fX11_image p1 s0 = some (r, σ1)) : Ct yX11_image cX11_image 2 (some .boolean) 3 82 SX G [.ref (G.2.2.1 0), .int (pI p1)] s0 (QI SX G r r01 σ1) :=
  Ct.of (by decide +kernel) (Nat.le_of_ble_eq_true rfl) fun E X Y => by
    have o : Ok (fX11_image p1 s0) (fun x σ' => x = r ∧ σ' = σ1) := ⟨r, σ1, e, rfl, rfl⟩
    unfold fX11_image at o
    exact (
z_iload_n X 1 dX11_image_0 rfl <|
z_if_eq (tgt := 44) X dX11_image_1 (by decide) (r01_rg hp1) o (fun o =>
z_aload_n X 0 dX11_image_44 rfl <|
z_getI X dX11_image_45 fl_X11_106 sx_0 rfl o fun v1 r2 o =>
z_if_ne (tgt := 53) X dX11_image_48 (by decide) r2 o (fun o =>
z_aload_n X 0 dX11_image_53 rfl <|
z_getR (q := 3) X dX11_image_54 fl_X11_19 sx_0 rfl <|
z_aload_n X 0 dX11_image_57 rfl <|
z_getR (q := 185) X dX11_image_58 fl_X11_97 sx_0 rfl <|
z_callvV X dX11_image_61 q_1190 wX2_copyFrom sx_3 rfl (by decide) [.ref (G.2.2.1 185)] [] rfl rfl (Nat.le_of_ble_eq_true rfl) (fun r σ1 e => ct_X2_copyFrom 3 185 ish_3 ish_185 G _ r σ1 e) o fun r3 s4 o =>
z_aload_n X 0 dX11_image_64 rfl <|
z_getR (q := 17) X dX11_image_65 fl_X11_26 sx_0 rfl <|
z_aload_n X 0 dX11_image_68 rfl <|
z_getR (q := 199) X dX11_image_69 fl_X11_100 sx_0 rfl <|
z_callvV X dX11_image_72 q_1520 wX9_copyFrom sx_17 rfl (by decide) [.ref (G.2.2.1 199)] [] rfl rfl (Nat.le_of_ble_eq_true rfl) (fun r σ1 e => ct_X9_copyFrom_17_199 G _ r σ1 e) o fun r6 s7 o =>
z_aload_n X 0 dX11_image_75 rfl <|
z_getR (q := 50) X dX11_image_76 fl_X11_35 sx_0 rfl <|
z_aload_n X 0 dX11_image_79 rfl <|
z_getR (q := 232) X dX11_image_80 fl_X11_103 sx_0 rfl <|
z_callvV X dX11_image_83 q_1142 wX6_copyFrom sx_50 rfl (by decide) [.ref (G.2.2.1 232)] [] rfl rfl (Nat.le_of_ble_eq_true rfl) (fun r σ1 e => ct_X6_copyFrom SX 50 51 750 232 233 750 ⟨sx_50, sx_51, (by decide)⟩ ⟨sx_232, sx_233, (by decide)⟩ G _ r σ1 e) o fun r9 s10 o =>
z_aload_n X 0 dX11_image_86 rfl <|
z_getR (q := 52) X dX11_image_87 fl_X11_42 sx_0 rfl <|
z_callvV X dX11_image_90 q_673 wX10_forget sx_52 rfl (by decide) [] [] rfl rfl (Nat.le_of_ble_eq_true rfl) (fun r σ1 e => ct_X10_forget G _ r σ1 e) o fun r12 s13 o =>
z_iconst X dX11_image_93 <|
z_zret X Y dX11_image_94 o kb_1 kb_1) fun o =>
z_iconst X dX11_image_51 <|
z_zret X Y dX11_image_52 o kb_0 kb_0) fun o =>
z_aload_n X 0 dX11_image_4 rfl <|
z_getR (q := 185) X dX11_image_5 fl_X11_97 sx_0 rfl <|
z_aload_n X 0 dX11_image_8 rfl <|
z_getR (q := 3) X dX11_image_9 fl_X11_19 sx_0 rfl <|
z_callvV X dX11_image_12 q_1190 wX2_copyFrom sx_185 rfl (by decide) [.ref (G.2.2.1 3)] [] rfl rfl (Nat.le_of_ble_eq_true rfl) (fun r σ1 e => ct_X2_copyFrom 185 3 ish_185 ish_3 G _ r σ1 e) o fun r15 s16 o =>
z_aload_n X 0 dX11_image_15 rfl <|
z_getR (q := 199) X dX11_image_16 fl_X11_100 sx_0 rfl <|
z_aload_n X 0 dX11_image_19 rfl <|
z_getR (q := 17) X dX11_image_20 fl_X11_26 sx_0 rfl <|
z_callvV X dX11_image_23 q_1520 wX9_copyFrom sx_199 rfl (by decide) [.ref (G.2.2.1 17)] [] rfl rfl (Nat.le_of_ble_eq_true rfl) (fun r σ1 e => ct_X9_copyFrom_199_17 G _ r σ1 e) o fun r18 s19 o =>
z_aload_n X 0 dX11_image_26 rfl <|
z_getR (q := 232) X dX11_image_27 fl_X11_103 sx_0 rfl <|
z_aload_n X 0 dX11_image_30 rfl <|
z_getR (q := 50) X dX11_image_31 fl_X11_35 sx_0 rfl <|
z_callvV X dX11_image_34 q_1142 wX6_copyFrom sx_232 rfl (by decide) [.ref (G.2.2.1 50)] [] rfl rfl (Nat.le_of_ble_eq_true rfl) (fun r σ1 e => ct_X6_copyFrom SX 232 233 750 50 51 750 ⟨sx_232, sx_233, (by decide)⟩ ⟨sx_50, sx_51, (by decide)⟩ G _ r σ1 e) o fun r21 s22 o =>
z_aload_n X 0 dX11_image_37 rfl <|
z_iconst X dX11_image_38 <|
z_putZ X dX11_image_39 fl_X11_106 sx_0 ft_X11_14 rfl kb_1 o fun s24 o =>
z_iconst X dX11_image_42 <|
z_zret X Y dX11_image_43 o kb_1 kb_1 : At E s0 0 [(0, .ref (G.2.2.1 0)), (1, .int (pI p1))] [])
set_option maxHeartbeats 4000000 in
set_option maxRecDepth 100000 in
theorem ct_X4_enqueue (p1 : Int) (p2 : Int) (hp1 : rg p1) (hp2 : rg p2) (G : Gw) (s0 : St) (r : Int) (σ1 : St) (e : fX4_enqueue p1 p2 s0 = some (r, σ1)) : Ct yX4_enqueue cX4_enqueue 3 none 1 22 SX G [.ref (G.2.2.1 157), .int (pI p1), .int (pI p2)] s0 (QV SX G σ1) :=
  Ct.of (by decide +kernel) (Nat.le_of_ble_eq_true rfl) fun E X Y => by
    have o : Ok (fX4_enqueue p1 p2 s0) (fun x σ' => x = r ∧ σ' = σ1) := ⟨r, σ1, e, rfl, rfl⟩
    unfold fX4_enqueue at o
    exact (
z_iload_n X 1 dX4_enqueue_0 rfl <|
z_iconst X dX4_enqueue_1 <|
z_aload_n X 0 dX4_enqueue_2 rfl <|
z_getR (q := 165) X dX4_enqueue_3 fl_X4_34 sx_157 rfl <|
z_alen X dX4_enqueue_6 sx_165 <|
z_iconst X dX4_enqueue_7 <|
z_isub X dX4_enqueue_8 <|
z_callsIN X dX4_enqueue_9 q_1288 wX11_within  (by decide) [.int (pI p1), .int (pI 0), .int (pI (w32 (169 - 1)))] [] rfl rfl (Nat.le_of_ble_eq_true rfl) (fun r σ1 e => ct_X11_within p1 0 (w32 (169 - 1)) hp1 kc_0 (w32_rg _) G _ r σ1 e) o fun r1 s2 h3 o =>
z_if_eq (tgt := 27) X dX4_enqueue_12 (by decide) (r01_rg h3) o (fun o =>
z_vret (v := 0) X Y dX4_enqueue_27 o) fun o =>
z_aload_n X 0 dX4_enqueue_15 rfl <|
z_getI X dX4_enqueue_16 fl_X4_52 sx_157 rfl o fun v4 r5 o =>
z_aload_n X 0 dX4_enqueue_19 rfl <|
z_getR (q := 166) X dX4_enqueue_20 fl_X4_37 sx_157 rfl <|
z_alen X dX4_enqueue_23 sx_166 <|
z_icmp_lt (tgt := 28) X dX4_enqueue_24 (by decide) r5 kc_169 o (fun o =>
z_aload_n X 0 dX4_enqueue_28 rfl <|
z_getR (q := 165) X dX4_enqueue_29 fl_X4_34 sx_157 rfl <|
z_iload_n X 1 dX4_enqueue_32 rfl <|
z_iald X dX4_enqueue_33 sx_165 hp1 o fun v6 r7 o =>
z_iconst X dX4_enqueue_34 <|
z_icmp_eq (tgt := 39) X dX4_enqueue_35 (by decide) r7 kc_m1 o (fun o =>
z_aload_n X 0 dX4_enqueue_39 rfl <|
z_getR (q := 165) X dX4_enqueue_40 fl_X4_34 sx_157 rfl <|
z_iload_n X 1 dX4_enqueue_43 rfl <|
z_iload_n X 2 dX4_enqueue_44 rfl <|
z_iast X dX4_enqueue_45 sx_165 hp1 hp2 o fun s8 o =>
z_aload_n X 0 dX4_enqueue_46 rfl <|
z_getR (q := 166) X dX4_enqueue_47 fl_X4_37 sx_157 rfl <|
z_aload_n X 0 dX4_enqueue_50 rfl <|
z_getI X dX4_enqueue_51 fl_X4_52 sx_157 rfl o fun v9 r10 o =>
z_iload_n X 1 dX4_enqueue_54 rfl <|
z_iast X dX4_enqueue_55 sx_166 r10 hp1 o fun s11 o =>
z_aload_n X 0 dX4_enqueue_56 rfl <|
z_dup X dX4_enqueue_57 rfl <|
z_getI X dX4_enqueue_58 fl_X4_52 sx_157 rfl o fun v12 r13 o =>
z_iconst X dX4_enqueue_61 <|
z_iadd X dX4_enqueue_62 <|
z_putI X dX4_enqueue_63 fl_X4_52 sx_157 ft_X4_14 rfl (w32_rg _) o fun s14 o =>
z_vret (v := 0) X Y dX4_enqueue_66 o) fun o =>
z_vret (v := 0) X Y dX4_enqueue_38 o) fun o =>
z_vret (v := 0) X Y dX4_enqueue_27 o : At E s0 0 [(0, .ref (G.2.2.1 157)), (1, .int (pI p1)), (2, .int (pI p2))] [])
set_option maxHeartbeats 4000000 in
set_option maxRecDepth 100000 in
theorem ct_X4_seeCans (p1 : Int) (hp1 : rg p1) (G : Gw) (s0 : St) (r : Int) (σ1 : St) (e : fX4_seeCans p1 s0 = some (r, σ1)) : Ct yX4_seeCans cX4_seeCans 2 none 0 0 SX G [.ref (G.2.2.1 157), .int (pI p1)] s0 (QV SX G σ1) :=
  Ct.of (by decide +kernel) (Nat.le_of_ble_eq_true rfl) fun E X Y => by
    have o : Ok (fX4_seeCans p1 s0) (fun x σ' => x = r ∧ σ' = σ1) := ⟨r, σ1, e, rfl, rfl⟩
    unfold fX4_seeCans at o
    exact (
z_aload_n X 0 dX4_seeCans_0 rfl <|
z_getR (q := 167) X dX4_seeCans_1 fl_X4_40 sx_157 rfl <|
z_iconst X dX4_seeCans_4 <|
z_iload_n X 1 dX4_seeCans_5 rfl <|
z_bipush X dX4_seeCans_6 bi_13 <|
z_idiv X dX4_seeCans_8 hp1 kc_13 o fun z1 o =>
z_iast X dX4_seeCans_9 sx_167 kc_1 (w32_rg _) o fun s2 o =>
z_aload_n X 0 dX4_seeCans_10 rfl <|
z_getR (q := 167) X dX4_seeCans_11 fl_X4_40 sx_157 rfl <|
z_iconst X dX4_seeCans_14 <|
z_iload_n X 1 dX4_seeCans_15 rfl <|
z_bipush X dX4_seeCans_16 bi_13 <|
z_irem X dX4_seeCans_18 hp1 kc_13 o fun z3 o =>
z_iast X dX4_seeCans_19 sx_167 kc_2 (irm_rg kc_13 z3) o fun s4 o =>
z_aload_n X 0 dX4_seeCans_20 rfl <|
z_getR (q := 167) X dX4_seeCans_21 fl_X4_40 sx_157 rfl <|
z_iconst X dX4_seeCans_24 <|
z_aload_n X 0 dX4_seeCans_25 rfl <|
z_getR (q := 168) X dX4_seeCans_26 fl_X4_43 sx_157 rfl <|
z_iconst X dX4_seeCans_29 <|
z_iald X dX4_seeCans_30 sx_168 kc_0 o fun v5 r6 o =>
z_aload_n X 0 dX4_seeCans_31 rfl <|
z_getR (q := 167) X dX4_seeCans_32 fl_X4_40 sx_157 rfl <|
z_iconst X dX4_seeCans_35 <|
z_iald X dX4_seeCans_36 sx_167 kc_1 o fun v7 r8 o =>
z_isub X dX4_seeCans_37 <|
z_aload_n X 0 dX4_seeCans_38 rfl <|
z_getR (q := 167) X dX4_seeCans_39 fl_X4_40 sx_157 rfl <|
z_iconst X dX4_seeCans_42 <|
z_iald X dX4_seeCans_43 sx_167 kc_2 o fun v9 r10 o =>
z_isub X dX4_seeCans_44 <|
z_iast X dX4_seeCans_45 sx_167 kc_0 (w32_rg _) o fun s11 o =>
z_vret (v := 0) X Y dX4_seeCans_46 o : At E s0 0 [(0, .ref (G.2.2.1 157)), (1, .int (pI p1))] [])
set_option maxHeartbeats 4000000 in
set_option maxRecDepth 100000 in
theorem ct_X4_pour (p1 : Int) (p2 : Int) (p3 : Int) (hp1 : rg p1) (hp2 : rg p2) (hp3 : rg p3) (G : Gw) (s0 : St) (r : Int) (σ1 : St) (e : fX4_pour p1 p2 p3 s0 = some (r, σ1)) : Ct yX4_pour cX4_pour 5 none 2 44 SX G [.ref (G.2.2.1 157), .int (pI p1), .int (pI p2), .int (pI p3)] s0 (QV SX G σ1) :=
  Ct.of (by decide +kernel) (Nat.le_of_ble_eq_true rfl) fun E X Y => by
    have o : Ok (fX4_pour p1 p2 p3 s0) (fun x σ' => x = r ∧ σ' = σ1) := ⟨r, σ1, e, rfl, rfl⟩
    unfold fX4_pour at o
    exact (
z_aload_n X 0 dX4_pour_0 rfl <|
z_iload_n X 1 dX4_pour_1 rfl <|
z_callvV X dX4_pour_2 q_1459 wX4_seeCans sx_157 rfl (by decide) [.int (pI p1)] [] rfl rfl (Nat.le_of_ble_eq_true rfl) (fun r σ1 e => ct_X4_seeCans p1 hp1 G _ r σ1 e) o fun r1 s2 o =>
z_aload_n X 0 dX4_pour_5 rfl <|
z_getR (q := 167) X dX4_pour_6 fl_X4_40 sx_157 rfl <|
z_iload_n X 2 dX4_pour_9 rfl <|
z_iald X dX4_pour_10 sx_167 hp2 o fun v4 r5 o =>
z_aload_n X 0 dX4_pour_11 rfl <|
z_getR (q := 168) X dX4_pour_12 fl_X4_43 sx_157 rfl <|
z_iload_n X 3 dX4_pour_15 rfl <|
z_iald X dX4_pour_16 sx_168 hp3 o fun v6 r7 o =>
z_aload_n X 0 dX4_pour_17 rfl <|
z_getR (q := 167) X dX4_pour_18 fl_X4_40 sx_157 rfl <|
z_iload_n X 3 dX4_pour_21 rfl <|
z_iald X dX4_pour_22 sx_167 hp3 o fun v8 r9 o =>
z_isub X dX4_pour_23 <|
z_mmin X dX4_pour_24 q_1310 q_837 q_174 q_838 (by decide) (Nat.le_of_ble_eq_true rfl) r5 (w32_rg _) <|
z_istoreL (L1 := fun v10 => [(4, .int (pI v10)), (0, .ref (G.2.2.1 157)), (1, .int (pI p1)), (2, .int (pI p2)), (3, .int (pI p3))]) (R := rg) X dX4_pour_27 (by decide) (fun _ => rfl) o (imn_rg r5 (w32_rg _)) fun v10 r11 o =>
z_aload_n X 1 dX4_pour_29 rfl <|
z_getR (q := 167) X dX4_pour_30 fl_X4_40 sx_157 rfl <|
z_iload_n X 3 dX4_pour_33 rfl <|
z_dup2 X dX4_pour_34 rfl rfl <|
z_iald X dX4_pour_35 sx_167 hp2 o fun v12 r13 o =>
z_iload X 0 dX4_pour_36 rfl <|
z_isub X dX4_pour_38 <|
z_iast X dX4_pour_39 sx_167 hp2 (w32_rg _) o fun s14 o =>
z_aload_n X 1 dX4_pour_40 rfl <|
z_getR (q := 167) X dX4_pour_41 fl_X4_40 sx_157 rfl <|
z_iload_n X 4 dX4_pour_44 rfl <|
z_dup2 X dX4_pour_45 rfl rfl <|
z_iald X dX4_pour_46 sx_167 hp3 o fun v15 r16 o =>
z_iload X 0 dX4_pour_47 rfl <|
z_iadd X dX4_pour_49 <|
z_iast X dX4_pour_50 sx_167 hp3 (w32_rg _) o fun s17 o =>
z_aload_n X 1 dX4_pour_51 rfl <|
z_aload_n X 1 dX4_pour_52 rfl <|
z_getR (q := 167) X dX4_pour_53 fl_X4_40 sx_157 rfl <|
z_iconst X dX4_pour_56 <|
z_iald X dX4_pour_57 sx_167 kc_1 o fun v18 r19 o =>
z_bipush X dX4_pour_58 bi_13 <|
z_imul X dX4_pour_60 <|
z_aload_n X 1 dX4_pour_61 rfl <|
z_getR (q := 167) X dX4_pour_62 fl_X4_40 sx_157 rfl <|
z_iconst X dX4_pour_65 <|
z_iald X dX4_pour_66 sx_167 kc_2 o fun v20 r21 o =>
z_iadd X dX4_pour_67 <|
z_aload_n X 1 dX4_pour_68 rfl <|
z_getR (q := 165) X dX4_pour_69 fl_X4_34 sx_157 rfl <|
z_iload_n X 2 dX4_pour_72 rfl <|
z_iald X dX4_pour_73 sx_165 hp1 o fun v22 r23 o =>
z_iconst X dX4_pour_74 <|
z_iadd X dX4_pour_75 <|
z_callvV X dX4_pour_76 q_1455 wX4_enqueue sx_157 rfl (by decide) [.int (pI (w32 (w32 (v18 * 13) + v20))), .int (pI (w32 (v22 + 1)))] [] rfl rfl (Nat.le_of_ble_eq_true rfl) (fun r σ1 e => ct_X4_enqueue (w32 (w32 (v18 * 13) + v20)) (w32 (v22 + 1)) (w32_rg _) (w32_rg _) G _ r σ1 e) o fun r24 s25 o =>
z_vret (v := 0) X Y dX4_pour_79 o : At E s0 0 [(0, .ref (G.2.2.1 157)), (1, .int (pI p1)), (2, .int (pI p2)), (3, .int (pI p3))] [])
set_option maxHeartbeats 4000000 in
set_option maxRecDepth 100000 in
theorem ct_X4_fewestPourings (p1 : Int) (p2 : Int) (p3 : Int) (p4 : Int) (hp1 : rg p1) (hp2 : rg p2) (hp3 : rg p3) (hp4 : rg p4) (G : Gw) (s0 : St) (r : Int) (σ1 : St) (e : fX4_fewestPourings p1 p2 p3 p4 s0 = some (r, σ1)) : Ct yX4_fewestPourings cX4_fewestPourings 9 (some .int) 3 68 SX G [.ref (G.2.2.1 157), .int (pI p1), .int (pI p2), .int (pI p3), .int (pI p4)] s0 (QI SX G r rg σ1) :=
  Ct.of (by decide +kernel) (Nat.le_of_ble_eq_true rfl) fun E X Y => by
    have o : Ok (fX4_fewestPourings p1 p2 p3 p4 s0) (fun x σ' => x = r ∧ σ' = σ1) := ⟨r, σ1, e, rfl, rfl⟩
    unfold fX4_fewestPourings at o
    exact (
z_aload_n X 0 dX4_fewestPourings_0 rfl <|
z_getR (q := 168) X dX4_fewestPourings_1 fl_X4_43 sx_157 rfl <|
z_iconst X dX4_fewestPourings_4 <|
z_iload_n X 1 dX4_fewestPourings_5 rfl <|
z_iast X dX4_fewestPourings_6 sx_168 kc_0 hp1 o fun s1 o =>
z_aload_n X 0 dX4_fewestPourings_7 rfl <|
z_getR (q := 168) X dX4_fewestPourings_8 fl_X4_43 sx_157 rfl <|
z_iconst X dX4_fewestPourings_11 <|
z_iload_n X 2 dX4_fewestPourings_12 rfl <|
z_iast X dX4_fewestPourings_13 sx_168 kc_1 hp2 o fun s2 o =>
z_aload_n X 0 dX4_fewestPourings_14 rfl <|
z_getR (q := 168) X dX4_fewestPourings_15 fl_X4_43 sx_157 rfl <|
z_iconst X dX4_fewestPourings_18 <|
z_iload_n X 3 dX4_fewestPourings_19 rfl <|
z_iast X dX4_fewestPourings_20 sx_168 kc_2 hp3 o fun s3 o =>
z_aload_n X 0 dX4_fewestPourings_21 rfl <|
z_getR (q := 165) X dX4_fewestPourings_22 fl_X4_34 sx_157 rfl <|
z_iconst X dX4_fewestPourings_25 <|
z_callsV X dX4_fewestPourings_26 q_1287 wJ7_fill_53178  (by decide) [.ref (G.2.2.1 165), .int (pI (-1))] [] rfl rfl (Nat.le_of_ble_eq_true rfl) (fun r σ1 e => ct_J7_fill_53178 SX 165 169 (-1) sx_165 (by decide) kc_m1 G _ r σ1 e) o fun r4 s5 o =>
z_aload_n X 0 dX4_fewestPourings_29 rfl <|
z_iconst X dX4_fewestPourings_30 <|
z_putI X dX4_fewestPourings_31 fl_X4_52 sx_157 ft_X4_14 rfl kc_0 o fun s7 o =>
z_aload_n X 0 dX4_fewestPourings_34 rfl <|
z_iconst X dX4_fewestPourings_35 <|
z_iconst X dX4_fewestPourings_36 <|
z_callvV X dX4_fewestPourings_37 q_1455 wX4_enqueue sx_157 rfl (by decide) [.int (pI 0), .int (pI 0)] [] rfl rfl (Nat.le_of_ble_eq_true rfl) (fun r σ1 e => ct_X4_enqueue 0 0 kc_0 kc_0 G _ r σ1 e) o fun r8 s9 o =>
z_iconst X dX4_fewestPourings_40 <|
z_istore (L1 := [(5, .int (pI 0)), (0, .ref (G.2.2.1 157)), (1, .int (pI p1)), (2, .int (pI p2)), (3, .int (pI p3)), (4, .int (pI p4))]) X dX4_fewestPourings_41 (by decide) rfl <|
z_joix o (fun (y45 : Int) s46 => rg y45 → At E s46 129 [(0, .ref (G.2.2.1 157)), (6, .int (pI y45))] []) (fun y45 s46 o r47 =>
z_aload_n X 0 dX4_fewestPourings_129 rfl <|
z_getR (q := 165) X dX4_fewestPourings_130 fl_X4_34 sx_157 rfl <|
z_iload X 1 dX4_fewestPourings_133 rfl <|
z_iald X dX4_fewestPourings_135 sx_165 r47 o fun v48 r49 o =>
z_iret X Y dX4_fewestPourings_136 o r49) fun o =>
z_sub (L1 := [(0, .ref (G.2.2.1 157)), (4, .int (pI p4)), (5, .int (pI 0))]) X [1, 5, 0] rfl <|
z_iter (fun (x11 : Int) s12 => rg x11 → At E s12 43 [(0, .ref (G.2.2.1 157)), (4, .int (pI p4)), (5, .int (pI x11))] []) o (fun x11 s12 o r13 =>
z_iload X 2 dX4_fewestPourings_43 rfl <|
z_aload_n X 0 dX4_fewestPourings_45 rfl <|
z_getI X dX4_fewestPourings_46 fl_X4_52 sx_157 rfl o fun v14 r15 o =>
z_icmp_ge (tgt := 190) X dX4_fewestPourings_49 (by decide) r13 r15 o (fun o =>
z_iconst X dX4_fewestPourings_190 <|
z_iret X Y dX4_fewestPourings_191 (ok_ret (ok_some o)) kc_m1) fun o =>
z_iload X 2 dX4_fewestPourings_52 rfl <|
z_aload_n X 0 dX4_fewestPourings_54 rfl <|
z_getR (q := 166) X dX4_fewestPourings_55 fl_X4_37 sx_157 rfl <|
z_alen X dX4_fewestPourings_58 sx_166 <|
z_icmp_ge (tgt := 190) X dX4_fewestPourings_59 (by decide) r13 kc_169 o (fun o =>
z_iconst X dX4_fewestPourings_190 <|
z_iret X Y dX4_fewestPourings_191 (ok_ret (ok_some o)) kc_m1) fun o =>
z_aload_n X 0 dX4_fewestPourings_62 rfl <|
z_getR (q := 166) X dX4_fewestPourings_63 fl_X4_37 sx_157 rfl <|
z_iload X 2 dX4_fewestPourings_66 rfl <|
z_iald X dX4_fewestPourings_68 sx_166 r13 o fun v16 r17 o =>
z_istore (L1 := [(6, .int (pI v16)), (0, .ref (G.2.2.1 157)), (4, .int (pI p4)), (5, .int (pI x11))]) X dX4_fewestPourings_69 (by decide) rfl <|
z_iload X 0 dX4_fewestPourings_71 rfl <|
z_iconst X dX4_fewestPourings_73 <|
z_aload_n X 1 dX4_fewestPourings_74 rfl <|
z_getR (q := 165) X dX4_fewestPourings_75 fl_X4_34 sx_157 rfl <|
z_alen X dX4_fewestPourings_78 sx_165 <|
z_iconst X dX4_fewestPourings_79 <|
z_isub X dX4_fewestPourings_80 <|
z_callsIN X dX4_fewestPourings_81 q_1288 wX11_within  (by decide) [.int (pI v16), .int (pI 0), .int (pI (w32 (169 - 1)))] [] rfl rfl (Nat.le_of_ble_eq_true rfl) (fun r σ1 e => ct_X11_within v16 0 (w32 (169 - 1)) r17 kc_0 (w32_rg _) G _ r σ1 e) o fun r18 s19 h20 o =>
z_if_ne (tgt := 90) X dX4_fewestPourings_84 (by decide) (r01_rg h20) o (fun o =>
z_aload_n X 1 dX4_fewestPourings_90 rfl <|
z_iload X 0 dX4_fewestPourings_91 rfl <|
z_callvV X dX4_fewestPourings_93 q_1459 wX4_seeCans sx_157 rfl (by decide) [.int (pI v16)] [] rfl rfl (Nat.le_of_ble_eq_true rfl) (fun r σ1 e => ct_X4_seeCans v16 r17 G _ r σ1 e) o fun r21 s22 o =>
z_aload_n X 1 dX4_fewestPourings_96 rfl <|
z_getR (q := 167) X dX4_fewestPourings_97 fl_X4_40 sx_157 rfl <|
z_iconst X dX4_fewestPourings_100 <|
z_iald X dX4_fewestPourings_101 sx_167 kc_0 o fun v24 r25 o =>
z_iload X 2 dX4_fewestPourings_102 rfl <|
z_icmp_eq (tgt := 129) X dX4_fewestPourings_104 (by decide) r25 hp4 o (fun o =>
z_sub (L1 := [(0, .ref (G.2.2.1 157)), (6, .int (pI v16))]) X [1, 0] rfl <|
ok_some o r17) fun o =>
z_aload_n X 1 dX4_fewestPourings_107 rfl <|
z_getR (q := 167) X dX4_fewestPourings_108 fl_X4_40 sx_157 rfl <|
z_iconst X dX4_fewestPourings_111 <|
z_iald X dX4_fewestPourings_112 sx_167 kc_1 o fun v26 r27 o =>
z_iload X 2 dX4_fewestPourings_113 rfl <|
z_icmp_eq (tgt := 129) X dX4_fewestPourings_115 (by decide) r27 hp4 o (fun o =>
z_sub (L1 := [(0, .ref (G.2.2.1 157)), (6, .int (pI v16))]) X [1, 0] rfl <|
ok_some o r17) fun o =>
z_aload_n X 1 dX4_fewestPourings_118 rfl <|
z_getR (q := 167) X dX4_fewestPourings_119 fl_X4_40 sx_157 rfl <|
z_iconst X dX4_fewestPourings_122 <|
z_iald X dX4_fewestPourings_123 sx_167 kc_2 o fun v28 r29 o =>
z_iload X 2 dX4_fewestPourings_124 rfl <|
z_icmp_ne (tgt := 137) X dX4_fewestPourings_126 (by decide) r29 hp4 o (fun o =>
z_iconst X dX4_fewestPourings_137 <|
z_istore (L1 := [(7, .int (pI 0)), (6, .int (pI v16)), (0, .ref (G.2.2.1 157)), (4, .int (pI p4)), (5, .int (pI x11))]) X dX4_fewestPourings_138 (by decide) rfl <|
z_join o (fun (y42 : Unit) s43 => True → At E s43 184 [(0, .ref (G.2.2.1 157)), (4, .int (pI p4)), (5, .int (pI x11))] []) (fun y42 s43 o r44 =>
z_iinc (L1 := [(5, .int (pI (w32 (x11 + 1)))), (0, .ref (G.2.2.1 157)), (4, .int (pI p4))]) X 2 dX4_fewestPourings_184 rfl (by decide) rfl <|
z_goto (tgt := 43) X dX4_fewestPourings_187 (by decide) <|
z_sub (L1 := [(0, .ref (G.2.2.1 157)), (4, .int (pI p4)), (5, .int (pI (w32 (x11 + 1))))]) X [1, 2, 0] rfl <|
ok_some o (w32_rg _)) fun o =>
z_sub (L1 := [(0, .ref (G.2.2.1 157)), (4, .int (pI p4)), (5, .int (pI x11)), (6, .int (pI v16)), (7, .int (pI 0))]) X [2, 3, 4, 1, 0] rfl <|
z_iter (fun (x30 : Int) s31 => rg x30 → At E s31 140 [(0, .ref (G.2.2.1 157)), (4, .int (pI p4)), (5, .int (pI x11)), (6, .int (pI v16)), (7, .int (pI x30))] []) o (fun x30 s31 o r32 =>
z_iload X 4 dX4_fewestPourings_140 rfl <|
z_iconst X dX4_fewestPourings_142 <|
z_icmp_ge (tgt := 184) X dX4_fewestPourings_143 (by decide) r32 kc_3 o (fun o =>
z_sub (L1 := [(0, .ref (G.2.2.1 157)), (4, .int (pI p4)), (5, .int (pI x11))]) X [0, 1, 2] rfl <|
ok_some o trivial) fun o =>
z_iconst X dX4_fewestPourings_146 <|
z_istore (L1 := [(8, .int (pI 0)), (0, .ref (G.2.2.1 157)), (4, .int (pI p4)), (5, .int (pI x11)), (6, .int (pI v16)), (7, .int (pI x30))]) X dX4_fewestPourings_147 (by decide) rfl <|
z_join o (fun (y39 : Unit) s40 => True → At E s40 178 [(0, .ref (G.2.2.1 157)), (4, .int (pI p4)), (5, .int (pI x11)), (6, .int (pI v16)), (7, .int (pI x30))] []) (fun y39 s40 o r41 =>
z_iinc (L1 := [(7, .int (pI (w32 (x30 + 1)))), (0, .ref (G.2.2.1 157)), (4, .int (pI p4)), (5, .int (pI x11)), (6, .int (pI v16))]) X 4 dX4_fewestPourings_178 rfl (by decide) rfl <|
z_goto (tgt := 140) X dX4_fewestPourings_181 (by decide) <|
z_sub (L1 := [(0, .ref (G.2.2.1 157)), (4, .int (pI p4)), (5, .int (pI x11)), (6, .int (pI v16)), (7, .int (pI (w32 (x30 + 1))))]) X [1, 2, 3, 4, 0] rfl <|
ok_some o (w32_rg _)) fun o =>
z_sub (L1 := [(0, .ref (G.2.2.1 157)), (4, .int (pI p4)), (5, .int (pI x11)), (6, .int (pI v16)), (7, .int (pI x30)), (8, .int (pI 0))]) X [1, 2, 3, 4, 5, 0] rfl <|
z_iter (fun (x33 : Int) s34 => rg x33 → At E s34 149 [(0, .ref (G.2.2.1 157)), (4, .int (pI p4)), (5, .int (pI x11)), (6, .int (pI v16)), (7, .int (pI x30)), (8, .int (pI x33))] []) o (fun x33 s34 o r35 =>
z_iload X 5 dX4_fewestPourings_149 rfl <|
z_iconst X dX4_fewestPourings_151 <|
z_icmp_ge (tgt := 178) X dX4_fewestPourings_152 (by decide) r35 kc_3 o (fun o =>
z_sub (L1 := [(0, .ref (G.2.2.1 157)), (4, .int (pI p4)), (5, .int (pI x11)), (6, .int (pI v16)), (7, .int (pI x30))]) X [0, 1, 2, 3, 4] rfl <|
ok_some o trivial) fun o =>
z_iload X 4 dX4_fewestPourings_155 rfl <|
z_iload X 5 dX4_fewestPourings_157 rfl <|
z_icmp_eq (tgt := 172) X dX4_fewestPourings_159 (by decide) r32 r35 o (fun o =>
z_iinc (L1 := [(8, .int (pI (w32 (x33 + 1)))), (0, .ref (G.2.2.1 157)), (4, .int (pI p4)), (5, .int (pI x11)), (6, .int (pI v16)), (7, .int (pI x30))]) X 5 dX4_fewestPourings_172 rfl (by decide) rfl <|
z_goto (tgt := 149) X dX4_fewestPourings_175 (by decide) <|
z_sub (L1 := [(0, .ref (G.2.2.1 157)), (4, .int (pI p4)), (5, .int (pI x11)), (6, .int (pI v16)), (7, .int (pI x30)), (8, .int (pI (w32 (x33 + 1))))]) X [1, 2, 3, 4, 5, 0] rfl <|
ok_some o (w32_rg _)) fun o =>
z_aload_n X 0 dX4_fewestPourings_162 rfl <|
z_iload X 3 dX4_fewestPourings_163 rfl <|
z_iload X 4 dX4_fewestPourings_165 rfl <|
z_iload X 5 dX4_fewestPourings_167 rfl <|
z_callvV X dX4_fewestPourings_169 q_1463 wX4_pour sx_157 rfl (by decide) [.int (pI v16), .int (pI x30), .int (pI x33)] [] rfl rfl (Nat.le_of_ble_eq_true rfl) (fun r σ1 e => ct_X4_pour v16 x30 x33 r17 r32 r35 G _ r σ1 e) o fun r36 s37 o =>
z_iinc (L1 := [(8, .int (pI (w32 (x33 + 1)))), (0, .ref (G.2.2.1 157)), (4, .int (pI p4)), (5, .int (pI x11)), (6, .int (pI v16)), (7, .int (pI x30))]) X 5 dX4_fewestPourings_172 rfl (by decide) rfl <|
z_goto (tgt := 149) X dX4_fewestPourings_175 (by decide) <|
z_sub (L1 := [(0, .ref (G.2.2.1 157)), (4, .int (pI p4)), (5, .int (pI x11)), (6, .int (pI v16)), (7, .int (pI x30)), (8, .int (pI (w32 (x33 + 1))))]) X [1, 2, 3, 4, 5, 0] rfl <|
ok_some o (w32_rg _)) kc_0) kc_0) fun o =>
z_sub (L1 := [(0, .ref (G.2.2.1 157)), (6, .int (pI v16))]) X [1, 0] rfl <|
ok_some o r17) fun o =>
z_goto (tgt := 184) X dX4_fewestPourings_87 (by decide) <|
z_iinc (L1 := [(5, .int (pI (w32 (x11 + 1)))), (6, .int (pI v16)), (0, .ref (G.2.2.1 157)), (4, .int (pI p4))]) X 3 dX4_fewestPourings_184 rfl (by decide) rfl <|
z_goto (tgt := 43) X dX4_fewestPourings_187 (by decide) <|
z_sub (L1 := [(0, .ref (G.2.2.1 157)), (4, .int (pI p4)), (5, .int (pI (w32 (x11 + 1))))]) X [2, 3, 0] rfl <|
ok_some o (w32_rg _)) kc_0 : At E s0 0 [(0, .ref (G.2.2.1 157)), (1, .int (pI p1)), (2, .int (pI p2)), (3, .int (pI p3)), (4, .int (pI p4))] [])
set_option maxHeartbeats 4000000 in
set_option maxRecDepth 100000 in
theorem ct_X11_lamps (p1 : Int) (p2 : Int) (p3 : Int) (p4 : Int) (hp1 : rg p1) (hp2 : rg p2) (hp3 : rg p3) (hp4 : rg p4) (G : Gw) (s0 : St) (r : Int) (σ1 : St) (e : fX11_lamps p1 p2 p3 p4 s0 = some (r, σ1)) : Ct yX11_lamps cX11_lamps 5 (some .int) 4 96 SX G [.ref (G.2.2.1 0), .int (pI p1), .int (pI p2), .int (pI p3), .int (pI p4)] s0 (QI SX G r rg σ1) :=
  Ct.of (by decide +kernel) (Nat.le_of_ble_eq_true rfl) fun E X Y => by
    have o : Ok (fX11_lamps p1 p2 p3 p4 s0) (fun x σ' => x = r ∧ σ' = σ1) := ⟨r, σ1, e, rfl, rfl⟩
    unfold fX11_lamps at o
    exact (
z_iload_n X 1 dX11_lamps_0 rfl <|
z_iconst X dX11_lamps_1 <|
z_bipush X dX11_lamps_2 bi_12 <|
z_callsI X dX11_lamps_4 q_681 wX11_within  (by decide) [.int (pI p1), .int (pI 1), .int (pI 12)] [] rfl rfl (Nat.le_of_ble_eq_true rfl) (fun r σ1 e => ct_X11_within p1 1 12 hp1 kc_1 kc_12 G _ r σ1 e) o fun r1 s2 h3 o =>
z_if_eq (tgt := 41) X dX11_lamps_7 (by decide) (r01_rg h3) o (fun o =>
z_iconst X dX11_lamps_41 <|
z_iret X Y dX11_lamps_42 o kc_m1) fun o =>
z_iload_n X 2 dX11_lamps_10 rfl <|
z_iconst X dX11_lamps_11 <|
z_bipush X dX11_lamps_12 bi_12 <|
z_callsI X dX11_lamps_14 q_681 wX11_within  (by decide) [.int (pI p2), .int (pI 1), .int (pI 12)] [] rfl rfl (Nat.le_of_ble_eq_true rfl) (fun r σ1 e => ct_X11_within p2 1 12 hp2 kc_1 kc_12 G _ r σ1 e) o fun r4 s5 h6 o =>
z_if_eq (tgt := 41) X dX11_lamps_17 (by decide) (r01_rg h6) o (fun o =>
z_iconst X dX11_lamps_41 <|
z_iret X Y dX11_lamps_42 o kc_m1) fun o =>
z_iload_n X 3 dX11_lamps_20 rfl <|
z_iconst X dX11_lamps_21 <|
z_bipush X dX11_lamps_22 bi_12 <|
z_callsI X dX11_lamps_24 q_681 wX11_within  (by decide) [.int (pI p3), .int (pI 1), .int (pI 12)] [] rfl rfl (Nat.le_of_ble_eq_true rfl) (fun r σ1 e => ct_X11_within p3 1 12 hp3 kc_1 kc_12 G _ r σ1 e) o fun r7 s8 h9 o =>
z_if_eq (tgt := 41) X dX11_lamps_27 (by decide) (r01_rg h9) o (fun o =>
z_iconst X dX11_lamps_41 <|
z_iret X Y dX11_lamps_42 o kc_m1) fun o =>
z_iload X 4 dX11_lamps_30 rfl <|
z_iconst X dX11_lamps_32 <|
z_bipush X dX11_lamps_33 bi_12 <|
z_callsI X dX11_lamps_35 q_681 wX11_within  (by decide) [.int (pI p4), .int (pI 0), .int (pI 12)] [] rfl rfl (Nat.le_of_ble_eq_true rfl) (fun r σ1 e => ct_X11_within p4 0 12 hp4 kc_0 kc_12 G _ r σ1 e) o fun r10 s11 h12 o =>
z_if_ne (tgt := 43) X dX11_lamps_38 (by decide) (r01_rg h12) o (fun o =>
z_aload_n X 0 dX11_lamps_43 rfl <|
z_getR (q := 157) X dX11_lamps_44 fl_X11_90 sx_0 rfl <|
z_iload_n X 1 dX11_lamps_47 rfl <|
z_iload_n X 2 dX11_lamps_48 rfl <|
z_iload_n X 3 dX11_lamps_49 rfl <|
z_iload X 4 dX11_lamps_50 rfl <|
z_callvI X dX11_lamps_52 q_1451 wX4_fewestPourings sx_157 rfl (by decide) [.int (pI p1), .int (pI p2), .int (pI p3), .int (pI p4)] [] rfl rfl (Nat.le_of_ble_eq_true rfl) (fun r σ1 e => ct_X4_fewestPourings p1 p2 p3 p4 hp1 hp2 hp3 hp4 G _ r σ1 e) o fun r13 s14 h15 o =>
z_iret X Y dX11_lamps_55 o h15) fun o =>
z_iconst X dX11_lamps_41 <|
z_iret X Y dX11_lamps_42 o kc_m1 : At E s0 0 [(0, .ref (G.2.2.1 0)), (1, .int (pI p1)), (2, .int (pI p2)), (3, .int (pI p3)), (4, .int (pI p4))] [])
set_option maxHeartbeats 4000000 in
set_option maxRecDepth 100000 in
theorem ct_X4_walk (p1 : Int) (p2 : Int) (p3 : Int) (hp1 : rg p1) (hp2 : rg p2) (hp3 : rg p3) (G : Gw) (s0 : St) (r : Int) (σ1 : St) (e : fX4_walk p1 p2 p3 s0 = some (r, σ1)) : Ct yX4_walk cX4_walk 5 none 1 22 SX G [.ref (G.2.2.1 157), .int (pI p1), .int (pI p2), .int (pI p3)] s0 (QV SX G σ1) :=
  Ct.of (by decide +kernel) (Nat.le_of_ble_eq_true rfl) fun E X Y => by
    have o : Ok (fX4_walk p1 p2 p3 s0) (fun x σ' => x = r ∧ σ' = σ1) := ⟨r, σ1, e, rfl, rfl⟩
    unfold fX4_walk at o
    exact (
z_iload_n X 1 dX4_walk_0 rfl <|
z_iconst X dX4_walk_1 <|
z_bipush X dX4_walk_2 bi_11 <|
z_callsIN X dX4_walk_4 q_1288 wX11_within  (by decide) [.int (pI p1), .int (pI 0), .int (pI 11)] [] rfl rfl (Nat.le_of_ble_eq_true rfl) (fun r σ1 e => ct_X11_within p1 0 11 hp1 kc_0 kc_11 G _ r σ1 e) o fun r1 s2 h3 o =>
z_if_eq (tgt := 20) X dX4_walk_7 (by decide) (r01_rg h3) o (fun o =>
z_vret (v := 0) X Y dX4_walk_20 o) fun o =>
z_iload_n X 2 dX4_walk_10 rfl <|
z_iconst X dX4_walk_11 <|
z_bipush X dX4_walk_12 bi_11 <|
z_callsIN X dX4_walk_14 q_1288 wX11_within  (by decide) [.int (pI p2), .int (pI 0), .int (pI 11)] [] rfl rfl (Nat.le_of_ble_eq_true rfl) (fun r σ1 e => ct_X11_within p2 0 11 hp2 kc_0 kc_11 G _ r σ1 e) o fun r4 s5 h6 o =>
z_if_ne (tgt := 21) X dX4_walk_17 (by decide) (r01_rg h6) o (fun o =>
z_aload_n X 0 dX4_walk_21 rfl <|
z_getR (q := 161) X dX4_walk_22 fl_X4_21 sx_157 rfl <|
z_iload_n X 1 dX4_walk_25 rfl <|
z_iald X dX4_walk_26 sx_161 hp1 o fun v7 r8 o =>
z_iconst X dX4_walk_27 <|
z_icmp_ne (tgt := 32) X dX4_walk_28 (by decide) r8 kc_m1 o (fun o =>
z_aload_n X 0 dX4_walk_32 rfl <|
z_getR (q := 161) X dX4_walk_33 fl_X4_21 sx_157 rfl <|
z_iload_n X 1 dX4_walk_36 rfl <|
z_iald X dX4_walk_37 sx_161 hp1 o fun v9 r10 o =>
z_iload_n X 3 dX4_walk_38 rfl <|
z_iadd X dX4_walk_39 <|
z_istoreL (L1 := fun v11 => [(4, .int (pI v11)), (0, .ref (G.2.2.1 157)), (1, .int (pI p1)), (2, .int (pI p2)), (3, .int (pI p3))]) (R := rg) X dX4_walk_40 (by decide) (fun _ => rfl) o (w32_rg _) fun v11 r12 o =>
z_aload_n X 1 dX4_walk_42 rfl <|
z_getR (q := 161) X dX4_walk_43 fl_X4_21 sx_157 rfl <|
z_iload_n X 3 dX4_walk_46 rfl <|
z_iald X dX4_walk_47 sx_161 hp2 o fun v13 r14 o =>
z_iconst X dX4_walk_48 <|
z_icmp_eq (tgt := 63) X dX4_walk_49 (by decide) r14 kc_m1 o (fun o =>
z_aload_n X 1 dX4_walk_63 rfl <|
z_getR (q := 161) X dX4_walk_64 fl_X4_21 sx_157 rfl <|
z_iload_n X 3 dX4_walk_67 rfl <|
z_iload X 0 dX4_walk_68 rfl <|
z_iast X dX4_walk_70 sx_161 hp2 r12 o fun s15 o =>
z_vret (v := 0) X Y dX4_walk_71 o) fun o =>
z_iload X 0 dX4_walk_52 rfl <|
z_aload_n X 1 dX4_walk_54 rfl <|
z_getR (q := 161) X dX4_walk_55 fl_X4_21 sx_157 rfl <|
z_iload_n X 3 dX4_walk_58 rfl <|
z_iald X dX4_walk_59 sx_161 hp2 o fun v16 r17 o =>
z_icmp_ge (tgt := 71) X dX4_walk_60 (by decide) r12 r17 o (fun o =>
z_vret (v := 0) X Y dX4_walk_71 o) fun o =>
z_aload_n X 1 dX4_walk_63 rfl <|
z_getR (q := 161) X dX4_walk_64 fl_X4_21 sx_157 rfl <|
z_iload_n X 3 dX4_walk_67 rfl <|
z_iload X 0 dX4_walk_68 rfl <|
z_iast X dX4_walk_70 sx_161 hp2 r12 o fun s18 o =>
z_vret (v := 0) X Y dX4_walk_71 o) fun o =>
z_vret (v := 0) X Y dX4_walk_31 o) fun o =>
z_vret (v := 0) X Y dX4_walk_20 o : At E s0 0 [(0, .ref (G.2.2.1 157)), (1, .int (pI p1)), (2, .int (pI p2)), (3, .int (pI p3))] [])
set_option maxHeartbeats 4000000 in
set_option maxRecDepth 100000 in
theorem ct_X4_lastToHear (p1 : Int) (p2 : Int) (hp1 : rg p1) (hp2 : rg p2) (G : Gw) (s0 : St) (r : Int) (σ1 : St) (e : fX4_lastToHear p1 p2 s0 = some (r, σ1)) : Ct yX4_lastToHear cX4_lastToHear 6 (some .int) 2 46 SX G [.ref (G.2.2.1 157), .int (pI p1), .int (pI p2)] s0 (QI SX G r rg σ1) :=
  Ct.of (by decide +kernel) (Nat.le_of_ble_eq_true rfl) fun E X Y => by
    have o : Ok (fX4_lastToHear p1 p2 s0) (fun x σ' => x = r ∧ σ' = σ1) := ⟨r, σ1, e, rfl, rfl⟩
    unfold fX4_lastToHear at o
    exact (
z_iload_n X 1 dX4_lastToHear_0 rfl <|
z_iconst X dX4_lastToHear_1 <|
z_bipush X dX4_lastToHear_2 bi_11 <|
z_callsIN X dX4_lastToHear_4 q_1288 wX11_within  (by decide) [.int (pI p1), .int (pI 0), .int (pI 11)] [] rfl rfl (Nat.le_of_ble_eq_true rfl) (fun r σ1 e => ct_X11_within p1 0 11 hp1 kc_0 kc_11 G _ r σ1 e) o fun r1 s2 h3 o =>
z_if_ne (tgt := 12) X dX4_lastToHear_7 (by decide) (r01_rg h3) o (fun o =>
z_aload_n X 0 dX4_lastToHear_12 rfl <|
z_getR (q := 161) X dX4_lastToHear_13 fl_X4_21 sx_157 rfl <|
z_iconst X dX4_lastToHear_16 <|
z_callsV X dX4_lastToHear_17 q_1287 wJ7_fill_53178  (by decide) [.ref (G.2.2.1 161), .int (pI (-1))] [] rfl rfl (Nat.le_of_ble_eq_true rfl) (fun r σ1 e => ct_J7_fill_53178 SX 161 12 (-1) sx_161 (by decide) kc_m1 G _ r σ1 e) o fun r4 s5 o =>
z_aload_n X 0 dX4_lastToHear_20 rfl <|
z_getR (q := 161) X dX4_lastToHear_21 fl_X4_21 sx_157 rfl <|
z_iload_n X 1 dX4_lastToHear_24 rfl <|
z_iconst X dX4_lastToHear_25 <|
z_iast X dX4_lastToHear_26 sx_161 hp1 kc_0 o fun s7 o =>
z_iconst X dX4_lastToHear_27 <|
z_istore_n (L1 := [(3, .int (pI 0)), (0, .ref (G.2.2.1 157)), (1, .int (pI p1)), (2, .int (pI p2))]) X dX4_lastToHear_28 rfl (by decide) rfl <|
z_join o (fun (y44 : Unit) s45 => True → At E s45 151 [(0, .ref (G.2.2.1 157)), (1, .int (pI p1)), (2, .int (pI p2))] []) (fun y44 s45 o r46 =>
z_iload_n X 1 dX4_lastToHear_151 rfl <|
z_istore_n (L1 := [(3, .int (pI p1)), (0, .ref (G.2.2.1 157)), (1, .int (pI p1)), (2, .int (pI p2))]) X dX4_lastToHear_152 rfl (by decide) rfl <|
z_iconst X dX4_lastToHear_153 <|
z_istore (L1 := [(4, .int (pI 0)), (3, .int (pI p1)), (0, .ref (G.2.2.1 157)), (1, .int (pI p1)), (2, .int (pI p2))]) X dX4_lastToHear_154 (by decide) rfl <|
z_iconst X dX4_lastToHear_156 <|
z_istore (L1 := [(5, .int (pI 0)), (4, .int (pI 0)), (3, .int (pI p1)), (0, .ref (G.2.2.1 157)), (1, .int (pI p1)), (2, .int (pI p2))]) X dX4_lastToHear_157 (by decide) rfl <|
z_join o (fun (y59 : Int × Int) s60 => rg y59.1 ∧ rg y59.2 → At E s60 205 [(0, .ref (G.2.2.1 157)), (2, .int (pI p2)), (3, .int (pI y59.1)), (4, .int (pI y59.2))] []) (fun y59 s60 o r61 =>
z_iload_n X 1 dX4_lastToHear_205 rfl <|
z_if_ne (tgt := 211) X dX4_lastToHear_206 (by decide) hp2 o (fun o =>
z_iload_n X 1 dX4_lastToHear_211 rfl <|
z_iconst X dX4_lastToHear_212 <|
z_icmp_ne (tgt := 225) X dX4_lastToHear_213 (by decide) hp2 kc_1 o (fun o =>
z_iload X 3 dX4_lastToHear_225 rfl <|
z_iret X Y dX4_lastToHear_227 o r61.2) fun o =>
z_aload_n X 0 dX4_lastToHear_216 rfl <|
z_getR (q := 161) X dX4_lastToHear_217 fl_X4_21 sx_157 rfl <|
z_iload_n X 2 dX4_lastToHear_220 rfl <|
z_iald X dX4_lastToHear_221 sx_161 r61.1 o fun v62 r63 o =>
z_goto (tgt := 227) X dX4_lastToHear_222 (by decide) <|
z_iret X Y dX4_lastToHear_227 o r63) fun o =>
z_iload_n X 2 dX4_lastToHear_209 rfl <|
z_iret X Y dX4_lastToHear_210 o r61.1) fun o =>
z_sub (L1 := [(0, .ref (G.2.2.1 157)), (2, .int (pI p2)), (3, .int (pI p1)), (4, .int (pI 0)), (5, .int (pI 0))]) X [3, 5, 2, 1, 0] rfl <|
z_iter (fun (x47 : Int × Int × Int) s48 => rg x47.1 ∧ rg x47.2.1 ∧ rg x47.2.2 → At E s48 159 [(0, .ref (G.2.2.1 157)), (2, .int (pI p2)), (3, .int (pI x47.1)), (4, .int (pI x47.2.1)), (5, .int (pI x47.2.2))] []) o (fun x47 s48 o r49 =>
z_iload X 4 dX4_lastToHear_159 rfl <|
z_bipush X dX4_lastToHear_161 bi_12 <|
z_icmp_ge (tgt := 205) X dX4_lastToHear_163 (by decide) r49.2.2 kc_12 o (fun o =>
z_sub (L1 := [(0, .ref (G.2.2.1 157)), (2, .int (pI p2)), (3, .int (pI x47.1)), (4, .int (pI x47.2.1))]) X [0, 1, 2, 3] rfl <|
ok_some o ⟨r49.1, r49.2.1⟩) fun o =>
z_aload_n X 0 dX4_lastToHear_166 rfl <|
z_getR (q := 161) X dX4_lastToHear_167 fl_X4_21 sx_157 rfl <|
z_iload X 4 dX4_lastToHear_170 rfl <|
z_iald X dX4_lastToHear_172 sx_161 r49.2.2 o fun v50 r51 o =>
z_iconst X dX4_lastToHear_173 <|
z_join o (fun (y52 : Int) s53 => rg y52 → At E s53 180 [(0, .ref (G.2.2.1 157)), (2, .int (pI p2)), (3, .int (pI x47.1)), (4, .int (pI y52)), (5, .int (pI x47.2.2))] []) (fun y52 s53 o r54 =>
z_aload_n X 0 dX4_lastToHear_180 rfl <|
z_getR (q := 161) X dX4_lastToHear_181 fl_X4_21 sx_157 rfl <|
z_iload X 4 dX4_lastToHear_184 rfl <|
z_iald X dX4_lastToHear_186 sx_161 r49.2.2 o fun v55 r56 o =>
z_aload_n X 0 dX4_lastToHear_187 rfl <|
z_getR (q := 161) X dX4_lastToHear_188 fl_X4_21 sx_157 rfl <|
z_iload_n X 2 dX4_lastToHear_191 rfl <|
z_iald X dX4_lastToHear_192 sx_161 r49.1 o fun v57 r58 o =>
z_icmp_le (tgt := 199) X dX4_lastToHear_193 (by decide) r56 r58 o (fun o =>
z_iinc (L1 := [(5, .int (pI (w32 (x47.2.2 + 1)))), (0, .ref (G.2.2.1 157)), (2, .int (pI p2)), (3, .int (pI x47.1)), (4, .int (pI y52))]) X 4 dX4_lastToHear_199 rfl (by decide) rfl <|
z_goto (tgt := 159) X dX4_lastToHear_202 (by decide) <|
z_sub (L1 := [(0, .ref (G.2.2.1 157)), (2, .int (pI p2)), (3, .int (pI x47.1)), (4, .int (pI y52)), (5, .int (pI (w32 (x47.2.2 + 1))))]) X [1, 2, 3, 4, 0] rfl <|
ok_some o ⟨r49.1, r54, (w32_rg _)⟩) fun o =>
z_iload X 4 dX4_lastToHear_196 rfl <|
z_istore_n (L1 := [(3, .int (pI x47.2.2)), (0, .ref (G.2.2.1 157)), (2, .int (pI p2)), (4, .int (pI y52)), (5, .int (pI x47.2.2))]) X dX4_lastToHear_198 rfl (by decide) rfl <|
z_iinc (L1 := [(5, .int (pI (w32 (x47.2.2 + 1)))), (3, .int (pI x47.2.2)), (0, .ref (G.2.2.1 157)), (2, .int (pI p2)), (4, .int (pI y52))]) X 4 dX4_lastToHear_199 rfl (by decide) rfl <|
z_goto (tgt := 159) X dX4_lastToHear_202 (by decide) <|
z_sub (L1 := [(0, .ref (G.2.2.1 157)), (2, .int (pI p2)), (3, .int (pI x47.2.2)), (4, .int (pI y52)), (5, .int (pI (w32 (x47.2.2 + 1))))]) X [2, 3, 1, 4, 0] rfl <|
ok_some o ⟨r49.2.2, r54, (w32_rg _)⟩) fun o =>
z_icmp_eq (tgt := 180) X dX4_lastToHear_174 (by decide) r51 kc_m1 o (fun o =>
ok_some o r49.2.1) fun o =>
z_iinc (L1 := [(4, .int (pI (w32 (x47.2.1 + 1)))), (0, .ref (G.2.2.1 157)), (2, .int (pI p2)), (3, .int (pI x47.1)), (5, .int (pI x47.2.2))]) X 3 dX4_lastToHear_177 rfl (by decide) rfl <|
z_sub (L1 := [(0, .ref (G.2.2.1 157)), (2, .int (pI p2)), (3, .int (pI x47.1)), (4, .int (pI (w32 (x47.2.1 + 1)))), (5, .int (pI x47.2.2))]) X [1, 2, 3, 0, 4] rfl <|
ok_some o (w32_rg _)) ⟨hp1, kc_0, kc_0⟩) fun o =>
z_sub (L1 := [(0, .ref (G.2.2.1 157)), (1, .int (pI p1)), (2, .int (pI p2)), (3, .int (pI 0))]) X [1, 2, 3, 0] rfl <|
z_iter (fun (x8 : Int) s9 => rg x8 → At E s9 29 [(0, .ref (G.2.2.1 157)), (1, .int (pI p1)), (2, .int (pI p2)), (3, .int (pI x8))] []) o (fun x8 s9 o r10 =>
z_iload_n X 3 dX4_lastToHear_29 rfl <|
z_bipush X dX4_lastToHear_30 bi_12 <|
z_icmp_ge (tgt := 151) X dX4_lastToHear_32 (by decide) r10 kc_12 o (fun o =>
z_sub (L1 := [(0, .ref (G.2.2.1 157)), (1, .int (pI p1)), (2, .int (pI p2))]) X [0, 1, 2] rfl <|
ok_some o trivial) fun o =>
z_iconst X dX4_lastToHear_35 <|
z_istore (L1 := [(4, .int (pI 0)), (0, .ref (G.2.2.1 157)), (1, .int (pI p1)), (2, .int (pI p2)), (3, .int (pI x8))]) X dX4_lastToHear_36 (by decide) rfl <|
z_join o (fun (y41 : Unit) s42 => True → At E s42 145 [(0, .ref (G.2.2.1 157)), (1, .int (pI p1)), (2, .int (pI p2)), (3, .int (pI x8))] []) (fun y41 s42 o r43 =>
z_iinc (L1 := [(3, .int (pI (w32 (x8 + 1)))), (0, .ref (G.2.2.1 157)), (1, .int (pI p1)), (2, .int (pI p2))]) X 3 dX4_lastToHear_145 rfl (by decide) rfl <|
z_goto (tgt := 29) X dX4_lastToHear_148 (by decide) <|
z_sub (L1 := [(0, .ref (G.2.2.1 157)), (1, .int (pI p1)), (2, .int (pI p2)), (3, .int (pI (w32 (x8 + 1))))]) X [1, 2, 3, 0] rfl <|
ok_some o (w32_rg _)) fun o =>
z_sub (L1 := [(0, .ref (G.2.2.1 157)), (1, .int (pI p1)), (2, .int (pI p2)), (3, .int (pI x8)), (4, .int (pI 0))]) X [1, 2, 3, 4, 0] rfl <|
z_iter (fun (x11 : Int) s12 => rg x11 → At E s12 38 [(0, .ref (G.2.2.1 157)), (1, .int (pI p1)), (2, .int (pI p2)), (3, .int (pI x8)), (4, .int (pI x11))] []) o (fun x11 s12 o r13 =>
z_iload X 4 dX4_lastToHear_38 rfl <|
z_aload_n X 0 dX4_lastToHear_40 rfl <|
z_getR (q := 17) X dX4_lastToHear_41 fl_X4_56 sx_157 rfl <|
z_getRN (q := 26) X dX4_lastToHear_44 fn_X4_157 sx_17 rfl <|
z_callvI X dX4_lastToHear_47 q_1265 wX6_size sx_26 rfl (by decide) [] [.int (pI x11)] rfl rfl (Nat.le_of_ble_eq_true rfl) (fun r σ1 e => ct_X6_size SX 26 27 64 ⟨sx_26, sx_27, (by decide)⟩ G _ r σ1 e) o fun r14 s15 h16 o =>
z_icmp_ge (tgt := 145) X dX4_lastToHear_50 (by decide) r13 h16 o (fun o =>
z_sub (L1 := [(0, .ref (G.2.2.1 157)), (1, .int (pI p1)), (2, .int (pI p2)), (3, .int (pI x8))]) X [0, 1, 2, 3] rfl <|
ok_some o trivial) fun o =>
z_aload_n X 0 dX4_lastToHear_53 rfl <|
z_aload_n X 0 dX4_lastToHear_54 rfl <|
z_getR (q := 17) X dX4_lastToHear_55 fl_X4_56 sx_157 rfl <|
z_getRN (q := 26) X dX4_lastToHear_58 fn_X4_157 sx_17 rfl <|
z_iload X 4 dX4_lastToHear_61 rfl <|
z_iconst X dX4_lastToHear_63 <|
z_callvI X dX4_lastToHear_64 q_1266 wX6_get sx_26 rfl (by decide) [.int (pI x11), .int (pI 0)] [.ref (G.2.2.1 157)] rfl rfl (Nat.le_of_ble_eq_true rfl) (fun r σ1 e => ct_X6_get SX 26 27 64 x11 0 ⟨sx_26, sx_27, (by decide)⟩ r13 kc_0 G _ r σ1 e) o fun r17 s18 h19 o =>
z_aload_n X 0 dX4_lastToHear_67 rfl <|
z_getR (q := 17) X dX4_lastToHear_68 fl_X4_56 sx_157 rfl <|
z_getRN (q := 26) X dX4_lastToHear_71 fn_X4_157 sx_17 rfl <|
z_iload X 4 dX4_lastToHear_74 rfl <|
z_iconst X dX4_lastToHear_76 <|
z_callvI X dX4_lastToHear_77 q_1266 wX6_get sx_26 rfl (by decide) [.int (pI x11), .int (pI 1)] [.int (pI r17), .ref (G.2.2.1 157)] rfl rfl (Nat.le_of_ble_eq_true rfl) (fun r σ1 e => ct_X6_get SX 26 27 64 x11 1 ⟨sx_26, sx_27, (by decide)⟩ r13 kc_1 G _ r σ1 e) o fun r20 s21 h22 o =>
z_aload_n X 0 dX4_lastToHear_80 rfl <|
z_getR (q := 17) X dX4_lastToHear_81 fl_X4_56 sx_157 rfl <|
z_getRN (q := 26) X dX4_lastToHear_84 fn_X4_157 sx_17 rfl <|
z_iload X 4 dX4_lastToHear_87 rfl <|
z_iconst X dX4_lastToHear_89 <|
z_callvI X dX4_lastToHear_90 q_1266 wX6_get sx_26 rfl (by decide) [.int (pI x11), .int (pI 2)] [.int (pI r20), .int (pI r17), .ref (G.2.2.1 157)] rfl rfl (Nat.le_of_ble_eq_true rfl) (fun r σ1 e => ct_X6_get SX 26 27 64 x11 2 ⟨sx_26, sx_27, (by decide)⟩ r13 kc_2 G _ r σ1 e) o fun r23 s24 h25 o =>
z_callvV X dX4_lastToHear_93 q_1427 wX4_walk sx_157 rfl (by decide) [.int (pI r17), .int (pI r20), .int (pI r23)] [] rfl rfl (Nat.le_of_ble_eq_true rfl) (fun r σ1 e => ct_X4_walk r17 r20 r23 h19 h22 h25 G _ r σ1 e) o fun r26 s27 o =>
z_aload_n X 0 dX4_lastToHear_96 rfl <|
z_aload_n X 0 dX4_lastToHear_97 rfl <|
z_getR (q := 17) X dX4_lastToHear_98 fl_X4_56 sx_157 rfl <|
z_getRN (q := 26) X dX4_lastToHear_101 fn_X4_157 sx_17 rfl <|
z_iload X 4 dX4_lastToHear_104 rfl <|
z_iconst X dX4_lastToHear_106 <|
z_callvI X dX4_lastToHear_107 q_1266 wX6_get sx_26 rfl (by decide) [.int (pI x11), .int (pI 1)] [.ref (G.2.2.1 157)] rfl rfl (Nat.le_of_ble_eq_true rfl) (fun r σ1 e => ct_X6_get SX 26 27 64 x11 1 ⟨sx_26, sx_27, (by decide)⟩ r13 kc_1 G _ r σ1 e) o fun r29 s30 h31 o =>
z_aload_n X 0 dX4_lastToHear_110 rfl <|
z_getR (q := 17) X dX4_lastToHear_111 fl_X4_56 sx_157 rfl <|
z_getRN (q := 26) X dX4_lastToHear_114 fn_X4_157 sx_17 rfl <|
z_iload X 4 dX4_lastToHear_117 rfl <|
z_iconst X dX4_lastToHear_119 <|
z_callvI X dX4_lastToHear_120 q_1266 wX6_get sx_26 rfl (by decide) [.int (pI x11), .int (pI 0)] [.int (pI r29), .ref (G.2.2.1 157)] rfl rfl (Nat.le_of_ble_eq_true rfl) (fun r σ1 e => ct_X6_get SX 26 27 64 x11 0 ⟨sx_26, sx_27, (by decide)⟩ r13 kc_0 G _ r σ1 e) o fun r32 s33 h34 o =>
z_aload_n X 0 dX4_lastToHear_123 rfl <|
z_getR (q := 17) X dX4_lastToHear_124 fl_X4_56 sx_157 rfl <|
z_getRN (q := 26) X dX4_lastToHear_127 fn_X4_157 sx_17 rfl <|
z_iload X 4 dX4_lastToHear_130 rfl <|
z_iconst X dX4_lastToHear_132 <|
z_callvI X dX4_lastToHear_133 q_1266 wX6_get sx_26 rfl (by decide) [.int (pI x11), .int (pI 2)] [.int (pI r32), .int (pI r29), .ref (G.2.2.1 157)] rfl rfl (Nat.le_of_ble_eq_true rfl) (fun r σ1 e => ct_X6_get SX 26 27 64 x11 2 ⟨sx_26, sx_27, (by decide)⟩ r13 kc_2 G _ r σ1 e) o fun r35 s36 h37 o =>
z_callvV X dX4_lastToHear_136 q_1427 wX4_walk sx_157 rfl (by decide) [.int (pI r29), .int (pI r32), .int (pI r35)] [] rfl rfl (Nat.le_of_ble_eq_true rfl) (fun r σ1 e => ct_X4_walk r29 r32 r35 h31 h34 h37 G _ r σ1 e) o fun r38 s39 o =>
z_iinc (L1 := [(4, .int (pI (w32 (x11 + 1)))), (0, .ref (G.2.2.1 157)), (1, .int (pI p1)), (2, .int (pI p2)), (3, .int (pI x8))]) X 4 dX4_lastToHear_139 rfl (by decide) rfl <|
z_goto (tgt := 38) X dX4_lastToHear_142 (by decide) <|
z_sub (L1 := [(0, .ref (G.2.2.1 157)), (1, .int (pI p1)), (2, .int (pI p2)), (3, .int (pI x8)), (4, .int (pI (w32 (x11 + 1))))]) X [1, 2, 3, 4, 0] rfl <|
ok_some o (w32_rg _)) kc_0) kc_0) fun o =>
z_iconst X dX4_lastToHear_10 <|
z_iret X Y dX4_lastToHear_11 o kc_m1 : At E s0 0 [(0, .ref (G.2.2.1 157)), (1, .int (pI p1)), (2, .int (pI p2))] [])
set_option maxHeartbeats 4000000 in
set_option maxRecDepth 100000 in
theorem ct_X11_last (p1 : Int) (p2 : Int) (hp1 : rg p1) (hp2 : rg p2) (G : Gw) (s0 : St) (r : Int) (σ1 : St) (e : fX11_last p1 p2 s0 = some (r, σ1)) : Ct yX11_last cX11_last 3 (some .int) 3 71 SX G [.ref (G.2.2.1 0), .int (pI p1), .int (pI p2)] s0 (QI SX G r rg σ1) :=
  Ct.of (by decide +kernel) (Nat.le_of_ble_eq_true rfl) fun E X Y => by
    have o : Ok (fX11_last p1 p2 s0) (fun x σ' => x = r ∧ σ' = σ1) := ⟨r, σ1, e, rfl, rfl⟩
    unfold fX11_last at o
    exact (
z_aload_n X 0 dX11_last_0 rfl <|
z_getR (q := 3) X dX11_last_1 fl_X11_19 sx_0 rfl <|
z_iload_n X 1 dX11_last_4 rfl <|
z_callvI X dX11_last_5 q_704 wX2_hasPorch sx_3 rfl (by decide) [.int (pI p1)] [] rfl rfl (Nat.le_of_ble_eq_true rfl) (fun r σ1 e => ct_X2_hasPorch p1 hp1 G _ r σ1 e) o fun r1 s2 h3 o =>
z_if_eq (tgt := 20) X dX11_last_8 (by decide) (r01_rg h3) o (fun o =>
z_iconst X dX11_last_20 <|
z_iret X Y dX11_last_21 o kc_m1) fun o =>
z_iload_n X 2 dX11_last_11 rfl <|
z_iconst X dX11_last_12 <|
z_iconst X dX11_last_13 <|
z_callsI X dX11_last_14 q_681 wX11_within  (by decide) [.int (pI p2), .int (pI 0), .int (pI 2)] [] rfl rfl (Nat.le_of_ble_eq_true rfl) (fun r σ1 e => ct_X11_within p2 0 2 hp2 kc_0 kc_2 G _ r σ1 e) o fun r4 s5 h6 o =>
z_if_ne (tgt := 22) X dX11_last_17 (by decide) (r01_rg h6) o (fun o =>
z_aload_n X 0 dX11_last_22 rfl <|
z_getR (q := 157) X dX11_last_23 fl_X11_90 sx_0 rfl <|
z_iload_n X 1 dX11_last_26 rfl <|
z_iload_n X 2 dX11_last_27 rfl <|
z_callvI X dX11_last_28 q_1423 wX4_lastToHear sx_157 rfl (by decide) [.int (pI p1), .int (pI p2)] [] rfl rfl (Nat.le_of_ble_eq_true rfl) (fun r σ1 e => ct_X4_lastToHear p1 p2 hp1 hp2 G _ r σ1 e) o fun r7 s8 h9 o =>
z_iret X Y dX11_last_31 o h9) fun o =>
z_iconst X dX11_last_20 <|
z_iret X Y dX11_last_21 o kc_m1 : At E s0 0 [(0, .ref (G.2.2.1 0)), (1, .int (pI p1)), (2, .int (pI p2))] [])
set_option maxHeartbeats 4000000 in
set_option maxRecDepth 100000 in
theorem ct_X4_ditch   (G : Gw) (s0 : St) (r : Int) (σ1 : St) (e : fX4_ditch s0 = some (r, σ1)) : Ct yX4_ditch cX4_ditch 6 (some .int) 1 22 SX G [.ref (G.2.2.1 157)] s0 (QI SX G r rg σ1) :=
  Ct.of (by decide +kernel) (Nat.le_of_ble_eq_true rfl) fun E X Y => by
    have o : Ok (fX4_ditch s0) (fun x σ' => x = r ∧ σ' = σ1) := ⟨r, σ1, e, rfl, rfl⟩
    unfold fX4_ditch at o
    exact (
z_iconst X dX4_ditch_0 <|
z_istore_n (L1 := [(1, .int (pI 0)), (0, .ref (G.2.2.1 157))]) X dX4_ditch_1 rfl (by decide) rfl <|
z_iconst X dX4_ditch_2 <|
z_istore_n (L1 := [(2, .int (pI 0)), (1, .int (pI 0)), (0, .ref (G.2.2.1 157))]) X dX4_ditch_3 rfl (by decide) rfl <|
z_join o (fun (y37 : Int) s38 => rg y37 → At E s38 128 [(1, .int (pI y37))] []) (fun y37 s38 o r39 =>
z_iload_n X 0 dX4_ditch_128 rfl <|
z_iret X Y dX4_ditch_129 o r39) fun o =>
z_sub (L1 := [(0, .ref (G.2.2.1 157)), (1, .int (pI 0)), (2, .int (pI 0))]) X [2, 1, 0] rfl <|
z_iter (fun (x1 : Int × Int) s2 => rg x1.1 ∧ rg x1.2 → At E s2 4 [(0, .ref (G.2.2.1 157)), (1, .int (pI x1.1)), (2, .int (pI x1.2))] []) o (fun x1 s2 o r3 =>
z_iload_n X 2 dX4_ditch_4 rfl <|
z_aload_n X 0 dX4_ditch_5 rfl <|
z_getR (q := 17) X dX4_ditch_6 fl_X4_56 sx_157 rfl <|
z_getRN (q := 36) X dX4_ditch_9 fn_X4_115 sx_17 rfl <|
z_callvI X dX4_ditch_12 q_1265 wX6_size sx_36 rfl (by decide) [] [.int (pI x1.2)] rfl rfl (Nat.le_of_ble_eq_true rfl) (fun r σ1 e => ct_X6_size SX 36 37 12 ⟨sx_36, sx_37, (by decide)⟩ G _ r σ1 e) o fun r4 s5 h6 o =>
z_icmp_ge (tgt := 128) X dX4_ditch_15 (by decide) r3.2 h6 o (fun o =>
z_sub (L1 := [(1, .int (pI x1.1))]) X [1] rfl <|
ok_some o r3.1) fun o =>
z_iconst X dX4_ditch_18 <|
z_istore_n (L1 := [(3, .int (pI 0)), (0, .ref (G.2.2.1 157)), (1, .int (pI x1.1)), (2, .int (pI x1.2))]) X dX4_ditch_19 rfl (by decide) rfl <|
z_iconst X dX4_ditch_20 <|
z_istore (L1 := [(4, .int (pI 0)), (3, .int (pI 0)), (0, .ref (G.2.2.1 157)), (1, .int (pI x1.1)), (2, .int (pI x1.2))]) X dX4_ditch_21 (by decide) rfl <|
z_iconst X dX4_ditch_23 <|
z_istore (L1 := [(5, .int (pI 0)), (4, .int (pI 0)), (3, .int (pI 0)), (0, .ref (G.2.2.1 157)), (1, .int (pI x1.1)), (2, .int (pI x1.2))]) X dX4_ditch_24 (by decide) rfl <|
z_join o (fun (y15 : Int) s16 => rg y15 → At E s16 56 [(0, .ref (G.2.2.1 157)), (1, .int (pI x1.1)), (2, .int (pI x1.2)), (3, .int (pI y15)), (4, .int (pI 0))] []) (fun y15 s16 o r17 =>
z_iload_n X 2 dX4_ditch_56 rfl <|
z_istore (L1 := [(5, .int (pI x1.2)), (0, .ref (G.2.2.1 157)), (1, .int (pI x1.1)), (2, .int (pI x1.2)), (3, .int (pI y15)), (4, .int (pI 0))]) X dX4_ditch_57 (by decide) rfl <|
z_join o (fun (y29 : Int) s30 => rg y29 → At E s30 100 [(0, .ref (G.2.2.1 157)), (1, .int (pI x1.1)), (2, .int (pI x1.2)), (3, .int (pI y15)), (4, .int (pI y29))] []) (fun y29 s30 o r31 =>
z_iload_n X 1 dX4_ditch_100 rfl <|
z_iload_n X 3 dX4_ditch_101 rfl <|
z_iload X 4 dX4_ditch_102 rfl <|
z_mmin X dX4_ditch_104 q_1310 q_837 q_174 q_838 (by decide) (Nat.le_of_ble_eq_true rfl) r17 r31 <|
z_aload_n X 0 dX4_ditch_107 rfl <|
z_getR (q := 17) X dX4_ditch_108 fl_X4_56 sx_157 rfl <|
z_getRN (q := 36) X dX4_ditch_111 fn_X4_115 sx_17 rfl <|
z_iload_n X 2 dX4_ditch_114 rfl <|
z_iconst X dX4_ditch_115 <|
z_callvI X dX4_ditch_116 q_1266 wX6_get sx_36 rfl (by decide) [.int (pI x1.2), .int (pI 0)] [.int (pI (imn y15 y29)), .int (pI x1.1)] rfl rfl (Nat.le_of_ble_eq_true rfl) (fun r σ1 e => ct_X6_get SX 36 37 12 x1.2 0 ⟨sx_36, sx_37, (by decide)⟩ r3.2 kc_0 G _ r σ1 e) o fun r32 s33 h34 o =>
z_isub X dX4_ditch_119 <|
z_iadd X dX4_ditch_120 <|
z_istoreL_n (L1 := fun v35 => [(1, .int (pI v35)), (0, .ref (G.2.2.1 157)), (2, .int (pI x1.2)), (3, .int (pI y15)), (4, .int (pI y29))]) (R := rg) X dX4_ditch_121 rfl (by decide) (fun _ => rfl) o (w32_rg _) fun v35 r36 o =>
z_iinc (L1 := [(2, .int (pI (w32 (x1.2 + 1)))), (1, .int (pI v35)), (0, .ref (G.2.2.1 157)), (3, .int (pI y15)), (4, .int (pI y29))]) X 2 dX4_ditch_122 rfl (by decide) rfl <|
z_goto (tgt := 4) X dX4_ditch_125 (by decide) <|
z_sub (L1 := [(0, .ref (G.2.2.1 157)), (1, .int (pI v35)), (2, .int (pI (w32 (x1.2 + 1))))]) X [2, 1, 0] rfl <|
ok_some o ⟨r36, (w32_rg _)⟩) fun o =>
z_sub (L1 := [(0, .ref (G.2.2.1 157)), (1, .int (pI x1.1)), (2, .int (pI x1.2)), (3, .int (pI y15)), (4, .int (pI 0)), (5, .int (pI x1.2))]) X [1, 2, 3, 4, 5, 0] rfl <|
z_iter (fun (x18 : Int × Int) s19 => rg x18.1 ∧ rg x18.2 → At E s19 59 [(0, .ref (G.2.2.1 157)), (1, .int (pI x1.1)), (2, .int (pI x1.2)), (3, .int (pI y15)), (4, .int (pI x18.1)), (5, .int (pI x18.2))] []) o (fun x18 s19 o r20 =>
z_iload X 5 dX4_ditch_59 rfl <|
z_aload_n X 0 dX4_ditch_61 rfl <|
z_getR (q := 17) X dX4_ditch_62 fl_X4_56 sx_157 rfl <|
z_getRN (q := 36) X dX4_ditch_65 fn_X4_115 sx_17 rfl <|
z_callvI X dX4_ditch_68 q_1265 wX6_size sx_36 rfl (by decide) [] [.int (pI x18.2)] rfl rfl (Nat.le_of_ble_eq_true rfl) (fun r σ1 e => ct_X6_size SX 36 37 12 ⟨sx_36, sx_37, (by decide)⟩ G _ r σ1 e) o fun r21 s22 h23 o =>
z_icmp_ge (tgt := 100) X dX4_ditch_71 (by decide) r20.2 h23 o (fun o =>
z_sub (L1 := [(0, .ref (G.2.2.1 157)), (1, .int (pI x1.1)), (2, .int (pI x1.2)), (3, .int (pI y15)), (4, .int (pI x18.1))]) X [0, 1, 2, 3, 4] rfl <|
ok_some o r20.1) fun o =>
z_iload X 4 dX4_ditch_74 rfl <|
z_aload_n X 0 dX4_ditch_76 rfl <|
z_getR (q := 17) X dX4_ditch_77 fl_X4_56 sx_157 rfl <|
z_getRN (q := 36) X dX4_ditch_80 fn_X4_115 sx_17 rfl <|
z_iload X 5 dX4_ditch_83 rfl <|
z_iconst X dX4_ditch_85 <|
z_callvI X dX4_ditch_86 q_1266 wX6_get sx_36 rfl (by decide) [.int (pI x18.2), .int (pI 0)] [.int (pI x18.1)] rfl rfl (Nat.le_of_ble_eq_true rfl) (fun r σ1 e => ct_X6_get SX 36 37 12 x18.2 0 ⟨sx_36, sx_37, (by decide)⟩ r20.2 kc_0 G _ r σ1 e) o fun r24 s25 h26 o =>
z_mmax X dX4_ditch_89 q_1274 q_840 q_174 q_841 (by decide) (Nat.le_of_ble_eq_true rfl) r20.1 h26 <|
z_istoreL (L1 := fun v27 => [(4, .int (pI v27)), (0, .ref (G.2.2.1 157)), (1, .int (pI x1.1)), (2, .int (pI x1.2)), (3, .int (pI y15)), (5, .int (pI x18.2))]) (R := rg) X dX4_ditch_92 (by decide) (fun _ => rfl) o (imx_rg r20.1 h26) fun v27 r28 o =>
z_iinc (L1 := [(5, .int (pI (w32 (x18.2 + 1)))), (4, .int (pI v27)), (0, .ref (G.2.2.1 157)), (1, .int (pI x1.1)), (2, .int (pI x1.2)), (3, .int (pI y15))]) X 5 dX4_ditch_94 rfl (by decide) rfl <|
z_goto (tgt := 59) X dX4_ditch_97 (by decide) <|
z_sub (L1 := [(0, .ref (G.2.2.1 157)), (1, .int (pI x1.1)), (2, .int (pI x1.2)), (3, .int (pI y15)), (4, .int (pI v27)), (5, .int (pI (w32 (x18.2 + 1))))]) X [2, 3, 4, 5, 1, 0] rfl <|
ok_some o ⟨r28, (w32_rg _)⟩) ⟨kc_0, r3.2⟩) fun o =>
z_sub (L1 := [(0, .ref (G.2.2.1 157)), (1, .int (pI x1.1)), (2, .int (pI x1.2)), (3, .int (pI 0)), (4, .int (pI 0)), (5, .int (pI 0))]) X [3, 4, 5, 2, 1, 0] rfl <|
z_iter (fun (x7 : Int × Int) s8 => rg x7.1 ∧ rg x7.2 → At E s8 26 [(0, .ref (G.2.2.1 157)), (1, .int (pI x1.1)), (2, .int (pI x1.2)), (3, .int (pI x7.1)), (4, .int (pI 0)), (5, .int (pI x7.2))] []) o (fun x7 s8 o r9 =>
z_iload X 5 dX4_ditch_26 rfl <|
z_iload_n X 2 dX4_ditch_28 rfl <|
z_icmp_gt (tgt := 56) X dX4_ditch_29 (by decide) r9.2 r3.2 o (fun o =>
z_sub (L1 := [(0, .ref (G.2.2.1 157)), (1, .int (pI x1.1)), (2, .int (pI x1.2)), (3, .int (pI x7.1)), (4, .int (pI 0))]) X [0, 1, 2, 3, 4] rfl <|
ok_some o r9.1) fun o =>
z_iload_n X 3 dX4_ditch_32 rfl <|
z_aload_n X 0 dX4_ditch_33 rfl <|
z_getR (q := 17) X dX4_ditch_34 fl_X4_56 sx_157 rfl <|
z_getRN (q := 36) X dX4_ditch_37 fn_X4_115 sx_17 rfl <|
z_iload X 5 dX4_ditch_40 rfl <|
z_iconst X dX4_ditch_42 <|
z_callvI X dX4_ditch_43 q_1266 wX6_get sx_36 rfl (by decide) [.int (pI x7.2), .int (pI 0)] [.int (pI x7.1)] rfl rfl (Nat.le_of_ble_eq_true rfl) (fun r σ1 e => ct_X6_get SX 36 37 12 x7.2 0 ⟨sx_36, sx_37, (by decide)⟩ r9.2 kc_0 G _ r σ1 e) o fun r10 s11 h12 o =>
z_mmax X dX4_ditch_46 q_1274 q_840 q_174 q_841 (by decide) (Nat.le_of_ble_eq_true rfl) r9.1 h12 <|
z_istoreL_n (L1 := fun v13 => [(3, .int (pI v13)), (0, .ref (G.2.2.1 157)), (1, .int (pI x1.1)), (2, .int (pI x1.2)), (4, .int (pI 0)), (5, .int (pI x7.2))]) (R := rg) X dX4_ditch_49 rfl (by decide) (fun _ => rfl) o (imx_rg r9.1 h12) fun v13 r14 o =>
z_iinc (L1 := [(5, .int (pI (w32 (x7.2 + 1)))), (3, .int (pI v13)), (0, .ref (G.2.2.1 157)), (1, .int (pI x1.1)), (2, .int (pI x1.2)), (4, .int (pI 0))]) X 5 dX4_ditch_50 rfl (by decide) rfl <|
z_goto (tgt := 26) X dX4_ditch_53 (by decide) <|
z_sub (L1 := [(0, .ref (G.2.2.1 157)), (1, .int (pI x1.1)), (2, .int (pI x1.2)), (3, .int (pI v13)), (4, .int (pI 0)), (5, .int (pI (w32 (x7.2 + 1))))]) X [2, 3, 4, 1, 5, 0] rfl <|
ok_some o ⟨r14, (w32_rg _)⟩) ⟨kc_0, kc_0⟩) ⟨kc_0, kc_0⟩ : At E s0 0 [(0, .ref (G.2.2.1 157))] [])
set_option maxHeartbeats 4000000 in
set_option maxRecDepth 100000 in
theorem ct_X4_fewestShovels   (G : Gw) (s0 : St) (r : Int) (σ1 : St) (e : fX4_fewestShovels s0 = some (r, σ1)) : Ct yX4_fewestShovels cX4_fewestShovels 6 (some .int) 1 22 SX G [.ref (G.2.2.1 157)] s0 (QI SX G r rg σ1) :=
  Ct.of (by decide +kernel) (Nat.le_of_ble_eq_true rfl) fun E X Y => by
    have o : Ok (fX4_fewestShovels s0) (fun x σ' => x = r ∧ σ' = σ1) := ⟨r, σ1, e, rfl, rfl⟩
    unfold fX4_fewestShovels at o
    exact (
z_aload_n X 0 dX4_fewestShovels_0 rfl <|
z_getR (q := 17) X dX4_fewestShovels_1 fl_X4_56 sx_157 rfl <|
z_getRN (q := 36) X dX4_fewestShovels_4 fn_X4_115 sx_17 rfl <|
z_callvI X dX4_fewestShovels_7 q_1265 wX6_size sx_36 rfl (by decide) [] [] rfl rfl (Nat.le_of_ble_eq_true rfl) (fun r σ1 e => ct_X6_size SX 36 37 12 ⟨sx_36, sx_37, (by decide)⟩ G _ r σ1 e) o fun r1 s2 h3 o =>
z_istore_n (L1 := [(1, .int (pI r1)), (0, .ref (G.2.2.1 157))]) X dX4_fewestShovels_10 rfl (by decide) rfl <|
z_iload_n X 0 dX4_fewestShovels_11 rfl <|
z_if_ne (tgt := 17) X dX4_fewestShovels_12 (by decide) h3 o (fun o =>
z_iconst X dX4_fewestShovels_17 <|
z_istore_n (L1 := [(2, .int (pI 0)), (1, .int (pI r1)), (0, .ref (G.2.2.1 157))]) X dX4_fewestShovels_18 rfl (by decide) rfl <|
z_iconst X dX4_fewestShovels_19 <|
z_istore_n (L1 := [(3, .int (pI 0)), (2, .int (pI 0)), (1, .int (pI r1)), (0, .ref (G.2.2.1 157))]) X dX4_fewestShovels_20 rfl (by decide) rfl <|
z_join o (fun (y12 : Int) s13 => rg y12 → At E s13 47 [(0, .ref (G.2.2.1 157)), (1, .int (pI r1)), (2, .int (pI y12))] []) (fun y12 s13 o r14 =>
z_iload_n X 2 dX4_fewestShovels_47 rfl <|
z_iload_n X 1 dX4_fewestShovels_48 rfl <|
z_irem X dX4_fewestShovels_49 r14 h3 o fun z15 o =>
z_if_eq (tgt := 55) X dX4_fewestShovels_50 (by decide) (irm_rg h3 z15) o (fun o =>
z_iconst X dX4_fewestShovels_55 <|
z_istore_n (L1 := [(3, .int (pI 0)), (0, .ref (G.2.2.1 157)), (1, .int (pI r1)), (2, .int (pI y12))]) X dX4_fewestShovels_56 rfl (by decide) rfl <|
z_iconst X dX4_fewestShovels_57 <|
z_istore (L1 := [(4, .int (pI 0)), (3, .int (pI 0)), (0, .ref (G.2.2.1 157)), (1, .int (pI r1)), (2, .int (pI y12))]) X dX4_fewestShovels_58 (by decide) rfl <|
z_iconst X dX4_fewestShovels_60 <|
z_istore (L1 := [(5, .int (pI 0)), (4, .int (pI 0)), (3, .int (pI 0)), (0, .ref (G.2.2.1 157)), (1, .int (pI r1)), (2, .int (pI y12))]) X dX4_fewestShovels_61 (by decide) rfl <|
z_join o (fun (y27 : Int) s28 => rg y27 → At E s28 104 [(4, .int (pI y27))] []) (fun y27 s28 o r29 =>
z_iload X 0 dX4_fewestShovels_104 rfl <|
z_iret X Y dX4_fewestShovels_106 o r29) fun o =>
z_sub (L1 := [(0, .ref (G.2.2.1 157)), (1, .int (pI r1)), (2, .int (pI y12)), (3, .int (pI 0)), (4, .int (pI 0)), (5, .int (pI 0))]) X [3, 4, 5, 2, 1, 0] rfl <|
z_iter (fun (x16 : Int × Int × Int) s17 => rg x16.1 ∧ rg x16.2.1 ∧ rg x16.2.2 → At E s17 63 [(0, .ref (G.2.2.1 157)), (1, .int (pI r1)), (2, .int (pI y12)), (3, .int (pI x16.1)), (4, .int (pI x16.2.1)), (5, .int (pI x16.2.2))] []) o (fun x16 s17 o r18 =>
z_iload X 5 dX4_fewestShovels_63 rfl <|
z_iload_n X 1 dX4_fewestShovels_65 rfl <|
z_icmp_ge (tgt := 104) X dX4_fewestShovels_66 (by decide) r18.2.2 h3 o (fun o =>
z_sub (L1 := [(4, .int (pI x16.2.1))]) X [4] rfl <|
ok_some o r18.2.1) fun o =>
z_iload_n X 3 dX4_fewestShovels_69 rfl <|
z_aload_n X 0 dX4_fewestShovels_70 rfl <|
z_getR (q := 17) X dX4_fewestShovels_71 fl_X4_56 sx_157 rfl <|
z_getRN (q := 36) X dX4_fewestShovels_74 fn_X4_115 sx_17 rfl <|
z_iload X 5 dX4_fewestShovels_77 rfl <|
z_iconst X dX4_fewestShovels_79 <|
z_callvI X dX4_fewestShovels_80 q_1266 wX6_get sx_36 rfl (by decide) [.int (pI x16.2.2), .int (pI 0)] [.int (pI x16.1)] rfl rfl (Nat.le_of_ble_eq_true rfl) (fun r σ1 e => ct_X6_get SX 36 37 12 x16.2.2 0 ⟨sx_36, sx_37, (by decide)⟩ r18.2.2 kc_0 G _ r σ1 e) o fun r19 s20 h21 o =>
z_iload_n X 2 dX4_fewestShovels_83 rfl <|
z_iload_n X 1 dX4_fewestShovels_84 rfl <|
z_idiv X dX4_fewestShovels_85 r14 h3 o fun z22 o =>
z_isub X dX4_fewestShovels_86 <|
z_iadd X dX4_fewestShovels_87 <|
z_istoreL_n (L1 := fun v23 => [(3, .int (pI v23)), (0, .ref (G.2.2.1 157)), (1, .int (pI r1)), (2, .int (pI y12)), (4, .int (pI x16.2.1)), (5, .int (pI x16.2.2))]) (R := rg) X dX4_fewestShovels_88 rfl (by decide) (fun _ => rfl) o (w32_rg _) fun v23 r24 o =>
z_iload X 4 dX4_fewestShovels_89 rfl <|
z_iload_n X 0 dX4_fewestShovels_91 rfl <|
z_mabs X dX4_fewestShovels_92 q_1332 q_1333 q_174 q_1334 (by decide) (Nat.le_of_ble_eq_true rfl) r24 <|
z_iadd X dX4_fewestShovels_95 <|
z_istoreL (L1 := fun v25 => [(4, .int (pI v25)), (3, .int (pI v23)), (0, .ref (G.2.2.1 157)), (1, .int (pI r1)), (2, .int (pI y12)), (5, .int (pI x16.2.2))]) (R := rg) X dX4_fewestShovels_96 (by decide) (fun _ => rfl) o (w32_rg _) fun v25 r26 o =>
z_iinc (L1 := [(5, .int (pI (w32 (x16.2.2 + 1)))), (4, .int (pI v25)), (3, .int (pI v23)), (0, .ref (G.2.2.1 157)), (1, .int (pI r1)), (2, .int (pI y12))]) X 5 dX4_fewestShovels_98 rfl (by decide) rfl <|
z_goto (tgt := 63) X dX4_fewestShovels_101 (by decide) <|
z_sub (L1 := [(0, .ref (G.2.2.1 157)), (1, .int (pI r1)), (2, .int (pI y12)), (3, .int (pI v23)), (4, .int (pI v25)), (5, .int (pI (w32 (x16.2.2 + 1))))]) X [3, 4, 5, 2, 1, 0] rfl <|
ok_some o ⟨r24, r26, (w32_rg _)⟩) ⟨kc_0, kc_0, kc_0⟩) fun o =>
z_iconst X dX4_fewestShovels_53 <|
z_iret X Y dX4_fewestShovels_54 o kc_m1) fun o =>
z_sub (L1 := [(0, .ref (G.2.2.1 157)), (1, .int (pI r1)), (2, .int (pI 0)), (3, .int (pI 0))]) X [3, 2, 1, 0] rfl <|
z_iter (fun (x4 : Int × Int) s5 => rg x4.1 ∧ rg x4.2 → At E s5 21 [(0, .ref (G.2.2.1 157)), (1, .int (pI r1)), (2, .int (pI x4.1)), (3, .int (pI x4.2))] []) o (fun x4 s5 o r6 =>
z_iload_n X 3 dX4_fewestShovels_21 rfl <|
z_iload_n X 1 dX4_fewestShovels_22 rfl <|
z_icmp_ge (tgt := 47) X dX4_fewestShovels_23 (by decide) r6.2 h3 o (fun o =>
z_sub (L1 := [(0, .ref (G.2.2.1 157)), (1, .int (pI r1)), (2, .int (pI x4.1))]) X [0, 1, 2] rfl <|
ok_some o r6.1) fun o =>
z_iload_n X 2 dX4_fewestShovels_26 rfl <|
z_aload_n X 0 dX4_fewestShovels_27 rfl <|
z_getR (q := 17) X dX4_fewestShovels_28 fl_X4_56 sx_157 rfl <|
z_getRN (q := 36) X dX4_fewestShovels_31 fn_X4_115 sx_17 rfl <|
z_iload_n X 3 dX4_fewestShovels_34 rfl <|
z_iconst X dX4_fewestShovels_35 <|
z_callvI X dX4_fewestShovels_36 q_1266 wX6_get sx_36 rfl (by decide) [.int (pI x4.2), .int (pI 0)] [.int (pI x4.1)] rfl rfl (Nat.le_of_ble_eq_true rfl) (fun r σ1 e => ct_X6_get SX 36 37 12 x4.2 0 ⟨sx_36, sx_37, (by decide)⟩ r6.2 kc_0 G _ r σ1 e) o fun r7 s8 h9 o =>
z_iadd X dX4_fewestShovels_39 <|
z_istoreL_n (L1 := fun v10 => [(2, .int (pI v10)), (0, .ref (G.2.2.1 157)), (1, .int (pI r1)), (3, .int (pI x4.2))]) (R := rg) X dX4_fewestShovels_40 rfl (by decide) (fun _ => rfl) o (w32_rg _) fun v10 r11 o =>
z_iinc (L1 := [(3, .int (pI (w32 (x4.2 + 1)))), (2, .int (pI v10)), (0, .ref (G.2.2.1 157)), (1, .int (pI r1))]) X 3 dX4_fewestShovels_41 rfl (by decide) rfl <|
z_goto (tgt := 21) X dX4_fewestShovels_44 (by decide) <|
z_sub (L1 := [(0, .ref (G.2.2.1 157)), (1, .int (pI r1)), (2, .int (pI v10)), (3, .int (pI (w32 (x4.2 + 1))))]) X [2, 3, 1, 0] rfl <|
ok_some o ⟨r11, (w32_rg _)⟩) ⟨kc_0, kc_0⟩) fun o =>
z_iconst X dX4_fewestShovels_15 <|
z_iret X Y dX4_fewestShovels_16 o kc_0 : At E s0 0 [(0, .ref (G.2.2.1 157))] [])
