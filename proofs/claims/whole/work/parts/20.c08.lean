set_option maxHeartbeats 4000000 in
set_option maxRecDepth 100000 in
theorem ct_X12_notes (p1 : Int) (p2 : Int) (p3 : Int) (hp1 : rg p1) (hp2 : rg p2) (hp3 : rg p3) (G : Gw) (s0 : St) (r : Int) (σ1 : St) (e : fX12_notes p1 p2 p3 s0 = some (r, σ1)) : Ct yX12_notes cX12_notes 5 none 0 0 SM G [.ref (G.2.2.1 0), .int (pI p1), .int (pI p2), .int (pI p3)] s0 (QV SM G σ1) :=
  Ct.of (by decide +kernel) (Nat.le_of_ble_eq_true rfl) fun E X Y => by
    have o : Ok (fX12_notes p1 p2 p3 s0) (fun x σ' => x = r ∧ σ' = σ1) := ⟨r, σ1, e, rfl, rfl⟩
    unfold fX12_notes at o
    exact (
z_aload_n X 0 dX12_notes_0 rfl <|
z_getI X dX12_notes_1 fl_X12_190 sm_0 rfl o fun v1 r2 o =>
z_if_ne (tgt := 19) X dX12_notes_4 (by decide) r2 o (fun o =>
z_vret (v := 0) X Y dX12_notes_19 o) fun o =>
z_aload_n X 0 dX12_notes_7 rfl <|
z_getR (q := 1) X dX12_notes_8 fl_X12_7 sm_0 rfl <|
z_iconst X dX12_notes_11 <|
z_iald X dX12_notes_12 sm_1 kc_3 o fun v3 r4 o =>
z_sipush X dX12_notes_13 si_150 <|
z_icmp_ne (tgt := 20) X dX12_notes_16 (by decide) r4 kc_150 o (fun o =>
z_iconst X dX12_notes_20 <|
z_aload_n X 0 dX12_notes_21 rfl <|
z_getR (q := 1) X dX12_notes_22 fl_X12_7 sm_0 rfl <|
z_iconst X dX12_notes_25 <|
z_iald X dX12_notes_26 sm_1 kc_3 o fun v5 r6 o =>
z_imul X dX12_notes_27 <|
z_istoreL (L1 := fun v7 => [(4, .int (pI v7)), (0, .ref (G.2.2.1 0)), (1, .int (pI p1)), (2, .int (pI p2)), (3, .int (pI p3))]) (R := rg) X dX12_notes_28 (by decide) (fun _ => rfl) o (w32_rg _) fun v7 r8 o =>
z_aload_n X 1 dX12_notes_30 rfl <|
z_getR (q := 7) X dX12_notes_31 fl_X12_28 sm_0 rfl <|
z_iload X 0 dX12_notes_34 rfl <|
z_aload_n X 1 dX12_notes_36 rfl <|
z_getR (q := 1) X dX12_notes_37 fl_X12_7 sm_0 rfl <|
z_iconst X dX12_notes_40 <|
z_iald X dX12_notes_41 sm_1 kc_0 o fun v9 r10 o =>
z_iast X dX12_notes_42 sm_7 r8 r10 o fun s11 o =>
z_aload_n X 1 dX12_notes_43 rfl <|
z_getR (q := 7) X dX12_notes_44 fl_X12_28 sm_0 rfl <|
z_iload X 0 dX12_notes_47 rfl <|
z_iconst X dX12_notes_49 <|
z_iadd X dX12_notes_50 <|
z_aload_n X 1 dX12_notes_51 rfl <|
z_getR (q := 1) X dX12_notes_52 fl_X12_7 sm_0 rfl <|
z_iconst X dX12_notes_55 <|
z_iald X dX12_notes_56 sm_1 kc_1 o fun v12 r13 o =>
z_iast X dX12_notes_57 sm_7 (w32_rg _) r13 o fun s14 o =>
z_aload_n X 1 dX12_notes_58 rfl <|
z_getR (q := 7) X dX12_notes_59 fl_X12_28 sm_0 rfl <|
z_iload X 0 dX12_notes_62 rfl <|
z_iconst X dX12_notes_64 <|
z_iadd X dX12_notes_65 <|
z_iload_n X 2 dX12_notes_66 rfl <|
z_iast X dX12_notes_67 sm_7 (w32_rg _) hp1 o fun s15 o =>
z_aload_n X 1 dX12_notes_68 rfl <|
z_getR (q := 7) X dX12_notes_69 fl_X12_28 sm_0 rfl <|
z_iload X 0 dX12_notes_72 rfl <|
z_iconst X dX12_notes_74 <|
z_iadd X dX12_notes_75 <|
z_iload_n X 3 dX12_notes_76 rfl <|
z_iast X dX12_notes_77 sm_7 (w32_rg _) hp2 o fun s16 o =>
z_aload_n X 1 dX12_notes_78 rfl <|
z_getR (q := 7) X dX12_notes_79 fl_X12_28 sm_0 rfl <|
z_iload X 0 dX12_notes_82 rfl <|
z_iconst X dX12_notes_84 <|
z_iadd X dX12_notes_85 <|
z_iload_n X 4 dX12_notes_86 rfl <|
z_iast X dX12_notes_87 sm_7 (w32_rg _) hp3 o fun s17 o =>
z_aload_n X 1 dX12_notes_88 rfl <|
z_getR (q := 1) X dX12_notes_89 fl_X12_7 sm_0 rfl <|
z_iconst X dX12_notes_92 <|
z_aload_n X 1 dX12_notes_93 rfl <|
z_getR (q := 1) X dX12_notes_94 fl_X12_7 sm_0 rfl <|
z_iconst X dX12_notes_97 <|
z_iald X dX12_notes_98 sm_1 kc_3 o fun v18 r19 o =>
z_iconst X dX12_notes_99 <|
z_iadd X dX12_notes_100 <|
z_iast X dX12_notes_101 sm_1 kc_3 (w32_rg _) o fun s20 o =>
z_vret (v := 0) X Y dX12_notes_102 o) fun o =>
z_vret (v := 0) X Y dX12_notes_19 o : At E s0 0 [(0, .ref (G.2.2.1 0)), (1, .int (pI p1)), (2, .int (pI p2)), (3, .int (pI p3))] [])
set_option maxHeartbeats 4000000 in
set_option maxRecDepth 100000 in
theorem ct_X12_isSat (p1 : Int) (p2 : Int) (p3 : Int) (hp1 : rg p1) (hp2 : rg p2) (hp3 : rg p3) (G : Gw) (s0 : St) (r : Int) (σ1 : St) (e : fX12_isSat p1 p2 p3 s0 = some (r, σ1)) : Ct yX12_isSat cX12_isSat 4 none 1 24 SM G [.ref (G.2.2.1 0), .int (pI p1), .int (pI p2), .int (pI p3)] s0 (QV SM G σ1) :=
  Ct.of (by decide +kernel) (Nat.le_of_ble_eq_true rfl) fun E X Y => by
    have o : Ok (fX12_isSat p1 p2 p3 s0) (fun x σ' => x = r ∧ σ' = σ1) := ⟨r, σ1, e, rfl, rfl⟩
    unfold fX12_isSat at o
    exact (
z_aload_n X 0 dX12_isSat_0 rfl <|
z_getR (q := 1) X dX12_isSat_1 fl_X12_7 sm_0 rfl <|
z_bipush X dX12_isSat_4 bi_41 <|
z_iload_n X 1 dX12_isSat_6 rfl <|
z_iadd X dX12_isSat_7 <|
z_iload_n X 2 dX12_isSat_8 rfl <|
z_iconst X dX12_isSat_9 <|
z_iadd X dX12_isSat_10 <|
z_iast X dX12_isSat_11 sm_1 (w32_rg _) (w32_rg _) o fun s1 o =>
z_aload_n X 0 dX12_isSat_12 rfl <|
z_getR (q := 1) X dX12_isSat_13 fl_X12_7 sm_0 rfl <|
z_bipush X dX12_isSat_16 bi_61 <|
z_iload_n X 1 dX12_isSat_18 rfl <|
z_iadd X dX12_isSat_19 <|
z_iconst X dX12_isSat_20 <|
z_iast X dX12_isSat_21 sm_1 (w32_rg _) kc_0 o fun s2 o =>
z_aload_n X 0 dX12_isSat_22 rfl <|
z_getR (q := 1) X dX12_isSat_23 fl_X12_7 sm_0 rfl <|
z_bipush X dX12_isSat_26 bi_81 <|
z_iload_n X 1 dX12_isSat_28 rfl <|
z_iadd X dX12_isSat_29 <|
z_iload_n X 3 dX12_isSat_30 rfl <|
z_iast X dX12_isSat_31 sm_1 (w32_rg _) hp3 o fun s3 o =>
z_aload_n X 0 dX12_isSat_32 rfl <|
z_iconst X dX12_isSat_33 <|
z_iload_n X 1 dX12_isSat_34 rfl <|
z_iload_n X 2 dX12_isSat_35 rfl <|
z_callvV X dX12_isSat_36 q_2034 wX12_notes sm_0 rfl (by decide) [.int (pI 0), .int (pI p1), .int (pI p2)] [] rfl rfl (Nat.le_of_ble_eq_true rfl) (fun r σ1 e => ct_X12_notes 0 p1 p2 kc_0 hp1 hp2 G _ r σ1 e) o fun r4 s5 o =>
z_vret (v := 0) X Y dX12_isSat_39 o : At E s0 0 [(0, .ref (G.2.2.1 0)), (1, .int (pI p1)), (2, .int (pI p2)), (3, .int (pI p3))] [])
set_option maxHeartbeats 4000000 in
set_option maxRecDepth 100000 in
theorem ct_X12_getsUp (p1 : Int) (hp1 : rg p1) (G : Gw) (s0 : St) (r : Int) (σ1 : St) (e : fX12_getsUp p1 s0 = some (r, σ1)) : Ct yX12_getsUp cX12_getsUp 2 none 0 0 SM G [.ref (G.2.2.1 0), .int (pI p1)] s0 (QV SM G σ1) :=
  Ct.of (by decide +kernel) (Nat.le_of_ble_eq_true rfl) fun E X Y => by
    have o : Ok (fX12_getsUp p1 s0) (fun x σ' => x = r ∧ σ' = σ1) := ⟨r, σ1, e, rfl, rfl⟩
    unfold fX12_getsUp at o
    exact (
z_aload_n X 0 dX12_getsUp_0 rfl <|
z_getR (q := 1) X dX12_getsUp_1 fl_X12_7 sm_0 rfl <|
z_bipush X dX12_getsUp_4 bi_41 <|
z_iload_n X 1 dX12_getsUp_6 rfl <|
z_iadd X dX12_getsUp_7 <|
z_iconst X dX12_getsUp_8 <|
z_iast X dX12_getsUp_9 sm_1 (w32_rg _) kc_0 o fun s1 o =>
z_aload_n X 0 dX12_getsUp_10 rfl <|
z_getR (q := 1) X dX12_getsUp_11 fl_X12_7 sm_0 rfl <|
z_bipush X dX12_getsUp_14 bi_61 <|
z_iload_n X 1 dX12_getsUp_16 rfl <|
z_iadd X dX12_getsUp_17 <|
z_iconst X dX12_getsUp_18 <|
z_iast X dX12_getsUp_19 sm_1 (w32_rg _) kc_0 o fun s2 o =>
z_aload_n X 0 dX12_getsUp_20 rfl <|
z_getR (q := 1) X dX12_getsUp_21 fl_X12_7 sm_0 rfl <|
z_bipush X dX12_getsUp_24 bi_81 <|
z_iload_n X 1 dX12_getsUp_26 rfl <|
z_iadd X dX12_getsUp_27 <|
z_iconst X dX12_getsUp_28 <|
z_iast X dX12_getsUp_29 sm_1 (w32_rg _) kc_0 o fun s3 o =>
z_vret (v := 0) X Y dX12_getsUp_30 o : At E s0 0 [(0, .ref (G.2.2.1 0)), (1, .int (pI p1))] [])
set_option maxHeartbeats 4000000 in
set_option maxRecDepth 100000 in
theorem ct_X12_isSwept (p1 : Int) (hp1 : rg p1) (G : Gw) (s0 : St) (r : Int) (σ1 : St) (e : fX12_isSwept p1 s0 = some (r, σ1)) : Ct yX12_isSwept cX12_isSwept 2 none 1 24 SM G [.ref (G.2.2.1 0), .int (pI p1)] s0 (QV SM G σ1) :=
  Ct.of (by decide +kernel) (Nat.le_of_ble_eq_true rfl) fun E X Y => by
    have o : Ok (fX12_isSwept p1 s0) (fun x σ' => x = r ∧ σ' = σ1) := ⟨r, σ1, e, rfl, rfl⟩
    unfold fX12_isSwept at o
    exact (
z_aload_n X 0 dX12_isSwept_0 rfl <|
z_iconst X dX12_isSwept_1 <|
z_iload_n X 1 dX12_isSwept_2 rfl <|
z_aload_n X 0 dX12_isSwept_3 rfl <|
z_getR (q := 1) X dX12_isSwept_4 fl_X12_7 sm_0 rfl <|
z_bipush X dX12_isSwept_7 bi_17 <|
z_iload_n X 1 dX12_isSwept_9 rfl <|
z_iadd X dX12_isSwept_10 <|
z_iald X dX12_isSwept_11 sm_1 (w32_rg _) o fun v1 r2 o =>
z_callvV X dX12_isSwept_12 q_2034 wX12_notes sm_0 rfl (by decide) [.int (pI 4), .int (pI p1), .int (pI v1)] [] rfl rfl (Nat.le_of_ble_eq_true rfl) (fun r σ1 e => ct_X12_notes 4 p1 v1 kc_4 hp1 r2 G _ r σ1 e) o fun r3 s4 o =>
z_aload_n X 0 dX12_isSwept_15 rfl <|
z_getR (q := 1) X dX12_isSwept_16 fl_X12_7 sm_0 rfl <|
z_bipush X dX12_isSwept_19 bi_17 <|
z_iload_n X 1 dX12_isSwept_21 rfl <|
z_iadd X dX12_isSwept_22 <|
z_iconst X dX12_isSwept_23 <|
z_iast X dX12_isSwept_24 sm_1 (w32_rg _) kc_0 o fun s6 o =>
z_aload_n X 0 dX12_isSwept_25 rfl <|
z_getR (q := 1) X dX12_isSwept_26 fl_X12_7 sm_0 rfl <|
z_iconst X dX12_isSwept_29 <|
z_aload_n X 0 dX12_isSwept_30 rfl <|
z_getR (q := 1) X dX12_isSwept_31 fl_X12_7 sm_0 rfl <|
z_iconst X dX12_isSwept_34 <|
z_iald X dX12_isSwept_35 sm_1 kc_4 o fun v7 r8 o =>
z_iconst X dX12_isSwept_36 <|
z_iadd X dX12_isSwept_37 <|
z_iast X dX12_isSwept_38 sm_1 kc_4 (w32_rg _) o fun s9 o =>
z_vret (v := 0) X Y dX12_isSwept_39 o : At E s0 0 [(0, .ref (G.2.2.1 0)), (1, .int (pI p1))] [])
set_option maxHeartbeats 4000000 in
set_option maxRecDepth 100000 in
theorem ct_X12_act (p1 : Int) (p2 : Int) (p3 : Int) (hp1 : rg p1) (hp2 : rg p2) (hp3 : rg p3) (G : Gw) (s0 : St) (r : Int) (σ1 : St) (e : fX12_act p1 p2 p3 s0 = some (r, σ1)) : Ct yX12_act cX12_act 4 (some .boolean) 4 89 SM G [.ref (G.2.2.1 0), .int (pI p1), .int (pI p2), .int (pI p3)] s0 (QI SM G r r01 σ1) :=
  Ct.of (by decide +kernel) (Nat.le_of_ble_eq_true rfl) fun E X Y => by
    have o : Ok (fX12_act p1 p2 p3 s0) (fun x σ' => x = r ∧ σ' = σ1) := ⟨r, σ1, e, rfl, rfl⟩
    unfold fX12_act at o
    exact (
z_aload_n X 0 dX12_act_0 rfl <|
z_iconst X dX12_act_1 <|
z_putI X dX12_act_2 fl_X12_183 sm_0 ft_X12_0 rfl kc_0 o fun s1 o =>
z_aload_n X 0 dX12_act_5 rfl <|
z_iload_n X 1 dX12_act_6 rfl <|
z_iload_n X 2 dX12_act_7 rfl <|
z_iload_n X 3 dX12_act_8 rfl <|
z_callvI X dX12_act_9 q_2002 wX12_canAct sm_0 rfl (by decide) [.int (pI p1), .int (pI p2), .int (pI p3)] [] rfl rfl (Nat.le_of_ble_eq_true rfl) (fun r σ1 e => ct_X12_canAct p1 p2 p3 hp1 hp2 hp3 G _ r σ1 e) o fun r2 s3 h4 o =>
z_if_ne (tgt := 17) X dX12_act_12 (by decide) (r01_rg h4) o (fun o =>
z_aload_n X 0 dX12_act_17 rfl <|
z_callvV X dX12_act_18 q_2026 wX12_keepsAhead sm_0 rfl (by decide) [] [] rfl rfl (Nat.le_of_ble_eq_true rfl) (fun r σ1 e => ct_X12_keepsAhead G _ r σ1 e) o fun r5 s6 o =>
z_iload_n X 1 dX12_act_21 rfl <|
z_join o (fun (y11 : Unit) s12 => True → At E s12 33 [(0, .ref (G.2.2.1 0)), (1, .int (pI p1)), (2, .int (pI p2)), (3, .int (pI p3))] []) (fun y11 s12 o r13 =>
z_iload_n X 1 dX12_act_33 rfl <|
z_iconst X dX12_act_34 <|
z_join o (fun (y17 : Unit) s18 => True → At E s18 43 [(0, .ref (G.2.2.1 0)), (1, .int (pI p1)), (2, .int (pI p2)), (3, .int (pI p3))] []) (fun y17 s18 o r19 =>
z_iload_n X 1 dX12_act_43 rfl <|
z_iconst X dX12_act_44 <|
z_join o (fun (y23 : Unit) s24 => True → At E s24 53 [(0, .ref (G.2.2.1 0)), (1, .int (pI p1)), (2, .int (pI p2)), (3, .int (pI p3))] []) (fun y23 s24 o r25 =>
z_iload_n X 1 dX12_act_53 rfl <|
z_iconst X dX12_act_54 <|
z_icmp_ne (tgt := 67) X dX12_act_55 (by decide) hp1 kc_3 o (fun o =>
z_iconst X dX12_act_67 <|
z_zret X Y dX12_act_68 o kb_1 kb_1) fun o =>
z_aload_n X 0 dX12_act_58 rfl <|
z_getR (q := 1) X dX12_act_59 fl_X12_7 sm_0 rfl <|
z_iconst X dX12_act_62 <|
z_iload_n X 2 dX12_act_63 rfl <|
z_iadd X dX12_act_64 <|
z_iload_n X 3 dX12_act_65 rfl <|
z_iast X dX12_act_66 sm_1 (w32_rg _) hp3 o fun s26 o =>
z_iconst X dX12_act_67 <|
z_zret X Y dX12_act_68 o kb_1 kb_1) fun o =>
z_icmp_ne (tgt := 53) X dX12_act_45 (by decide) hp1 kc_2 o (fun o =>
ok_some o trivial) fun o =>
z_aload_n X 0 dX12_act_48 rfl <|
z_iload_n X 2 dX12_act_49 rfl <|
z_callvV X dX12_act_50 q_2042 wX12_isSwept sm_0 rfl (by decide) [.int (pI p2)] [] rfl rfl (Nat.le_of_ble_eq_true rfl) (fun r σ1 e => ct_X12_isSwept p2 hp2 G _ r σ1 e) o fun r20 s21 o =>
ok_some o trivial) fun o =>
z_icmp_ne (tgt := 43) X dX12_act_35 (by decide) hp1 kc_1 o (fun o =>
ok_some o trivial) fun o =>
z_aload_n X 0 dX12_act_38 rfl <|
z_iload_n X 2 dX12_act_39 rfl <|
z_callvV X dX12_act_40 q_2038 wX12_getsUp sm_0 rfl (by decide) [.int (pI p2)] [] rfl rfl (Nat.le_of_ble_eq_true rfl) (fun r σ1 e => ct_X12_getsUp p2 hp2 G _ r σ1 e) o fun r14 s15 o =>
ok_some o trivial) fun o =>
z_if_ne (tgt := 33) X dX12_act_22 (by decide) hp1 o (fun o =>
ok_some o trivial) fun o =>
z_aload_n X 0 dX12_act_25 rfl <|
z_iload_n X 2 dX12_act_26 rfl <|
z_iload_n X 3 dX12_act_27 rfl <|
z_bipush X dX12_act_28 bi_60 <|
z_callvV X dX12_act_30 q_2030 wX12_isSat sm_0 rfl (by decide) [.int (pI p2), .int (pI p3), .int (pI 60)] [] rfl rfl (Nat.le_of_ble_eq_true rfl) (fun r σ1 e => ct_X12_isSat p2 p3 60 hp2 hp3 kc_60 G _ r σ1 e) o fun r8 s9 o =>
ok_some o trivial) fun o =>
z_iconst X dX12_act_15 <|
z_zret X Y dX12_act_16 o kb_0 kb_0 : At E s0 0 [(0, .ref (G.2.2.1 0)), (1, .int (pI p1)), (2, .int (pI p2)), (3, .int (pI p3))] [])
set_option maxHeartbeats 4000000 in
set_option maxRecDepth 100000 in
theorem ct_X12_added (p1 : Int) (p2 : Int) (hp1 : rg p1) (hp2 : rg p2) (G : Gw) (s0 : St) (r : Int) (σ1 : St) (e : fX12_added p1 p2 s0 = some (r, σ1)) : Ct yX12_added cX12_added 3 (some .int) 0 0 SM G [.ref (G.2.2.1 0), .int (pI p1), .int (pI p2)] s0 (QI SM G r rg σ1) :=
  Ct.of (by decide +kernel) (Nat.le_of_ble_eq_true rfl) fun E X Y => by
    have o : Ok (fX12_added p1 p2 s0) (fun x σ' => x = r ∧ σ' = σ1) := ⟨r, σ1, e, rfl, rfl⟩
    unfold fX12_added at o
    exact (
z_iload_n X 1 dX12_added_0 rfl <|
z_ldc X dX12_added_1 q_2286 ki_1000000007 <|
z_iload_n X 2 dX12_added_3 rfl <|
z_isub X dX12_added_4 <|
z_icmp_lt (tgt := 17) X dX12_added_5 (by decide) hp1 (w32_rg _) o (fun o =>
z_iload_n X 1 dX12_added_17 rfl <|
z_iload_n X 2 dX12_added_18 rfl <|
z_iadd X dX12_added_19 <|
z_iret X Y dX12_added_20 o (w32_rg _)) fun o =>
z_iload_n X 1 dX12_added_8 rfl <|
z_ldc X dX12_added_9 q_2286 ki_1000000007 <|
z_iload_n X 2 dX12_added_11 rfl <|
z_isub X dX12_added_12 <|
z_isub X dX12_added_13 <|
z_goto (tgt := 20) X dX12_added_14 (by decide) <|
z_iret X Y dX12_added_20 o (w32_rg _) : At E s0 0 [(0, .ref (G.2.2.1 0)), (1, .int (pI p1)), (2, .int (pI p2))] [])
set_option maxHeartbeats 4000000 in
set_option maxRecDepth 100000 in
theorem ct_X12_apart (p1 : Int) (p2 : Int) (hp1 : rg p1) (hp2 : rg p2) (G : Gw) (s0 : St) (r : Int) (σ1 : St) (e : fX12_apart p1 p2 s0 = some (r, σ1)) : Ct yX12_apart cX12_apart 3 (some .int) 0 0 SM G [.ref (G.2.2.1 0), .int (pI p1), .int (pI p2)] s0 (QI SM G r rg σ1) :=
  Ct.of (by decide +kernel) (Nat.le_of_ble_eq_true rfl) fun E X Y => by
    have o : Ok (fX12_apart p1 p2 s0) (fun x σ' => x = r ∧ σ' = σ1) := ⟨r, σ1, e, rfl, rfl⟩
    unfold fX12_apart at o
    exact (
z_iload_n X 1 dX12_apart_0 rfl <|
z_iload_n X 2 dX12_apart_1 rfl <|
z_icmp_le (tgt := 11) X dX12_apart_2 (by decide) hp1 hp2 o (fun o =>
z_iload_n X 2 dX12_apart_11 rfl <|
z_iload_n X 1 dX12_apart_12 rfl <|
z_isub X dX12_apart_13 <|
z_iret X Y dX12_apart_14 o (w32_rg _)) fun o =>
z_iload_n X 1 dX12_apart_5 rfl <|
z_iload_n X 2 dX12_apart_6 rfl <|
z_isub X dX12_apart_7 <|
z_goto (tgt := 14) X dX12_apart_8 (by decide) <|
z_iret X Y dX12_apart_14 o (w32_rg _) : At E s0 0 [(0, .ref (G.2.2.1 0)), (1, .int (pI p1)), (2, .int (pI p2))] [])
set_option maxHeartbeats 4000000 in
set_option maxRecDepth 100000 in
theorem ct_X12_asks (p1 : Int) (p2 : Int) (hp1 : rg p1) (hp2 : rg p2) (G : Gw) (s0 : St) (r : Int) (σ1 : St) (e : fX12_asks p1 p2 s0 = some (r, σ1)) : Ct yX12_asks cX12_asks 3 none 2 44 SM G [.ref (G.2.2.1 0), .int (pI p1), .int (pI p2)] s0 (QV SM G σ1) :=
  Ct.of (by decide +kernel) (Nat.le_of_ble_eq_true rfl) fun E X Y => by
    have o : Ok (fX12_asks p1 p2 s0) (fun x σ' => x = r ∧ σ' = σ1) := ⟨r, σ1, e, rfl, rfl⟩
    unfold fX12_asks at o
    exact (
z_aload_n X 0 dX12_asks_0 rfl <|
z_getR (q := 21) X dX12_asks_1 fl_X12_74 sm_0 rfl <|
z_iconst X dX12_asks_4 <|
z_iload_n X 1 dX12_asks_5 rfl <|
z_iconst X dX12_asks_6 <|
z_join o (fun (y3 : Int) s4 => rg y3 → At E s4 20 [(0, .ref (G.2.2.1 0)), (1, .int (pI p1)), (2, .int (pI p2))] [.int (pI y3), .int (pI 0), .ref (G.2.2.1 21)]) (fun y3 s4 o r5 =>
z_iast X dX12_asks_20 sm_21 kc_0 r5 o fun s6 o =>
z_aload_n X 0 dX12_asks_21 rfl <|
z_getR (q := 21) X dX12_asks_22 fl_X12_74 sm_0 rfl <|
z_iconst X dX12_asks_25 <|
z_iload_n X 1 dX12_asks_26 rfl <|
z_iconst X dX12_asks_27 <|
z_join o (fun (y9 : Int) s10 => rg y9 → At E s10 41 [(0, .ref (G.2.2.1 0)), (1, .int (pI p1)), (2, .int (pI p2))] [.int (pI y9), .int (pI 1), .ref (G.2.2.1 21)]) (fun y9 s10 o r11 =>
z_iast X dX12_asks_41 sm_21 kc_1 r11 o fun s12 o =>
z_aload_n X 0 dX12_asks_42 rfl <|
z_getR (q := 21) X dX12_asks_43 fl_X12_74 sm_0 rfl <|
z_iconst X dX12_asks_46 <|
z_aload_n X 0 dX12_asks_47 rfl <|
z_aload_n X 0 dX12_asks_48 rfl <|
z_iload_n X 2 dX12_asks_49 rfl <|
z_callvI X dX12_asks_50 q_2014 wX12_sittersOn sm_0 rfl (by decide) [.int (pI p2)] [.ref (G.2.2.1 0), .int (pI 2), .ref (G.2.2.1 21)] rfl rfl (Nat.le_of_ble_eq_true rfl) (fun r σ1 e => ct_X12_sittersOn p2 hp2 G _ r σ1 e) o fun r13 s14 h15 o =>
z_callvI X dX12_asks_53 q_2022 wX12_onesOf sm_0 rfl (by decide) [.int (pI r13)] [.int (pI 2), .ref (G.2.2.1 21)] rfl rfl (Nat.le_of_ble_eq_true rfl) (fun r σ1 e => ct_X12_onesOf r13 h15 G _ r σ1 e) o fun r16 s17 h18 o =>
z_iast X dX12_asks_56 sm_21 kc_2 h18 o fun s19 o =>
z_aload_n X 0 dX12_asks_57 rfl <|
z_getR (q := 21) X dX12_asks_58 fl_X12_74 sm_0 rfl <|
z_iconst X dX12_asks_61 <|
z_iload_n X 1 dX12_asks_62 rfl <|
z_iconst X dX12_asks_63 <|
z_join o (fun (y22 : Int) s23 => rg y22 → At E s23 80 [(0, .ref (G.2.2.1 0)), (1, .int (pI p1)), (2, .int (pI p2))] [.int (pI y22), .int (pI 3), .ref (G.2.2.1 21)]) (fun y22 s23 o r24 =>
z_iast X dX12_asks_80 sm_21 kc_3 r24 o fun s25 o =>
z_aload_n X 0 dX12_asks_81 rfl <|
z_getR (q := 21) X dX12_asks_82 fl_X12_74 sm_0 rfl <|
z_iconst X dX12_asks_85 <|
z_aload_n X 0 dX12_asks_86 rfl <|
z_getR (q := 1) X dX12_asks_87 fl_X12_7 sm_0 rfl <|
z_iconst X dX12_asks_90 <|
z_iload_n X 2 dX12_asks_91 rfl <|
z_iadd X dX12_asks_92 <|
z_iald X dX12_asks_93 sm_1 (w32_rg _) o fun v26 r27 o =>
z_iast X dX12_asks_94 sm_21 kc_4 r27 o fun s28 o =>
z_aload_n X 0 dX12_asks_95 rfl <|
z_getR (q := 21) X dX12_asks_96 fl_X12_74 sm_0 rfl <|
z_iconst X dX12_asks_99 <|
z_aload_n X 0 dX12_asks_100 rfl <|
z_getR (q := 1) X dX12_asks_101 fl_X12_7 sm_0 rfl <|
z_bipush X dX12_asks_104 bi_17 <|
z_iload_n X 2 dX12_asks_106 rfl <|
z_iadd X dX12_asks_107 <|
z_iald X dX12_asks_108 sm_1 (w32_rg _) o fun v29 r30 o =>
z_iast X dX12_asks_109 sm_21 kc_5 r30 o fun s31 o =>
z_aload_n X 0 dX12_asks_110 rfl <|
z_getR (q := 21) X dX12_asks_111 fl_X12_74 sm_0 rfl <|
z_bipush X dX12_asks_114 bi_6 <|
z_aload_n X 0 dX12_asks_116 rfl <|
z_getR (q := 1) X dX12_asks_117 fl_X12_7 sm_0 rfl <|
z_iconst X dX12_asks_120 <|
z_iald X dX12_asks_121 sm_1 kc_1 o fun v32 r33 o =>
z_iast X dX12_asks_122 sm_21 kc_6 r33 o fun s34 o =>
z_aload_n X 0 dX12_asks_123 rfl <|
z_getR (q := 21) X dX12_asks_124 fl_X12_74 sm_0 rfl <|
z_bipush X dX12_asks_127 bi_7 <|
z_iload_n X 1 dX12_asks_129 rfl <|
z_iconst X dX12_asks_130 <|
z_join o (fun (y37 : Int) s38 => rg y37 → At E s38 147 [(0, .ref (G.2.2.1 0)), (1, .int (pI p1))] [.int (pI y37), .int (pI 7), .ref (G.2.2.1 21)]) (fun y37 s38 o r39 =>
z_iast X dX12_asks_147 sm_21 kc_7 r39 o fun s40 o =>
z_aload_n X 0 dX12_asks_148 rfl <|
z_getR (q := 21) X dX12_asks_149 fl_X12_74 sm_0 rfl <|
z_bipush X dX12_asks_152 bi_8 <|
z_iload_n X 1 dX12_asks_154 rfl <|
z_iconst X dX12_asks_155 <|
z_join o (fun (y43 : Int) s44 => rg y43 → At E s44 172 [(0, .ref (G.2.2.1 0))] [.int (pI y43), .int (pI 8), .ref (G.2.2.1 21)]) (fun y43 s44 o r45 =>
z_iast X dX12_asks_172 sm_21 kc_8 r45 o fun s46 o =>
z_aload_n X 0 dX12_asks_173 rfl <|
z_getR (q := 21) X dX12_asks_174 fl_X12_74 sm_0 rfl <|
z_bipush X dX12_asks_177 bi_9 <|
z_aload_n X 0 dX12_asks_179 rfl <|
z_getR (q := 1) X dX12_asks_180 fl_X12_7 sm_0 rfl <|
z_iconst X dX12_asks_183 <|
z_iald X dX12_asks_184 sm_1 kc_0 o fun v47 r48 o =>
z_iast X dX12_asks_185 sm_21 kc_9 r48 o fun s49 o =>
z_vret (v := 0) X Y dX12_asks_186 o) fun o =>
z_icmp_ne (tgt := 163) X dX12_asks_156 (by decide) hp1 kc_m1 o (fun o =>
z_aload_n X 0 dX12_asks_163 rfl <|
z_getR (q := 1) X dX12_asks_164 fl_X12_7 sm_0 rfl <|
z_bipush X dX12_asks_167 bi_121 <|
z_iload_n X 1 dX12_asks_169 rfl <|
z_iadd X dX12_asks_170 <|
z_iald X dX12_asks_171 sm_1 (w32_rg _) o fun v41 r42 o =>
z_sub (L1 := [(0, .ref (G.2.2.1 0))]) X [0] rfl <|
ok_some o r42) fun o =>
z_iconst X dX12_asks_159 <|
z_goto (tgt := 172) X dX12_asks_160 (by decide) <|
z_sub (L1 := [(0, .ref (G.2.2.1 0))]) X [0] rfl <|
ok_some o kc_0) fun o =>
z_icmp_ne (tgt := 138) X dX12_asks_131 (by decide) hp1 kc_m1 o (fun o =>
z_aload_n X 0 dX12_asks_138 rfl <|
z_getR (q := 1) X dX12_asks_139 fl_X12_7 sm_0 rfl <|
z_bipush X dX12_asks_142 bi_101 <|
z_iload_n X 1 dX12_asks_144 rfl <|
z_iadd X dX12_asks_145 <|
z_iald X dX12_asks_146 sm_1 (w32_rg _) o fun v35 r36 o =>
z_sub (L1 := [(0, .ref (G.2.2.1 0)), (1, .int (pI p1))]) X [0, 1] rfl <|
ok_some o r36) fun o =>
z_iconst X dX12_asks_134 <|
z_goto (tgt := 147) X dX12_asks_135 (by decide) <|
z_sub (L1 := [(0, .ref (G.2.2.1 0)), (1, .int (pI p1))]) X [0, 1] rfl <|
ok_some o kc_0) fun o =>
z_icmp_ne (tgt := 71) X dX12_asks_64 (by decide) hp1 kc_m1 o (fun o =>
z_aload_n X 0 dX12_asks_71 rfl <|
z_getR (q := 1) X dX12_asks_72 fl_X12_7 sm_0 rfl <|
z_bipush X dX12_asks_75 bi_61 <|
z_iload_n X 1 dX12_asks_77 rfl <|
z_iadd X dX12_asks_78 <|
z_iald X dX12_asks_79 sm_1 (w32_rg _) o fun v20 r21 o =>
ok_some o r21) fun o =>
z_iconst X dX12_asks_67 <|
z_goto (tgt := 80) X dX12_asks_68 (by decide) <|
ok_some o kc_0) fun o =>
z_icmp_ne (tgt := 35) X dX12_asks_28 (by decide) hp1 kc_m1 o (fun o =>
z_aload_n X 0 dX12_asks_35 rfl <|
z_getR (q := 6) X dX12_asks_36 fl_X12_25 sm_0 rfl <|
z_iload_n X 1 dX12_asks_39 rfl <|
z_iald X dX12_asks_40 sm_6 hp1 o fun v7 r8 o =>
ok_some o r8) fun o =>
z_iconst X dX12_asks_31 <|
z_goto (tgt := 41) X dX12_asks_32 (by decide) <|
ok_some o kc_0) fun o =>
z_icmp_ne (tgt := 14) X dX12_asks_7 (by decide) hp1 kc_m1 o (fun o =>
z_aload_n X 0 dX12_asks_14 rfl <|
z_getR (q := 5) X dX12_asks_15 fl_X12_22 sm_0 rfl <|
z_iload_n X 1 dX12_asks_18 rfl <|
z_iald X dX12_asks_19 sm_5 hp1 o fun v1 r2 o =>
ok_some o r2) fun o =>
z_iconst X dX12_asks_10 <|
z_goto (tgt := 20) X dX12_asks_11 (by decide) <|
ok_some o kc_0 : At E s0 0 [(0, .ref (G.2.2.1 0)), (1, .int (pI p1)), (2, .int (pI p2))] [])
set_option maxHeartbeats 4000000 in
set_option maxRecDepth 100000 in
theorem ct_X12_begins   (G : Gw) (s0 : St) (r : Int) (σ1 : St) (e : fX12_begins s0 = some (r, σ1)) : Ct yX12_begins cX12_begins 2 none 2 45 SM G [.ref (G.2.2.1 0)] s0 (QV SM G σ1) :=
  Ct.of (by decide +kernel) (Nat.le_of_ble_eq_true rfl) fun E X Y => by
    have o : Ok (fX12_begins s0) (fun x σ' => x = r ∧ σ' = σ1) := ⟨r, σ1, e, rfl, rfl⟩
    unfold fX12_begins at o
    exact (
z_iconst X dX12_begins_0 <|
z_istore_n (L1 := [(1, .int (pI 0)), (0, .ref (G.2.2.1 0))]) X dX12_begins_1 rfl (by decide) rfl <|
z_join o (fun (y43 : Unit) s44 => True → At E s44 133 [] []) (fun y43 s44 o r45 =>
z_vret (v := 0) X Y dX12_begins_133 o) fun o =>
z_sub (L1 := [(0, .ref (G.2.2.1 0)), (1, .int (pI 0))]) X [1, 0] rfl <|
z_iter (fun (x1 : Int) s2 => rg x1 → At E s2 2 [(0, .ref (G.2.2.1 0)), (1, .int (pI x1))] []) o (fun x1 s2 o r3 =>
z_iload_n X 1 dX12_begins_2 rfl <|
z_iconst X dX12_begins_3 <|
z_aload_n X 0 dX12_begins_4 rfl <|
z_getI X dX12_begins_5 fl_X12_358 sm_0 rfl o fun v4 r5 o =>
z_imul X dX12_begins_8 <|
z_icmp_ge (tgt := 133) X dX12_begins_9 (by decide) r3 (w32_rg _) o (fun o =>
z_sub (L1 := []) X [] rfl <|
ok_some o trivial) fun o =>
z_aload_n X 0 dX12_begins_12 rfl <|
z_getR (q := 19) X dX12_begins_13 fl_X12_68 sm_0 rfl <|
z_iload_n X 1 dX12_begins_16 rfl <|
z_iald X dX12_begins_17 sm_19 r3 o fun v6 r7 o =>
z_aload_n X 0 dX12_begins_18 rfl <|
z_getR (q := 1) X dX12_begins_19 fl_X12_7 sm_0 rfl <|
z_iconst X dX12_begins_22 <|
z_iald X dX12_begins_23 sm_1 kc_0 o fun v8 r9 o =>
z_icmp_eq (tgt := 30) X dX12_begins_24 (by decide) r7 r9 o (fun o =>
z_aload_n X 0 dX12_begins_30 rfl <|
z_getR (q := 19) X dX12_begins_31 fl_X12_68 sm_0 rfl <|
z_iload_n X 1 dX12_begins_34 rfl <|
z_iconst X dX12_begins_35 <|
z_iadd X dX12_begins_36 <|
z_iald X dX12_begins_37 sm_19 (w32_rg _) o fun v10 r11 o =>
z_join o (fun (y17 : Unit) s18 => True → At E s18 64 [(0, .ref (G.2.2.1 0)), (1, .int (pI x1))] []) (fun y17 s18 o r19 =>
z_aload_n X 0 dX12_begins_64 rfl <|
z_getR (q := 19) X dX12_begins_65 fl_X12_68 sm_0 rfl <|
z_iload_n X 1 dX12_begins_68 rfl <|
z_iconst X dX12_begins_69 <|
z_iadd X dX12_begins_70 <|
z_iald X dX12_begins_71 sm_19 (w32_rg _) o fun v20 r21 o =>
z_iconst X dX12_begins_72 <|
z_join o (fun (y27 : Unit) s28 => True → At E s28 88 [(0, .ref (G.2.2.1 0)), (1, .int (pI x1))] []) (fun y27 s28 o r29 =>
z_aload_n X 0 dX12_begins_88 rfl <|
z_getR (q := 19) X dX12_begins_89 fl_X12_68 sm_0 rfl <|
z_iload_n X 1 dX12_begins_92 rfl <|
z_iconst X dX12_begins_93 <|
z_iadd X dX12_begins_94 <|
z_iald X dX12_begins_95 sm_19 (w32_rg _) o fun v30 r31 o =>
z_iconst X dX12_begins_96 <|
z_icmp_ne (tgt := 126) X dX12_begins_97 (by decide) r31 kc_3 o (fun o =>
z_iload_n X 1 dX12_begins_126 rfl <|
z_iconst X dX12_begins_127 <|
z_iadd X dX12_begins_128 <|
z_istoreL_n (L1 := fun v32 => [(1, .int (pI v32)), (0, .ref (G.2.2.1 0))]) (R := rg) X dX12_begins_129 rfl (by decide) (fun _ => rfl) o (w32_rg _) fun v32 r33 o =>
z_goto (tgt := 2) X dX12_begins_130 (by decide) <|
z_sub (L1 := [(0, .ref (G.2.2.1 0)), (1, .int (pI v32))]) X [1, 0] rfl <|
ok_some o r33) fun o =>
z_aload_n X 0 dX12_begins_100 rfl <|
z_getR (q := 1) X dX12_begins_101 fl_X12_7 sm_0 rfl <|
z_bipush X dX12_begins_104 bi_29 <|
z_aload_n X 0 dX12_begins_106 rfl <|
z_getR (q := 19) X dX12_begins_107 fl_X12_68 sm_0 rfl <|
z_iload_n X 1 dX12_begins_110 rfl <|
z_iconst X dX12_begins_111 <|
z_iadd X dX12_begins_112 <|
z_iald X dX12_begins_113 sm_19 (w32_rg _) o fun v34 r35 o =>
z_iadd X dX12_begins_114 <|
z_aload_n X 0 dX12_begins_115 rfl <|
z_getR (q := 19) X dX12_begins_116 fl_X12_68 sm_0 rfl <|
z_iload_n X 1 dX12_begins_119 rfl <|
z_iconst X dX12_begins_120 <|
z_iadd X dX12_begins_121 <|
z_iald X dX12_begins_122 sm_19 (w32_rg _) o fun v36 r37 o =>
z_iconst X dX12_begins_123 <|
z_iadd X dX12_begins_124 <|
z_iast X dX12_begins_125 sm_1 (w32_rg _) (w32_rg _) o fun s38 o =>
z_iload_n X 1 dX12_begins_126 rfl <|
z_iconst X dX12_begins_127 <|
z_iadd X dX12_begins_128 <|
z_istoreL_n (L1 := fun v39 => [(1, .int (pI v39)), (0, .ref (G.2.2.1 0))]) (R := rg) X dX12_begins_129 rfl (by decide) (fun _ => rfl) o (w32_rg _) fun v39 r40 o =>
z_goto (tgt := 2) X dX12_begins_130 (by decide) <|
z_sub (L1 := [(0, .ref (G.2.2.1 0)), (1, .int (pI v39))]) X [1, 0] rfl <|
ok_some o r40) fun o =>
z_icmp_ne (tgt := 88) X dX12_begins_73 (by decide) r21 kc_1 o (fun o =>
ok_some o trivial) fun o =>
z_aload_n X 0 dX12_begins_76 rfl <|
z_aload_n X 0 dX12_begins_77 rfl <|
z_getR (q := 19) X dX12_begins_78 fl_X12_68 sm_0 rfl <|
z_iload_n X 1 dX12_begins_81 rfl <|
z_iconst X dX12_begins_82 <|
z_iadd X dX12_begins_83 <|
z_iald X dX12_begins_84 sm_19 (w32_rg _) o fun v22 r23 o =>
z_callvV X dX12_begins_85 q_2042 wX12_isSwept sm_0 rfl (by decide) [.int (pI v22)] [] rfl rfl (Nat.le_of_ble_eq_true rfl) (fun r σ1 e => ct_X12_isSwept v22 r23 G _ r σ1 e) o fun r24 s25 o =>
ok_some o trivial) fun o =>
z_if_ne (tgt := 64) X dX12_begins_38 (by decide) r11 o (fun o =>
ok_some o trivial) fun o =>
z_aload_n X 0 dX12_begins_41 rfl <|
z_getR (q := 1) X dX12_begins_42 fl_X12_7 sm_0 rfl <|
z_iconst X dX12_begins_45 <|
z_aload_n X 0 dX12_begins_46 rfl <|
z_getR (q := 19) X dX12_begins_47 fl_X12_68 sm_0 rfl <|
z_iload_n X 1 dX12_begins_50 rfl <|
z_iconst X dX12_begins_51 <|
z_iadd X dX12_begins_52 <|
z_iald X dX12_begins_53 sm_19 (w32_rg _) o fun v12 r13 o =>
z_iadd X dX12_begins_54 <|
z_aload_n X 0 dX12_begins_55 rfl <|
z_getR (q := 19) X dX12_begins_56 fl_X12_68 sm_0 rfl <|
z_iload_n X 1 dX12_begins_59 rfl <|
z_iconst X dX12_begins_60 <|
z_iadd X dX12_begins_61 <|
z_iald X dX12_begins_62 sm_19 (w32_rg _) o fun v14 r15 o =>
z_iast X dX12_begins_63 sm_1 (w32_rg _) r15 o fun s16 o =>
ok_some o trivial) fun o =>
z_goto (tgt := 126) X dX12_begins_27 (by decide) <|
z_iload_n X 1 dX12_begins_126 rfl <|
z_iconst X dX12_begins_127 <|
z_iadd X dX12_begins_128 <|
z_istoreL_n (L1 := fun v41 => [(1, .int (pI v41)), (0, .ref (G.2.2.1 0))]) (R := rg) X dX12_begins_129 rfl (by decide) (fun _ => rfl) o (w32_rg _) fun v41 r42 o =>
z_goto (tgt := 2) X dX12_begins_130 (by decide) <|
z_sub (L1 := [(0, .ref (G.2.2.1 0)), (1, .int (pI v41))]) X [1, 0] rfl <|
ok_some o r42) kc_0 : At E s0 0 [(0, .ref (G.2.2.1 0))] [])
set_option maxHeartbeats 4000000 in
set_option maxRecDepth 100000 in
theorem ct_X12_board (p1 : Int) (hp1 : rg p1) (G : Gw) (s0 : St) (r : Int) (σ1 : St) (e : fX12_board p1 s0 = some (r, σ1)) : Ct yX12_board cX12_board 2 (some .int) 1 23 SM G [.ref (G.2.2.1 0), .int (pI p1)] s0 (QI SM G r rg σ1) :=
  Ct.of (by decide +kernel) (Nat.le_of_ble_eq_true rfl) fun E X Y => by
    have o : Ok (fX12_board p1 s0) (fun x σ' => x = r ∧ σ' = σ1) := ⟨r, σ1, e, rfl, rfl⟩
    unfold fX12_board at o
    exact (
z_aload_n X 0 dX12_board_0 rfl <|
z_iconst X dX12_board_1 <|
z_putI X dX12_board_2 fl_X12_183 sm_0 ft_X12_0 rfl kc_0 o fun s1 o =>
z_iload_n X 1 dX12_board_5 rfl <|
z_iconst X dX12_board_6 <|
z_icmp_ne (tgt := 17) X dX12_board_7 (by decide) hp1 kc_m1 o (fun o =>
z_aload_n X 0 dX12_board_17 rfl <|
z_iload_n X 1 dX12_board_18 rfl <|
z_iconst X dX12_board_19 <|
z_bipush X dX12_board_20 bi_99 <|
z_callvI X dX12_board_22 q_1822 wX12_isIn sm_0 rfl (by decide) [.int (pI p1), .int (pI 0), .int (pI 99)] [] rfl rfl (Nat.le_of_ble_eq_true rfl) (fun r σ1 e => ct_X12_isIn p1 0 99 hp1 kc_0 kc_99 G _ r σ1 e) o fun r2 s3 h4 o =>
z_if_eq (tgt := 37) X dX12_board_25 (by decide) (r01_rg h4) o (fun o =>
z_iconst X dX12_board_37 <|
z_iret X Y dX12_board_38 o kc_m1) fun o =>
z_aload_n X 0 dX12_board_28 rfl <|
z_getI X dX12_board_29 fl_X12_512 sm_0 rfl o fun v5 r6 o =>
z_bipush X dX12_board_32 bi_12 <|
z_icmp_ne (tgt := 39) X dX12_board_34 (by decide) r6 kc_12 o (fun o =>
z_aload_n X 0 dX12_board_39 rfl <|
z_getR (q := 39) X dX12_board_40 fl_X12_128 sm_0 rfl <|
z_aload_n X 0 dX12_board_43 rfl <|
z_getI X dX12_board_44 fl_X12_512 sm_0 rfl o fun v7 r8 o =>
z_iload_n X 1 dX12_board_47 rfl <|
z_iast X dX12_board_48 sm_39 r8 hp1 o fun s9 o =>
z_aload_n X 0 dX12_board_49 rfl <|
z_aload_n X 0 dX12_board_50 rfl <|
z_getI X dX12_board_51 fl_X12_512 sm_0 rfl o fun v10 r11 o =>
z_iconst X dX12_board_54 <|
z_iadd X dX12_board_55 <|
z_putI X dX12_board_56 fl_X12_512 sm_0 ft_X12_62 rfl (w32_rg _) o fun s12 o =>
z_aload_n X 0 dX12_board_59 rfl <|
z_getI X dX12_board_60 fl_X12_512 sm_0 rfl o fun v13 r14 o =>
z_iret X Y dX12_board_63 o r14) fun o =>
z_iconst X dX12_board_37 <|
z_iret X Y dX12_board_38 o kc_m1) fun o =>
z_aload_n X 0 dX12_board_10 rfl <|
z_iconst X dX12_board_11 <|
z_putI X dX12_board_12 fl_X12_512 sm_0 ft_X12_62 rfl kc_0 o fun s15 o =>
z_iconst X dX12_board_15 <|
z_iret X Y dX12_board_16 o kc_0 : At E s0 0 [(0, .ref (G.2.2.1 0)), (1, .int (pI p1))] [])
set_option maxHeartbeats 4000000 in
set_option maxRecDepth 100000 in
theorem ct_X12_book (p1 : Int) (p2 : Int) (hp1 : rg p1) (hp2 : rg p2) (G : Gw) (s0 : St) (r : Int) (σ1 : St) (e : fX12_book p1 p2 s0 = some (r, σ1)) : Ct yX12_book cX12_book 3 (some .int) 1 23 SM G [.ref (G.2.2.1 0), .int (pI p1), .int (pI p2)] s0 (QI SM G r rg σ1) :=
  Ct.of (by decide +kernel) (Nat.le_of_ble_eq_true rfl) fun E X Y => by
    have o : Ok (fX12_book p1 p2 s0) (fun x σ' => x = r ∧ σ' = σ1) := ⟨r, σ1, e, rfl, rfl⟩
    unfold fX12_book at o
    exact (
z_aload_n X 0 dX12_book_0 rfl <|
z_iconst X dX12_book_1 <|
z_putI X dX12_book_2 fl_X12_183 sm_0 ft_X12_0 rfl kc_0 o fun s1 o =>
z_aload_n X 0 dX12_book_5 rfl <|
z_iload_n X 1 dX12_book_6 rfl <|
z_iconst X dX12_book_7 <|
z_aload_n X 0 dX12_book_8 rfl <|
z_getR (q := 1) X dX12_book_9 fl_X12_7 sm_0 rfl <|
z_iconst X dX12_book_12 <|
z_iald X dX12_book_13 sm_1 kc_3 o fun v2 r3 o =>
z_iconst X dX12_book_14 <|
z_isub X dX12_book_15 <|
z_callvI X dX12_book_16 q_1822 wX12_isIn sm_0 rfl (by decide) [.int (pI p1), .int (pI 0), .int (pI (w32 (v2 - 1)))] [] rfl rfl (Nat.le_of_ble_eq_true rfl) (fun r σ1 e => ct_X12_isIn p1 0 (w32 (v2 - 1)) hp1 kc_0 (w32_rg _) G _ r σ1 e) o fun r4 s5 h6 o =>
z_if_eq (tgt := 45) X dX12_book_19 (by decide) (r01_rg h6) o (fun o =>
z_iconst X dX12_book_45 <|
z_iret X Y dX12_book_46 o kc_m1) fun o =>
z_aload_n X 0 dX12_book_22 rfl <|
z_iload_n X 2 dX12_book_23 rfl <|
z_iconst X dX12_book_24 <|
z_iconst X dX12_book_25 <|
z_callvI X dX12_book_26 q_1822 wX12_isIn sm_0 rfl (by decide) [.int (pI p2), .int (pI 0), .int (pI 4)] [] rfl rfl (Nat.le_of_ble_eq_true rfl) (fun r σ1 e => ct_X12_isIn p2 0 4 hp2 kc_0 kc_4 G _ r σ1 e) o fun r7 s8 h9 o =>
z_if_eq (tgt := 45) X dX12_book_29 (by decide) (r01_rg h9) o (fun o =>
z_iconst X dX12_book_45 <|
z_iret X Y dX12_book_46 o kc_m1) fun o =>
z_aload_n X 0 dX12_book_32 rfl <|
z_getR (q := 7) X dX12_book_33 fl_X12_28 sm_0 rfl <|
z_iconst X dX12_book_36 <|
z_iload_n X 1 dX12_book_37 rfl <|
z_imul X dX12_book_38 <|
z_iload_n X 2 dX12_book_39 rfl <|
z_iadd X dX12_book_40 <|
z_iald X dX12_book_41 sm_7 (w32_rg _) o fun v10 r11 o =>
z_goto (tgt := 46) X dX12_book_42 (by decide) <|
z_iret X Y dX12_book_46 o r11 : At E s0 0 [(0, .ref (G.2.2.1 0)), (1, .int (pI p1)), (2, .int (pI p2))] [])
set_option maxHeartbeats 4000000 in
set_option maxRecDepth 100000 in
theorem ct_X12_callsAndRain   (G : Gw) (s0 : St) (r : Int) (σ1 : St) (e : fX12_callsAndRain s0 = some (r, σ1)) : Ct yX12_callsAndRain cX12_callsAndRain 3 none 3 66 SM G [.ref (G.2.2.1 0)] s0 (QV SM G σ1) :=
  Ct.of (by decide +kernel) (Nat.le_of_ble_eq_true rfl) fun E X Y => by
    have o : Ok (fX12_callsAndRain s0) (fun x σ' => x = r ∧ σ' = σ1) := ⟨r, σ1, e, rfl, rfl⟩
    unfold fX12_callsAndRain at o
    exact (
z_iconst X dX12_callsAndRain_0 <|
z_istore_n (L1 := [(1, .int (pI 0)), (0, .ref (G.2.2.1 0))]) X dX12_callsAndRain_1 rfl (by decide) rfl <|
z_join o (fun (y32 : Unit) s33 => True → At E s33 83 [(0, .ref (G.2.2.1 0))] []) (fun y32 s33 o r34 =>
z_iconst X dX12_callsAndRain_83 <|
z_istore_n (L1 := [(1, .int (pI 0)), (0, .ref (G.2.2.1 0))]) X dX12_callsAndRain_84 rfl (by decide) rfl <|
z_iconst X dX12_callsAndRain_85 <|
z_istore_n (L1 := [(2, .int (pI 0)), (1, .int (pI 0)), (0, .ref (G.2.2.1 0))]) X dX12_callsAndRain_86 rfl (by decide) rfl <|
z_join o (fun (y58 : Int) s59 => r01 y58 → At E s59 150 [(0, .ref (G.2.2.1 0)), (1, .int (pI y58))] []) (fun y58 s59 o r60 =>
z_iconst X dX12_callsAndRain_150 <|
z_istore_n (L1 := [(2, .int (pI 0)), (0, .ref (G.2.2.1 0)), (1, .int (pI y58))]) X dX12_callsAndRain_151 rfl (by decide) rfl <|
z_join o (fun (y77 : Unit) s78 => True → At E s78 201 [] []) (fun y77 s78 o r79 =>
z_vret (v := 0) X Y dX12_callsAndRain_201 o) fun o =>
z_sub (L1 := [(0, .ref (G.2.2.1 0)), (1, .int (pI y58)), (2, .int (pI 0))]) X [1, 2, 0] rfl <|
z_iter (fun (x61 : Int) s62 => rg x61 → At E s62 152 [(0, .ref (G.2.2.1 0)), (1, .int (pI y58)), (2, .int (pI x61))] []) o (fun x61 s62 o r63 =>
z_iload_n X 2 dX12_callsAndRain_152 rfl <|
z_aload_n X 0 dX12_callsAndRain_153 rfl <|
z_getI X dX12_callsAndRain_154 fl_X12_199 sm_0 rfl o fun v64 r65 o =>
z_icmp_ge (tgt := 201) X dX12_callsAndRain_157 (by decide) r63 r65 o (fun o =>
z_sub (L1 := []) X [] rfl <|
ok_some o trivial) fun o =>
z_iload_n X 1 dX12_callsAndRain_160 rfl <|
z_if_eq (tgt := 201) X dX12_callsAndRain_161 (by decide) (r01_rg r60) o (fun o =>
z_sub (L1 := []) X [] rfl <|
ok_some o trivial) fun o =>
z_aload_n X 0 dX12_callsAndRain_164 rfl <|
z_iload_n X 2 dX12_callsAndRain_165 rfl <|
z_callvI X dX12_callsAndRain_166 q_2010 wX12_doesSit sm_0 rfl (by decide) [.int (pI x61)] [] rfl rfl (Nat.le_of_ble_eq_true rfl) (fun r σ1 e => ct_X12_doesSit x61 r63 G _ r σ1 e) o fun r66 s67 h68 o =>
z_if_eq (tgt := 195) X dX12_callsAndRain_169 (by decide) (r01_rg h68) o (fun o =>
z_iinc (L1 := [(2, .int (pI (w32 (x61 + 1)))), (0, .ref (G.2.2.1 0)), (1, .int (pI y58))]) X 2 dX12_callsAndRain_195 rfl (by decide) rfl <|
z_goto (tgt := 152) X dX12_callsAndRain_198 (by decide) <|
z_sub (L1 := [(0, .ref (G.2.2.1 0)), (1, .int (pI y58)), (2, .int (pI (w32 (x61 + 1))))]) X [1, 2, 0] rfl <|
ok_some o (w32_rg _)) fun o =>
z_aload_n X 0 dX12_callsAndRain_172 rfl <|
z_getR (q := 1) X dX12_callsAndRain_173 fl_X12_7 sm_0 rfl <|
z_bipush X dX12_callsAndRain_176 bi_17 <|
z_aload_n X 0 dX12_callsAndRain_178 rfl <|
z_iload_n X 2 dX12_callsAndRain_179 rfl <|
z_callvI X dX12_callsAndRain_180 q_2018 wX12_sitsOn sm_0 rfl (by decide) [.int (pI x61)] [.int (pI 17), .ref (G.2.2.1 1)] rfl rfl (Nat.le_of_ble_eq_true rfl) (fun r σ1 e => ct_X12_sitsOn x61 r63 G _ r σ1 e) o fun r69 s70 h71 o =>
z_iadd X dX12_callsAndRain_183 <|
z_iald X dX12_callsAndRain_184 sm_1 (w32_rg _) o fun v72 r73 o =>
z_bipush X dX12_callsAndRain_185 bi_50 <|
z_icmp_le (tgt := 195) X dX12_callsAndRain_187 (by decide) r73 kc_50 o (fun o =>
z_iinc (L1 := [(2, .int (pI (w32 (x61 + 1)))), (0, .ref (G.2.2.1 0)), (1, .int (pI y58))]) X 2 dX12_callsAndRain_195 rfl (by decide) rfl <|
z_goto (tgt := 152) X dX12_callsAndRain_198 (by decide) <|
z_sub (L1 := [(0, .ref (G.2.2.1 0)), (1, .int (pI y58)), (2, .int (pI (w32 (x61 + 1))))]) X [1, 2, 0] rfl <|
ok_some o (w32_rg _)) fun o =>
z_aload_n X 0 dX12_callsAndRain_190 rfl <|
z_iload_n X 2 dX12_callsAndRain_191 rfl <|
z_callvV X dX12_callsAndRain_192 q_2038 wX12_getsUp sm_0 rfl (by decide) [.int (pI x61)] [] rfl rfl (Nat.le_of_ble_eq_true rfl) (fun r σ1 e => ct_X12_getsUp x61 r63 G _ r σ1 e) o fun r74 s75 o =>
z_iinc (L1 := [(2, .int (pI (w32 (x61 + 1)))), (0, .ref (G.2.2.1 0)), (1, .int (pI y58))]) X 2 dX12_callsAndRain_195 rfl (by decide) rfl <|
z_goto (tgt := 152) X dX12_callsAndRain_198 (by decide) <|
z_sub (L1 := [(0, .ref (G.2.2.1 0)), (1, .int (pI y58)), (2, .int (pI (w32 (x61 + 1))))]) X [1, 2, 0] rfl <|
ok_some o (w32_rg _)) kc_0) fun o =>
z_sub (L1 := [(0, .ref (G.2.2.1 0)), (1, .int (pI 0)), (2, .int (pI 0))]) X [2, 1, 0] rfl <|
z_iter (fun (x35 : Int × Int) s36 => r01 x35.1 ∧ rg x35.2 → At E s36 87 [(0, .ref (G.2.2.1 0)), (1, .int (pI x35.1)), (2, .int (pI x35.2))] []) o (fun x35 s36 o r37 =>
z_iload_n X 2 dX12_callsAndRain_87 rfl <|
z_iconst X dX12_callsAndRain_88 <|
z_aload_n X 0 dX12_callsAndRain_89 rfl <|
z_getI X dX12_callsAndRain_90 fl_X12_358 sm_0 rfl o fun v38 r39 o =>
z_imul X dX12_callsAndRain_93 <|
z_icmp_ge (tgt := 150) X dX12_callsAndRain_94 (by decide) r37.2 (w32_rg _) o (fun o =>
z_sub (L1 := [(0, .ref (G.2.2.1 0)), (1, .int (pI x35.1))]) X [0, 1] rfl <|
ok_some o r37.1) fun o =>
z_aload_n X 0 dX12_callsAndRain_97 rfl <|
z_getR (q := 19) X dX12_callsAndRain_98 fl_X12_68 sm_0 rfl <|
z_iload_n X 2 dX12_callsAndRain_101 rfl <|
z_iald X dX12_callsAndRain_102 sm_19 r37.2 o fun v40 r41 o =>
z_aload_n X 0 dX12_callsAndRain_103 rfl <|
z_getR (q := 1) X dX12_callsAndRain_104 fl_X12_7 sm_0 rfl <|
z_iconst X dX12_callsAndRain_107 <|
z_iald X dX12_callsAndRain_108 sm_1 kc_0 o fun v42 r43 o =>
z_icmp_ne (tgt := 143) X dX12_callsAndRain_109 (by decide) r41 r43 o (fun o =>
z_iload_n X 2 dX12_callsAndRain_143 rfl <|
z_iconst X dX12_callsAndRain_144 <|
z_iadd X dX12_callsAndRain_145 <|
z_istoreL_n (L1 := fun v44 => [(2, .int (pI v44)), (0, .ref (G.2.2.1 0)), (1, .int (pI x35.1))]) (R := rg) X dX12_callsAndRain_146 rfl (by decide) (fun _ => rfl) o (w32_rg _) fun v44 r45 o =>
z_goto (tgt := 87) X dX12_callsAndRain_147 (by decide) <|
z_sub (L1 := [(0, .ref (G.2.2.1 0)), (1, .int (pI x35.1)), (2, .int (pI v44))]) X [1, 2, 0] rfl <|
ok_some o ⟨r37.1, r45⟩) fun o =>
z_aload_n X 0 dX12_callsAndRain_112 rfl <|
z_getR (q := 19) X dX12_callsAndRain_113 fl_X12_68 sm_0 rfl <|
z_iload_n X 2 dX12_callsAndRain_116 rfl <|
z_iconst X dX12_callsAndRain_117 <|
z_iadd X dX12_callsAndRain_118 <|
z_iald X dX12_callsAndRain_119 sm_19 (w32_rg _) o fun v46 r47 o =>
z_iconst X dX12_callsAndRain_120 <|
z_icmp_ne (tgt := 143) X dX12_callsAndRain_121 (by decide) r47 kc_2 o (fun o =>
z_iload_n X 2 dX12_callsAndRain_143 rfl <|
z_iconst X dX12_callsAndRain_144 <|
z_iadd X dX12_callsAndRain_145 <|
z_istoreL_n (L1 := fun v48 => [(2, .int (pI v48)), (0, .ref (G.2.2.1 0)), (1, .int (pI x35.1))]) (R := rg) X dX12_callsAndRain_146 rfl (by decide) (fun _ => rfl) o (w32_rg _) fun v48 r49 o =>
z_goto (tgt := 87) X dX12_callsAndRain_147 (by decide) <|
z_sub (L1 := [(0, .ref (G.2.2.1 0)), (1, .int (pI x35.1)), (2, .int (pI v48))]) X [1, 2, 0] rfl <|
ok_some o ⟨r37.1, r49⟩) fun o =>
z_aload_n X 0 dX12_callsAndRain_124 rfl <|
z_getR (q := 19) X dX12_callsAndRain_125 fl_X12_68 sm_0 rfl <|
z_iload_n X 2 dX12_callsAndRain_128 rfl <|
z_iconst X dX12_callsAndRain_129 <|
z_iadd X dX12_callsAndRain_130 <|
z_iald X dX12_callsAndRain_131 sm_19 (w32_rg _) o fun v50 r51 o =>
z_aload_n X 0 dX12_callsAndRain_132 rfl <|
z_getR (q := 1) X dX12_callsAndRain_133 fl_X12_7 sm_0 rfl <|
z_iconst X dX12_callsAndRain_136 <|
z_iald X dX12_callsAndRain_137 sm_1 kc_1 o fun v52 r53 o =>
z_icmp_ne (tgt := 143) X dX12_callsAndRain_138 (by decide) r51 r53 o (fun o =>
z_iload_n X 2 dX12_callsAndRain_143 rfl <|
z_iconst X dX12_callsAndRain_144 <|
z_iadd X dX12_callsAndRain_145 <|
z_istoreL_n (L1 := fun v54 => [(2, .int (pI v54)), (0, .ref (G.2.2.1 0)), (1, .int (pI x35.1))]) (R := rg) X dX12_callsAndRain_146 rfl (by decide) (fun _ => rfl) o (w32_rg _) fun v54 r55 o =>
z_goto (tgt := 87) X dX12_callsAndRain_147 (by decide) <|
z_sub (L1 := [(0, .ref (G.2.2.1 0)), (1, .int (pI x35.1)), (2, .int (pI v54))]) X [1, 2, 0] rfl <|
ok_some o ⟨r37.1, r55⟩) fun o =>
z_iconst X dX12_callsAndRain_141 <|
z_istore_n (L1 := [(1, .int (pI 1)), (0, .ref (G.2.2.1 0)), (2, .int (pI x35.2))]) X dX12_callsAndRain_142 rfl (by decide) rfl <|
z_iload_n X 2 dX12_callsAndRain_143 rfl <|
z_iconst X dX12_callsAndRain_144 <|
z_iadd X dX12_callsAndRain_145 <|
z_istoreL_n (L1 := fun v56 => [(2, .int (pI v56)), (1, .int (pI 1)), (0, .ref (G.2.2.1 0))]) (R := rg) X dX12_callsAndRain_146 rfl (by decide) (fun _ => rfl) o (w32_rg _) fun v56 r57 o =>
z_goto (tgt := 87) X dX12_callsAndRain_147 (by decide) <|
z_sub (L1 := [(0, .ref (G.2.2.1 0)), (1, .int (pI 1)), (2, .int (pI v56))]) X [2, 1, 0] rfl <|
ok_some o ⟨kb_1, r57⟩) ⟨kb_0, kc_0⟩) fun o =>
z_sub (L1 := [(0, .ref (G.2.2.1 0)), (1, .int (pI 0))]) X [1, 0] rfl <|
z_iter (fun (x1 : Int) s2 => rg x1 → At E s2 2 [(0, .ref (G.2.2.1 0)), (1, .int (pI x1))] []) o (fun x1 s2 o r3 =>
z_iload_n X 1 dX12_callsAndRain_2 rfl <|
z_iconst X dX12_callsAndRain_3 <|
z_aload_n X 0 dX12_callsAndRain_4 rfl <|
z_getI X dX12_callsAndRain_5 fl_X12_355 sm_0 rfl o fun v4 r5 o =>
z_imul X dX12_callsAndRain_8 <|
z_icmp_ge (tgt := 83) X dX12_callsAndRain_9 (by decide) r3 (w32_rg _) o (fun o =>
z_sub (L1 := [(0, .ref (G.2.2.1 0))]) X [0] rfl <|
ok_some o trivial) fun o =>
z_aload_n X 0 dX12_callsAndRain_12 rfl <|
z_getR (q := 18) X dX12_callsAndRain_13 fl_X12_65 sm_0 rfl <|
z_iload_n X 1 dX12_callsAndRain_16 rfl <|
z_iconst X dX12_callsAndRain_17 <|
z_iadd X dX12_callsAndRain_18 <|
z_iald X dX12_callsAndRain_19 sm_18 (w32_rg _) o fun v6 r7 o =>
z_aload_n X 0 dX12_callsAndRain_20 rfl <|
z_getR (q := 1) X dX12_callsAndRain_21 fl_X12_7 sm_0 rfl <|
z_iconst X dX12_callsAndRain_24 <|
z_iald X dX12_callsAndRain_25 sm_1 kc_1 o fun v8 r9 o =>
z_icmp_ne (tgt := 76) X dX12_callsAndRain_26 (by decide) r7 r9 o (fun o =>
z_iload_n X 1 dX12_callsAndRain_76 rfl <|
z_iconst X dX12_callsAndRain_77 <|
z_iadd X dX12_callsAndRain_78 <|
z_istoreL_n (L1 := fun v10 => [(1, .int (pI v10)), (0, .ref (G.2.2.1 0))]) (R := rg) X dX12_callsAndRain_79 rfl (by decide) (fun _ => rfl) o (w32_rg _) fun v10 r11 o =>
z_goto (tgt := 2) X dX12_callsAndRain_80 (by decide) <|
z_sub (L1 := [(0, .ref (G.2.2.1 0)), (1, .int (pI v10))]) X [1, 0] rfl <|
ok_some o r11) fun o =>
z_aload_n X 0 dX12_callsAndRain_29 rfl <|
z_aload_n X 0 dX12_callsAndRain_30 rfl <|
z_getR (q := 18) X dX12_callsAndRain_31 fl_X12_65 sm_0 rfl <|
z_iload_n X 1 dX12_callsAndRain_34 rfl <|
z_iald X dX12_callsAndRain_35 sm_18 r3 o fun v12 r13 o =>
z_aload_n X 0 dX12_callsAndRain_36 rfl <|
z_getR (q := 18) X dX12_callsAndRain_37 fl_X12_65 sm_0 rfl <|
z_iload_n X 1 dX12_callsAndRain_40 rfl <|
z_iconst X dX12_callsAndRain_41 <|
z_iadd X dX12_callsAndRain_42 <|
z_iald X dX12_callsAndRain_43 sm_18 (w32_rg _) o fun v14 r15 o =>
z_callvI X dX12_callsAndRain_44 q_2006 wX12_canSit sm_0 rfl (by decide) [.int (pI v12), .int (pI v14)] [] rfl rfl (Nat.le_of_ble_eq_true rfl) (fun r σ1 e => ct_X12_canSit v12 v14 r13 r15 G _ r σ1 e) o fun r16 s17 h18 o =>
z_if_eq (tgt := 76) X dX12_callsAndRain_47 (by decide) (r01_rg h18) o (fun o =>
z_iload_n X 1 dX12_callsAndRain_76 rfl <|
z_iconst X dX12_callsAndRain_77 <|
z_iadd X dX12_callsAndRain_78 <|
z_istoreL_n (L1 := fun v19 => [(1, .int (pI v19)), (0, .ref (G.2.2.1 0))]) (R := rg) X dX12_callsAndRain_79 rfl (by decide) (fun _ => rfl) o (w32_rg _) fun v19 r20 o =>
z_goto (tgt := 2) X dX12_callsAndRain_80 (by decide) <|
z_sub (L1 := [(0, .ref (G.2.2.1 0)), (1, .int (pI v19))]) X [1, 0] rfl <|
ok_some o r20) fun o =>
z_aload_n X 0 dX12_callsAndRain_50 rfl <|
z_aload_n X 0 dX12_callsAndRain_51 rfl <|
z_getR (q := 18) X dX12_callsAndRain_52 fl_X12_65 sm_0 rfl <|
z_iload_n X 1 dX12_callsAndRain_55 rfl <|
z_iald X dX12_callsAndRain_56 sm_18 r3 o fun v21 r22 o =>
z_aload_n X 0 dX12_callsAndRain_57 rfl <|
z_getR (q := 18) X dX12_callsAndRain_58 fl_X12_65 sm_0 rfl <|
z_iload_n X 1 dX12_callsAndRain_61 rfl <|
z_iconst X dX12_callsAndRain_62 <|
z_iadd X dX12_callsAndRain_63 <|
z_iald X dX12_callsAndRain_64 sm_18 (w32_rg _) o fun v23 r24 o =>
z_aload_n X 0 dX12_callsAndRain_65 rfl <|
z_getR (q := 18) X dX12_callsAndRain_66 fl_X12_65 sm_0 rfl <|
z_iload_n X 1 dX12_callsAndRain_69 rfl <|
z_iconst X dX12_callsAndRain_70 <|
z_iadd X dX12_callsAndRain_71 <|
z_iald X dX12_callsAndRain_72 sm_18 (w32_rg _) o fun v25 r26 o =>
z_callvV X dX12_callsAndRain_73 q_2030 wX12_isSat sm_0 rfl (by decide) [.int (pI v21), .int (pI v23), .int (pI v25)] [] rfl rfl (Nat.le_of_ble_eq_true rfl) (fun r σ1 e => ct_X12_isSat v21 v23 v25 r22 r24 r26 G _ r σ1 e) o fun r27 s28 o =>
z_iload_n X 1 dX12_callsAndRain_76 rfl <|
z_iconst X dX12_callsAndRain_77 <|
z_iadd X dX12_callsAndRain_78 <|
z_istoreL_n (L1 := fun v30 => [(1, .int (pI v30)), (0, .ref (G.2.2.1 0))]) (R := rg) X dX12_callsAndRain_79 rfl (by decide) (fun _ => rfl) o (w32_rg _) fun v30 r31 o =>
z_goto (tgt := 2) X dX12_callsAndRain_80 (by decide) <|
z_sub (L1 := [(0, .ref (G.2.2.1 0)), (1, .int (pI v30))]) X [1, 0] rfl <|
ok_some o r31) kc_0 : At E s0 0 [(0, .ref (G.2.2.1 0))] [])
set_option maxHeartbeats 4000000 in
set_option maxRecDepth 100000 in
theorem ct_X12_canAsk (p1 : Int) (hp1 : rg p1) (G : Gw) (s0 : St) (r : Int) (σ1 : St) (e : fX12_canAsk p1 s0 = some (r, σ1)) : Ct yX12_canAsk cX12_canAsk 2 (some .boolean) 1 23 SM G [.ref (G.2.2.1 0), .int (pI p1)] s0 (QI SM G r r01 σ1) :=
  Ct.of (by decide +kernel) (Nat.le_of_ble_eq_true rfl) fun E X Y => by
    have o : Ok (fX12_canAsk p1 s0) (fun x σ' => x = r ∧ σ' = σ1) := ⟨r, σ1, e, rfl, rfl⟩
    unfold fX12_canAsk at o
    exact (
z_aload_n X 0 dX12_canAsk_0 rfl <|
z_iload_n X 1 dX12_canAsk_1 rfl <|
z_bipush X dX12_canAsk_2 bi_7 <|
z_bipush X dX12_canAsk_4 bi_16 <|
z_callvI X dX12_canAsk_6 q_1822 wX12_isIn sm_0 rfl (by decide) [.int (pI p1), .int (pI 7), .int (pI 16)] [] rfl rfl (Nat.le_of_ble_eq_true rfl) (fun r σ1 e => ct_X12_isIn p1 7 16 hp1 kc_7 kc_16 G _ r σ1 e) o fun r1 s2 h3 o =>
z_zret X Y dX12_canAsk_9 o h3 h3 : At E s0 0 [(0, .ref (G.2.2.1 0)), (1, .int (pI p1))] [])
set_option maxHeartbeats 4000000 in
set_option maxRecDepth 100000 in
theorem ct_X12_canSet (p1 : Int) (p2 : Int) (p3 : Int) (hp1 : rg p1) (hp2 : rg p2) (hp3 : rg p3) (G : Gw) (s0 : St) (r : Int) (σ1 : St) (e : fX12_canSet p1 p2 p3 s0 = some (r, σ1)) : Ct yX12_canSet cX12_canSet 4 (some .boolean) 1 23 SM G [.ref (G.2.2.1 0), .int (pI p1), .int (pI p2), .int (pI p3)] s0 (QI SM G r r01 σ1) :=
  Ct.of (by decide +kernel) (Nat.le_of_ble_eq_true rfl) fun E X Y => by
    have o : Ok (fX12_canSet p1 p2 p3 s0) (fun x σ' => x = r ∧ σ' = σ1) := ⟨r, σ1, e, rfl, rfl⟩
    unfold fX12_canSet at o
    exact (
z_iload_n X 1 dX12_canSet_0 rfl <|
z_if_ne (tgt := 29) X dX12_canSet_1 (by decide) hp1 o (fun o =>
z_iload_n X 1 dX12_canSet_29 rfl <|
z_iconst X dX12_canSet_30 <|
z_icmp_ne (tgt := 63) X dX12_canSet_31 (by decide) hp1 kc_1 o (fun o =>
z_aload_n X 0 dX12_canSet_63 rfl <|
z_iload_n X 1 dX12_canSet_64 rfl <|
z_iconst X dX12_canSet_65 <|
z_iconst X dX12_canSet_66 <|
z_callvI X dX12_canSet_67 q_1822 wX12_isIn sm_0 rfl (by decide) [.int (pI p1), .int (pI 2), .int (pI 3)] [] rfl rfl (Nat.le_of_ble_eq_true rfl) (fun r σ1 e => ct_X12_isIn p1 2 3 hp1 kc_2 kc_3 G _ r σ1 e) o fun r1 s2 h3 o =>
z_if_eq (tgt := 96) X dX12_canSet_70 (by decide) (r01_rg h3) o (fun o =>
z_iconst X dX12_canSet_96 <|
z_zret X Y dX12_canSet_97 o kb_0 kb_0) fun o =>
z_aload_n X 0 dX12_canSet_73 rfl <|
z_iload_n X 2 dX12_canSet_74 rfl <|
z_callvI X dX12_canSet_75 q_1842 wX12_isPerson sm_0 rfl (by decide) [.int (pI p2)] [] rfl rfl (Nat.le_of_ble_eq_true rfl) (fun r σ1 e => ct_X12_isPerson p2 hp2 G _ r σ1 e) o fun r4 s5 h6 o =>
z_if_eq (tgt := 96) X dX12_canSet_78 (by decide) (r01_rg h6) o (fun o =>
z_iconst X dX12_canSet_96 <|
z_zret X Y dX12_canSet_97 o kb_0 kb_0) fun o =>
z_aload_n X 0 dX12_canSet_81 rfl <|
z_iload_n X 3 dX12_canSet_82 rfl <|
z_iconst X dX12_canSet_83 <|
z_bipush X dX12_canSet_84 bi_9 <|
z_callvI X dX12_canSet_86 q_1822 wX12_isIn sm_0 rfl (by decide) [.int (pI p3), .int (pI 0), .int (pI 9)] [] rfl rfl (Nat.le_of_ble_eq_true rfl) (fun r σ1 e => ct_X12_isIn p3 0 9 hp3 kc_0 kc_9 G _ r σ1 e) o fun r7 s8 h9 o =>
z_if_eq (tgt := 96) X dX12_canSet_89 (by decide) (r01_rg h9) o (fun o =>
z_iconst X dX12_canSet_96 <|
z_zret X Y dX12_canSet_97 o kb_0 kb_0) fun o =>
z_iconst X dX12_canSet_92 <|
z_goto (tgt := 97) X dX12_canSet_93 (by decide) <|
z_zret X Y dX12_canSet_97 o kb_1 kb_1) fun o =>
z_aload_n X 0 dX12_canSet_34 rfl <|
z_iload_n X 2 dX12_canSet_35 rfl <|
z_callvI X dX12_canSet_36 q_1838 wX12_isPorch sm_0 rfl (by decide) [.int (pI p2)] [] rfl rfl (Nat.le_of_ble_eq_true rfl) (fun r σ1 e => ct_X12_isPorch p2 hp2 G _ r σ1 e) o fun r10 s11 h12 o =>
z_if_eq (tgt := 61) X dX12_canSet_39 (by decide) (r01_rg h12) o (fun o =>
z_iconst X dX12_canSet_61 <|
z_zret X Y dX12_canSet_62 o kb_0 kb_0) fun o =>
z_aload_n X 0 dX12_canSet_42 rfl <|
z_iload_n X 3 dX12_canSet_43 rfl <|
z_iconst X dX12_canSet_44 <|
z_aload_n X 0 dX12_canSet_45 rfl <|
z_getI X dX12_canSet_46 fl_X12_199 sm_0 rfl o fun v13 r14 o =>
z_iconst X dX12_canSet_49 <|
z_isub X dX12_canSet_50 <|
z_callvI X dX12_canSet_51 q_1822 wX12_isIn sm_0 rfl (by decide) [.int (pI p3), .int (pI (-1)), .int (pI (w32 (v13 - 1)))] [] rfl rfl (Nat.le_of_ble_eq_true rfl) (fun r σ1 e => ct_X12_isIn p3 (-1) (w32 (v13 - 1)) hp3 kc_m1 (w32_rg _) G _ r σ1 e) o fun r15 s16 h17 o =>
z_if_eq (tgt := 61) X dX12_canSet_54 (by decide) (r01_rg h17) o (fun o =>
z_iconst X dX12_canSet_61 <|
z_zret X Y dX12_canSet_62 o kb_0 kb_0) fun o =>
z_iconst X dX12_canSet_57 <|
z_goto (tgt := 62) X dX12_canSet_58 (by decide) <|
z_zret X Y dX12_canSet_62 o kb_1 kb_1) fun o =>
z_aload_n X 0 dX12_canSet_4 rfl <|
z_iload_n X 2 dX12_canSet_5 rfl <|
z_callvI X dX12_canSet_6 q_1838 wX12_isPorch sm_0 rfl (by decide) [.int (pI p2)] [] rfl rfl (Nat.le_of_ble_eq_true rfl) (fun r σ1 e => ct_X12_isPorch p2 hp2 G _ r σ1 e) o fun r18 s19 h20 o =>
z_if_eq (tgt := 27) X dX12_canSet_9 (by decide) (r01_rg h20) o (fun o =>
z_iconst X dX12_canSet_27 <|
z_zret X Y dX12_canSet_28 o kb_0 kb_0) fun o =>
z_aload_n X 0 dX12_canSet_12 rfl <|
z_iload_n X 3 dX12_canSet_13 rfl <|
z_iconst X dX12_canSet_14 <|
z_bipush X dX12_canSet_15 bi_99 <|
z_callvI X dX12_canSet_17 q_1822 wX12_isIn sm_0 rfl (by decide) [.int (pI p3), .int (pI 0), .int (pI 99)] [] rfl rfl (Nat.le_of_ble_eq_true rfl) (fun r σ1 e => ct_X12_isIn p3 0 99 hp3 kc_0 kc_99 G _ r σ1 e) o fun r21 s22 h23 o =>
z_if_eq (tgt := 27) X dX12_canSet_20 (by decide) (r01_rg h23) o (fun o =>
z_iconst X dX12_canSet_27 <|
z_zret X Y dX12_canSet_28 o kb_0 kb_0) fun o =>
z_iconst X dX12_canSet_23 <|
z_goto (tgt := 28) X dX12_canSet_24 (by decide) <|
z_zret X Y dX12_canSet_28 o kb_1 kb_1 : At E s0 0 [(0, .ref (G.2.2.1 0)), (1, .int (pI p1)), (2, .int (pI p2)), (3, .int (pI p3))] [])
set_option maxHeartbeats 4000000 in
set_option maxRecDepth 100000 in
theorem ct_X12_cat (p1 : Int) (p2 : Int) (p3 : Int) (hp1 : rg p1) (hp2 : rg p2) (hp3 : rg p3) (G : Gw) (s0 : St) (r : Int) (σ1 : St) (e : fX12_cat p1 p2 p3 s0 = some (r, σ1)) : Ct yX12_cat cX12_cat 4 (some .int) 1 23 SM G [.ref (G.2.2.1 0), .int (pI p1), .int (pI p2), .int (pI p3)] s0 (QI SM G r rg σ1) :=
  Ct.of (by decide +kernel) (Nat.le_of_ble_eq_true rfl) fun E X Y => by
    have o : Ok (fX12_cat p1 p2 p3 s0) (fun x σ' => x = r ∧ σ' = σ1) := ⟨r, σ1, e, rfl, rfl⟩
    unfold fX12_cat at o
    exact (
z_aload_n X 0 dX12_cat_0 rfl <|
z_iconst X dX12_cat_1 <|
z_putI X dX12_cat_2 fl_X12_183 sm_0 ft_X12_0 rfl kc_0 o fun s1 o =>
z_iload_n X 1 dX12_cat_5 rfl <|
z_iconst X dX12_cat_6 <|
z_icmp_ne (tgt := 17) X dX12_cat_7 (by decide) hp1 kc_m1 o (fun o =>
z_aload_n X 0 dX12_cat_17 rfl <|
z_iload_n X 1 dX12_cat_18 rfl <|
z_iconst X dX12_cat_19 <|
z_bipush X dX12_cat_20 bi_7 <|
z_callvI X dX12_cat_22 q_1822 wX12_isIn sm_0 rfl (by decide) [.int (pI p1), .int (pI 0), .int (pI 7)] [] rfl rfl (Nat.le_of_ble_eq_true rfl) (fun r σ1 e => ct_X12_isIn p1 0 7 hp1 kc_0 kc_7 G _ r σ1 e) o fun r2 s3 h4 o =>
z_if_eq (tgt := 71) X dX12_cat_25 (by decide) (r01_rg h4) o (fun o =>
z_iconst X dX12_cat_71 <|
z_iret X Y dX12_cat_72 o kc_m1) fun o =>
z_aload_n X 0 dX12_cat_28 rfl <|
z_iload_n X 2 dX12_cat_29 rfl <|
z_iconst X dX12_cat_30 <|
z_bipush X dX12_cat_31 bi_7 <|
z_callvI X dX12_cat_33 q_1822 wX12_isIn sm_0 rfl (by decide) [.int (pI p2), .int (pI 0), .int (pI 7)] [] rfl rfl (Nat.le_of_ble_eq_true rfl) (fun r σ1 e => ct_X12_isIn p2 0 7 hp2 kc_0 kc_7 G _ r σ1 e) o fun r5 s6 h7 o =>
z_if_eq (tgt := 71) X dX12_cat_36 (by decide) (r01_rg h7) o (fun o =>
z_iconst X dX12_cat_71 <|
z_iret X Y dX12_cat_72 o kc_m1) fun o =>
z_aload_n X 0 dX12_cat_39 rfl <|
z_iload_n X 3 dX12_cat_40 rfl <|
z_iconst X dX12_cat_41 <|
z_sipush X dX12_cat_42 si_9999 <|
z_callvI X dX12_cat_45 q_1822 wX12_isIn sm_0 rfl (by decide) [.int (pI p3), .int (pI 0), .int (pI 9999)] [] rfl rfl (Nat.le_of_ble_eq_true rfl) (fun r σ1 e => ct_X12_isIn p3 0 9999 hp3 kc_0 kc_9999 G _ r σ1 e) o fun r8 s9 h10 o =>
z_if_eq (tgt := 71) X dX12_cat_48 (by decide) (r01_rg h10) o (fun o =>
z_iconst X dX12_cat_71 <|
z_iret X Y dX12_cat_72 o kc_m1) fun o =>
z_iload_n X 3 dX12_cat_51 rfl <|
z_bipush X dX12_cat_52 bi_100 <|
z_idiv X dX12_cat_54 hp3 kc_100 o fun z11 o =>
z_iload_n X 3 dX12_cat_55 rfl <|
z_bipush X dX12_cat_56 bi_100 <|
z_irem X dX12_cat_58 hp3 kc_100 o fun z12 o =>
z_icmp_ge (tgt := 71) X dX12_cat_59 (by decide) (w32_rg _) (irm_rg kc_100 z12) o (fun o =>
z_iconst X dX12_cat_71 <|
z_iret X Y dX12_cat_72 o kc_m1) fun o =>
z_aload_n X 0 dX12_cat_62 rfl <|
z_getI X dX12_cat_63 fl_X12_496 sm_0 rfl o fun v13 r14 o =>
z_bipush X dX12_cat_66 bi_12 <|
z_icmp_ne (tgt := 73) X dX12_cat_68 (by decide) r14 kc_12 o (fun o =>
z_aload_n X 0 dX12_cat_73 rfl <|
z_getR (q := 31) X dX12_cat_74 fl_X12_104 sm_0 rfl <|
z_aload_n X 0 dX12_cat_77 rfl <|
z_getI X dX12_cat_78 fl_X12_496 sm_0 rfl o fun v15 r16 o =>
z_iload_n X 1 dX12_cat_81 rfl <|
z_iast X dX12_cat_82 sm_31 r16 hp1 o fun s17 o =>
z_aload_n X 0 dX12_cat_83 rfl <|
z_getR (q := 32) X dX12_cat_84 fl_X12_107 sm_0 rfl <|
z_aload_n X 0 dX12_cat_87 rfl <|
z_getI X dX12_cat_88 fl_X12_496 sm_0 rfl o fun v18 r19 o =>
z_iload_n X 2 dX12_cat_91 rfl <|
z_iast X dX12_cat_92 sm_32 r19 hp2 o fun s20 o =>
z_aload_n X 0 dX12_cat_93 rfl <|
z_getR (q := 33) X dX12_cat_94 fl_X12_110 sm_0 rfl <|
z_aload_n X 0 dX12_cat_97 rfl <|
z_getI X dX12_cat_98 fl_X12_496 sm_0 rfl o fun v21 r22 o =>
z_iload_n X 3 dX12_cat_101 rfl <|
z_bipush X dX12_cat_102 bi_100 <|
z_idiv X dX12_cat_104 hp3 kc_100 o fun z23 o =>
z_iast X dX12_cat_105 sm_33 r22 (w32_rg _) o fun s24 o =>
z_aload_n X 0 dX12_cat_106 rfl <|
z_getR (q := 34) X dX12_cat_107 fl_X12_113 sm_0 rfl <|
z_aload_n X 0 dX12_cat_110 rfl <|
z_getI X dX12_cat_111 fl_X12_496 sm_0 rfl o fun v25 r26 o =>
z_iload_n X 3 dX12_cat_114 rfl <|
z_bipush X dX12_cat_115 bi_100 <|
z_irem X dX12_cat_117 hp3 kc_100 o fun z27 o =>
z_iast X dX12_cat_118 sm_34 r26 (irm_rg kc_100 z27) o fun s28 o =>
z_aload_n X 0 dX12_cat_119 rfl <|
z_aload_n X 0 dX12_cat_120 rfl <|
z_getI X dX12_cat_121 fl_X12_496 sm_0 rfl o fun v29 r30 o =>
z_iconst X dX12_cat_124 <|
z_iadd X dX12_cat_125 <|
z_putI X dX12_cat_126 fl_X12_496 sm_0 ft_X12_52 rfl (w32_rg _) o fun s31 o =>
z_aload_n X 0 dX12_cat_129 rfl <|
z_getI X dX12_cat_130 fl_X12_496 sm_0 rfl o fun v32 r33 o =>
z_iret X Y dX12_cat_133 o r33) fun o =>
z_iconst X dX12_cat_71 <|
z_iret X Y dX12_cat_72 o kc_m1) fun o =>
z_aload_n X 0 dX12_cat_10 rfl <|
z_iconst X dX12_cat_11 <|
z_putI X dX12_cat_12 fl_X12_496 sm_0 ft_X12_52 rfl kc_0 o fun s34 o =>
z_iconst X dX12_cat_15 <|
z_iret X Y dX12_cat_16 o kc_0 : At E s0 0 [(0, .ref (G.2.2.1 0)), (1, .int (pI p1)), (2, .int (pI p2)), (3, .int (pI p3))] [])
set_option maxHeartbeats 4000000 in
set_option maxRecDepth 100000 in
theorem ct_X12_chair (p1 : Int) (p2 : Int) (hp1 : rg p1) (hp2 : rg p2) (G : Gw) (s0 : St) (r : Int) (σ1 : St) (e : fX12_chair p1 p2 s0 = some (r, σ1)) : Ct yX12_chair cX12_chair 3 (some .int) 1 23 SM G [.ref (G.2.2.1 0), .int (pI p1), .int (pI p2)] s0 (QI SM G r rg σ1) :=
  Ct.of (by decide +kernel) (Nat.le_of_ble_eq_true rfl) fun E X Y => by
    have o : Ok (fX12_chair p1 p2 s0) (fun x σ' => x = r ∧ σ' = σ1) := ⟨r, σ1, e, rfl, rfl⟩
    unfold fX12_chair at o
    exact (
z_aload_n X 0 dX12_chair_0 rfl <|
z_iconst X dX12_chair_1 <|
z_putI X dX12_chair_2 fl_X12_183 sm_0 ft_X12_0 rfl kc_0 o fun s1 o =>
z_iload_n X 1 dX12_chair_5 rfl <|
z_iconst X dX12_chair_6 <|
z_icmp_ne (tgt := 17) X dX12_chair_7 (by decide) hp1 kc_m1 o (fun o =>
z_aload_n X 0 dX12_chair_17 rfl <|
z_iload_n X 1 dX12_chair_18 rfl <|
z_iconst X dX12_chair_19 <|
z_bipush X dX12_chair_20 bi_30 <|
z_callvI X dX12_chair_22 q_1822 wX12_isIn sm_0 rfl (by decide) [.int (pI p1), .int (pI 1), .int (pI 30)] [] rfl rfl (Nat.le_of_ble_eq_true rfl) (fun r σ1 e => ct_X12_isIn p1 1 30 hp1 kc_1 kc_30 G _ r σ1 e) o fun r2 s3 h4 o =>
z_if_eq (tgt := 48) X dX12_chair_25 (by decide) (r01_rg h4) o (fun o =>
z_iconst X dX12_chair_48 <|
z_iret X Y dX12_chair_49 o kc_m1) fun o =>
z_aload_n X 0 dX12_chair_28 rfl <|
z_iload_n X 2 dX12_chair_29 rfl <|
z_iconst X dX12_chair_30 <|
z_iload_n X 1 dX12_chair_31 rfl <|
z_iconst X dX12_chair_32 <|
z_isub X dX12_chair_33 <|
z_callvI X dX12_chair_34 q_1822 wX12_isIn sm_0 rfl (by decide) [.int (pI p2), .int (pI 0), .int (pI (w32 (p1 - 1)))] [] rfl rfl (Nat.le_of_ble_eq_true rfl) (fun r σ1 e => ct_X12_isIn p2 0 (w32 (p1 - 1)) hp2 kc_0 (w32_rg _) G _ r σ1 e) o fun r5 s6 h7 o =>
z_if_eq (tgt := 48) X dX12_chair_37 (by decide) (r01_rg h7) o (fun o =>
z_iconst X dX12_chair_48 <|
z_iret X Y dX12_chair_49 o kc_m1) fun o =>
z_aload_n X 0 dX12_chair_40 rfl <|
z_getI X dX12_chair_41 fl_X12_487 sm_0 rfl o fun v8 r9 o =>
z_iconst X dX12_chair_44 <|
z_icmp_ne (tgt := 50) X dX12_chair_45 (by decide) r9 kc_5 o (fun o =>
z_aload_n X 0 dX12_chair_50 rfl <|
z_getR (q := 29) X dX12_chair_51 fl_X12_98 sm_0 rfl <|
z_aload_n X 0 dX12_chair_54 rfl <|
z_getI X dX12_chair_55 fl_X12_487 sm_0 rfl o fun v10 r11 o =>
z_iload_n X 1 dX12_chair_58 rfl <|
z_iast X dX12_chair_59 sm_29 r11 hp1 o fun s12 o =>
z_aload_n X 0 dX12_chair_60 rfl <|
z_getR (q := 30) X dX12_chair_61 fl_X12_101 sm_0 rfl <|
z_aload_n X 0 dX12_chair_64 rfl <|
z_getI X dX12_chair_65 fl_X12_487 sm_0 rfl o fun v13 r14 o =>
z_iload_n X 2 dX12_chair_68 rfl <|
z_iast X dX12_chair_69 sm_30 r14 hp2 o fun s15 o =>
z_aload_n X 0 dX12_chair_70 rfl <|
z_aload_n X 0 dX12_chair_71 rfl <|
z_getI X dX12_chair_72 fl_X12_487 sm_0 rfl o fun v16 r17 o =>
z_iconst X dX12_chair_75 <|
z_iadd X dX12_chair_76 <|
z_putI X dX12_chair_77 fl_X12_487 sm_0 ft_X12_49 rfl (w32_rg _) o fun s18 o =>
z_aload_n X 0 dX12_chair_80 rfl <|
z_getI X dX12_chair_81 fl_X12_487 sm_0 rfl o fun v19 r20 o =>
z_iret X Y dX12_chair_84 o r20) fun o =>
z_iconst X dX12_chair_48 <|
z_iret X Y dX12_chair_49 o kc_m1) fun o =>
z_aload_n X 0 dX12_chair_10 rfl <|
z_iconst X dX12_chair_11 <|
z_putI X dX12_chair_12 fl_X12_487 sm_0 ft_X12_49 rfl kc_0 o fun s21 o =>
z_iconst X dX12_chair_15 <|
z_iret X Y dX12_chair_16 o kc_0 : At E s0 0 [(0, .ref (G.2.2.1 0)), (1, .int (pI p1)), (2, .int (pI p2))] [])
set_option maxHeartbeats 4000000 in
set_option maxRecDepth 100000 in
theorem ct_X12_greater (p1 : Int) (p2 : Int) (hp1 : rg p1) (hp2 : rg p2) (G : Gw) (s0 : St) (r : Int) (σ1 : St) (e : fX12_greater p1 p2 s0 = some (r, σ1)) : Ct yX12_greater cX12_greater 3 (some .int) 0 0 SM G [.ref (G.2.2.1 0), .int (pI p1), .int (pI p2)] s0 (QI SM G r rg σ1) :=
  Ct.of (by decide +kernel) (Nat.le_of_ble_eq_true rfl) fun E X Y => by
    have o : Ok (fX12_greater p1 p2 s0) (fun x σ' => x = r ∧ σ' = σ1) := ⟨r, σ1, e, rfl, rfl⟩
    unfold fX12_greater at o
    exact (
z_iload_n X 1 dX12_greater_0 rfl <|
z_iload_n X 2 dX12_greater_1 rfl <|
z_icmp_le (tgt := 9) X dX12_greater_2 (by decide) hp1 hp2 o (fun o =>
z_iload_n X 2 dX12_greater_9 rfl <|
z_iret X Y dX12_greater_10 o hp2) fun o =>
z_iload_n X 1 dX12_greater_5 rfl <|
z_goto (tgt := 10) X dX12_greater_6 (by decide) <|
z_iret X Y dX12_greater_10 o hp1 : At E s0 0 [(0, .ref (G.2.2.1 0)), (1, .int (pI p1)), (2, .int (pI p2))] [])
set_option maxHeartbeats 4000000 in
set_option maxRecDepth 100000 in
theorem ct_X12_lesser (p1 : Int) (p2 : Int) (hp1 : rg p1) (hp2 : rg p2) (G : Gw) (s0 : St) (r : Int) (σ1 : St) (e : fX12_lesser p1 p2 s0 = some (r, σ1)) : Ct yX12_lesser cX12_lesser 3 (some .int) 0 0 SM G [.ref (G.2.2.1 0), .int (pI p1), .int (pI p2)] s0 (QI SM G r rg σ1) :=
  Ct.of (by decide +kernel) (Nat.le_of_ble_eq_true rfl) fun E X Y => by
    have o : Ok (fX12_lesser p1 p2 s0) (fun x σ' => x = r ∧ σ' = σ1) := ⟨r, σ1, e, rfl, rfl⟩
    unfold fX12_lesser at o
    exact (
z_iload_n X 1 dX12_lesser_0 rfl <|
z_iload_n X 2 dX12_lesser_1 rfl <|
z_icmp_ge (tgt := 9) X dX12_lesser_2 (by decide) hp1 hp2 o (fun o =>
z_iload_n X 2 dX12_lesser_9 rfl <|
z_iret X Y dX12_lesser_10 o hp2) fun o =>
z_iload_n X 1 dX12_lesser_5 rfl <|
z_goto (tgt := 10) X dX12_lesser_6 (by decide) <|
z_iret X Y dX12_lesser_10 o hp1 : At E s0 0 [(0, .ref (G.2.2.1 0)), (1, .int (pI p1)), (2, .int (pI p2))] [])
set_option maxHeartbeats 4000000 in
set_option maxRecDepth 100000 in
theorem ct_X12_ditch   (G : Gw) (s0 : St) (r : Int) (σ1 : St) (e : fX12_ditch s0 = some (r, σ1)) : Ct yX12_ditch cX12_ditch 6 (some .int) 1 22 SM G [.ref (G.2.2.1 0)] s0 (QI SM G r rg σ1) :=
  Ct.of (by decide +kernel) (Nat.le_of_ble_eq_true rfl) fun E X Y => by
    have o : Ok (fX12_ditch s0) (fun x σ' => x = r ∧ σ' = σ1) := ⟨r, σ1, e, rfl, rfl⟩
    unfold fX12_ditch at o
    exact (
z_iconst X dX12_ditch_0 <|
z_istore_n (L1 := [(1, .int (pI 0)), (0, .ref (G.2.2.1 0))]) X dX12_ditch_1 rfl (by decide) rfl <|
z_iconst X dX12_ditch_2 <|
z_istore_n (L1 := [(2, .int (pI 0)), (1, .int (pI 0)), (0, .ref (G.2.2.1 0))]) X dX12_ditch_3 rfl (by decide) rfl <|
z_join o (fun (y34 : Int) s35 => rg y34 → At E s35 98 [(1, .int (pI y34))] []) (fun y34 s35 o r36 =>
z_iload_n X 0 dX12_ditch_98 rfl <|
z_iret X Y dX12_ditch_99 o r36) fun o =>
z_sub (L1 := [(0, .ref (G.2.2.1 0)), (1, .int (pI 0)), (2, .int (pI 0))]) X [2, 1, 0] rfl <|
z_iter (fun (x1 : Int × Int) s2 => rg x1.1 ∧ rg x1.2 → At E s2 4 [(0, .ref (G.2.2.1 0)), (1, .int (pI x1.1)), (2, .int (pI x1.2))] []) o (fun x1 s2 o r3 =>
z_iload_n X 2 dX12_ditch_4 rfl <|
z_aload_n X 0 dX12_ditch_5 rfl <|
z_getI X dX12_ditch_6 fl_X12_512 sm_0 rfl o fun v4 r5 o =>
z_icmp_ge (tgt := 98) X dX12_ditch_9 (by decide) r3.2 r5 o (fun o =>
z_sub (L1 := [(1, .int (pI x1.1))]) X [1] rfl <|
ok_some o r3.1) fun o =>
z_iconst X dX12_ditch_12 <|
z_istore_n (L1 := [(3, .int (pI 0)), (0, .ref (G.2.2.1 0)), (1, .int (pI x1.1)), (2, .int (pI x1.2))]) X dX12_ditch_13 rfl (by decide) rfl <|
z_iconst X dX12_ditch_14 <|
z_istore (L1 := [(4, .int (pI 0)), (3, .int (pI 0)), (0, .ref (G.2.2.1 0)), (1, .int (pI x1.1)), (2, .int (pI x1.2))]) X dX12_ditch_15 (by decide) rfl <|
z_iconst X dX12_ditch_17 <|
z_istore (L1 := [(5, .int (pI 0)), (4, .int (pI 0)), (3, .int (pI 0)), (0, .ref (G.2.2.1 0)), (1, .int (pI x1.1)), (2, .int (pI x1.2))]) X dX12_ditch_18 (by decide) rfl <|
z_join o (fun (y24 : Int × Int) s25 => rg y24.1 ∧ rg y24.2 → At E s25 75 [(0, .ref (G.2.2.1 0)), (1, .int (pI x1.1)), (2, .int (pI x1.2)), (3, .int (pI y24.1)), (4, .int (pI y24.2))] []) (fun y24 s25 o r26 =>
z_iload_n X 1 dX12_ditch_75 rfl <|
z_aload_n X 0 dX12_ditch_76 rfl <|
z_iload_n X 3 dX12_ditch_77 rfl <|
z_iload X 4 dX12_ditch_78 rfl <|
z_callvI X dX12_ditch_80 q_2120 wX12_lesser sm_0 rfl (by decide) [.int (pI y24.1), .int (pI y24.2)] [.int (pI x1.1)] rfl rfl (Nat.le_of_ble_eq_true rfl) (fun r σ1 e => ct_X12_lesser y24.1 y24.2 r26.1 r26.2 G _ r σ1 e) o fun r27 s28 h29 o =>
z_iadd X dX12_ditch_83 <|
z_aload_n X 0 dX12_ditch_84 rfl <|
z_getR (q := 39) X dX12_ditch_85 fl_X12_128 sm_0 rfl <|
z_iload_n X 2 dX12_ditch_88 rfl <|
z_iald X dX12_ditch_89 sm_39 r3.2 o fun v30 r31 o =>
z_isub X dX12_ditch_90 <|
z_istoreL_n (L1 := fun v32 => [(1, .int (pI v32)), (0, .ref (G.2.2.1 0)), (2, .int (pI x1.2)), (3, .int (pI y24.1)), (4, .int (pI y24.2))]) (R := rg) X dX12_ditch_91 rfl (by decide) (fun _ => rfl) o (w32_rg _) fun v32 r33 o =>
z_iinc (L1 := [(2, .int (pI (w32 (x1.2 + 1)))), (1, .int (pI v32)), (0, .ref (G.2.2.1 0)), (3, .int (pI y24.1)), (4, .int (pI y24.2))]) X 2 dX12_ditch_92 rfl (by decide) rfl <|
z_goto (tgt := 4) X dX12_ditch_95 (by decide) <|
z_sub (L1 := [(0, .ref (G.2.2.1 0)), (1, .int (pI v32)), (2, .int (pI (w32 (x1.2 + 1))))]) X [2, 1, 0] rfl <|
ok_some o ⟨r33, (w32_rg _)⟩) fun o =>
z_sub (L1 := [(0, .ref (G.2.2.1 0)), (1, .int (pI x1.1)), (2, .int (pI x1.2)), (3, .int (pI 0)), (4, .int (pI 0)), (5, .int (pI 0))]) X [3, 4, 5, 2, 1, 0] rfl <|
z_iter (fun (x6 : Int × Int × Int) s7 => rg x6.1 ∧ rg x6.2.1 ∧ rg x6.2.2 → At E s7 20 [(0, .ref (G.2.2.1 0)), (1, .int (pI x1.1)), (2, .int (pI x1.2)), (3, .int (pI x6.1)), (4, .int (pI x6.2.1)), (5, .int (pI x6.2.2))] []) o (fun x6 s7 o r8 =>
z_iload X 5 dX12_ditch_20 rfl <|
z_aload_n X 0 dX12_ditch_22 rfl <|
z_getI X dX12_ditch_23 fl_X12_512 sm_0 rfl o fun v9 r10 o =>
z_icmp_ge (tgt := 75) X dX12_ditch_26 (by decide) r8.2.2 r10 o (fun o =>
z_sub (L1 := [(0, .ref (G.2.2.1 0)), (1, .int (pI x1.1)), (2, .int (pI x1.2)), (3, .int (pI x6.1)), (4, .int (pI x6.2.1))]) X [0, 1, 2, 3, 4] rfl <|
ok_some o ⟨r8.1, r8.2.1⟩) fun o =>
z_iload X 5 dX12_ditch_29 rfl <|
z_iload_n X 2 dX12_ditch_31 rfl <|
z_join o (fun (y16 : Int) s17 => rg y16 → At E s17 48 [(0, .ref (G.2.2.1 0)), (1, .int (pI x1.1)), (2, .int (pI x1.2)), (3, .int (pI y16)), (4, .int (pI x6.2.1)), (5, .int (pI x6.2.2))] []) (fun y16 s17 o r18 =>
z_iload X 5 dX12_ditch_48 rfl <|
z_iload_n X 2 dX12_ditch_50 rfl <|
z_icmp_lt (tgt := 69) X dX12_ditch_51 (by decide) r8.2.2 r3.2 o (fun o =>
z_iinc (L1 := [(5, .int (pI (w32 (x6.2.2 + 1)))), (0, .ref (G.2.2.1 0)), (1, .int (pI x1.1)), (2, .int (pI x1.2)), (3, .int (pI y16)), (4, .int (pI x6.2.1))]) X 5 dX12_ditch_69 rfl (by decide) rfl <|
z_goto (tgt := 20) X dX12_ditch_72 (by decide) <|
z_sub (L1 := [(0, .ref (G.2.2.1 0)), (1, .int (pI x1.1)), (2, .int (pI x1.2)), (3, .int (pI y16)), (4, .int (pI x6.2.1)), (5, .int (pI (w32 (x6.2.2 + 1))))]) X [1, 2, 3, 4, 5, 0] rfl <|
ok_some o ⟨r18, r8.2.1, (w32_rg _)⟩) fun o =>
z_aload_n X 0 dX12_ditch_54 rfl <|
z_iload X 4 dX12_ditch_55 rfl <|
z_aload_n X 0 dX12_ditch_57 rfl <|
z_getR (q := 39) X dX12_ditch_58 fl_X12_128 sm_0 rfl <|
z_iload X 5 dX12_ditch_61 rfl <|
z_iald X dX12_ditch_63 sm_39 r8.2.2 o fun v19 r20 o =>
z_callvI X dX12_ditch_64 q_2205 wX12_greater sm_0 rfl (by decide) [.int (pI x6.2.1), .int (pI v19)] [] rfl rfl (Nat.le_of_ble_eq_true rfl) (fun r σ1 e => ct_X12_greater x6.2.1 v19 r8.2.1 r20 G _ r σ1 e) o fun r21 s22 h23 o =>
z_istore (L1 := [(4, .int (pI r21)), (0, .ref (G.2.2.1 0)), (1, .int (pI x1.1)), (2, .int (pI x1.2)), (3, .int (pI y16)), (5, .int (pI x6.2.2))]) X dX12_ditch_67 (by decide) rfl <|
z_iinc (L1 := [(5, .int (pI (w32 (x6.2.2 + 1)))), (4, .int (pI r21)), (0, .ref (G.2.2.1 0)), (1, .int (pI x1.1)), (2, .int (pI x1.2)), (3, .int (pI y16))]) X 5 dX12_ditch_69 rfl (by decide) rfl <|
z_goto (tgt := 20) X dX12_ditch_72 (by decide) <|
z_sub (L1 := [(0, .ref (G.2.2.1 0)), (1, .int (pI x1.1)), (2, .int (pI x1.2)), (3, .int (pI y16)), (4, .int (pI r21)), (5, .int (pI (w32 (x6.2.2 + 1))))]) X [2, 3, 4, 5, 1, 0] rfl <|
ok_some o ⟨r18, h23, (w32_rg _)⟩) fun o =>
z_icmp_gt (tgt := 48) X dX12_ditch_32 (by decide) r8.2.2 r3.2 o (fun o =>
ok_some o r8.1) fun o =>
z_aload_n X 0 dX12_ditch_35 rfl <|
z_iload_n X 3 dX12_ditch_36 rfl <|
z_aload_n X 0 dX12_ditch_37 rfl <|
z_getR (q := 39) X dX12_ditch_38 fl_X12_128 sm_0 rfl <|
z_iload X 5 dX12_ditch_41 rfl <|
z_iald X dX12_ditch_43 sm_39 r8.2.2 o fun v11 r12 o =>
z_callvI X dX12_ditch_44 q_2205 wX12_greater sm_0 rfl (by decide) [.int (pI x6.1), .int (pI v11)] [] rfl rfl (Nat.le_of_ble_eq_true rfl) (fun r σ1 e => ct_X12_greater x6.1 v11 r8.1 r12 G _ r σ1 e) o fun r13 s14 h15 o =>
z_istore_n (L1 := [(3, .int (pI r13)), (0, .ref (G.2.2.1 0)), (1, .int (pI x1.1)), (2, .int (pI x1.2)), (4, .int (pI x6.2.1)), (5, .int (pI x6.2.2))]) X dX12_ditch_47 rfl (by decide) rfl <|
z_sub (L1 := [(0, .ref (G.2.2.1 0)), (1, .int (pI x1.1)), (2, .int (pI x1.2)), (3, .int (pI r13)), (4, .int (pI x6.2.1)), (5, .int (pI x6.2.2))]) X [1, 2, 3, 0, 4, 5] rfl <|
ok_some o h15) ⟨kc_0, kc_0, kc_0⟩) ⟨kc_0, kc_0⟩ : At E s0 0 [(0, .ref (G.2.2.1 0))] [])
set_option maxHeartbeats 4000000 in
set_option maxRecDepth 100000 in
theorem ct_X12_draw (p1 : Int) (hp1 : rg p1) (G : Gw) (s0 : St) (r : Int) (σ1 : St) (e : fX12_draw p1 s0 = some (r, σ1)) : Ct yX12_draw cX12_draw 2 (some .int) 0 0 SM G [.ref (G.2.2.1 0), .int (pI p1)] s0 (QI SM G r rg σ1) :=
  Ct.of (by decide +kernel) (Nat.le_of_ble_eq_true rfl) fun E X Y => by
    have o : Ok (fX12_draw p1 s0) (fun x σ' => x = r ∧ σ' = σ1) := ⟨r, σ1, e, rfl, rfl⟩
    unfold fX12_draw at o
    exact (
z_aload_n X 0 dX12_draw_0 rfl <|
z_getR (q := 1) X dX12_draw_1 fl_X12_7 sm_0 rfl <|
z_iconst X dX12_draw_4 <|
z_ldc X dX12_draw_5 q_2098 ki_1664525 <|
z_aload_n X 0 dX12_draw_7 rfl <|
z_getR (q := 1) X dX12_draw_8 fl_X12_7 sm_0 rfl <|
z_iconst X dX12_draw_11 <|
z_iald X dX12_draw_12 sm_1 kc_2 o fun v1 r2 o =>
z_imul X dX12_draw_13 <|
z_ldc X dX12_draw_14 q_2099 ki_1013904223 <|
z_iadd X dX12_draw_16 <|
z_iast X dX12_draw_17 sm_1 kc_2 (w32_rg _) o fun s3 o =>
z_aload_n X 0 dX12_draw_18 rfl <|
z_getR (q := 1) X dX12_draw_19 fl_X12_7 sm_0 rfl <|
z_iconst X dX12_draw_22 <|
z_iald X dX12_draw_23 sm_1 kc_2 o fun v4 r5 o =>
z_bipush X dX12_draw_24 bi_8 <|
z_iushr X dX12_draw_26 <|
z_iload_n X 1 dX12_draw_27 rfl <|
z_irem X dX12_draw_28 (int_rg _) hp1 o fun z6 o =>
z_iret X Y dX12_draw_29 o (irm_rg hp1 z6) : At E s0 0 [(0, .ref (G.2.2.1 0)), (1, .int (pI p1))] [])
set_option maxHeartbeats 4000000 in
set_option maxRecDepth 100000 in
theorem ct_X12_emits (p1 : Int) (p2 : Int) (hp1 : rg p1) (hp2 : rg p2) (G : Gw) (s0 : St) (r : Int) (σ1 : St) (e : fX12_emits p1 p2 s0 = some (r, σ1)) : Ct yX12_emits cX12_emits 3 none 0 0 SM G [.ref (G.2.2.1 0), .int (pI p1), .int (pI p2)] s0 (QV SM G σ1) :=
  Ct.of (by decide +kernel) (Nat.le_of_ble_eq_true rfl) fun E X Y => by
    have o : Ok (fX12_emits p1 p2 s0) (fun x σ' => x = r ∧ σ' = σ1) := ⟨r, σ1, e, rfl, rfl⟩
    unfold fX12_emits at o
    exact (
z_aload_n X 0 dX12_emits_0 rfl <|
z_getR (q := 15) X dX12_emits_1 fl_X12_52 sm_0 rfl <|
z_sipush X dX12_emits_4 si_800 <|
z_aload_n X 0 dX12_emits_7 rfl <|
z_getI X dX12_emits_8 fl_X12_261 sm_0 rfl o fun v1 r2 o =>
z_iadd X dX12_emits_11 <|
z_iload_n X 1 dX12_emits_12 rfl <|
z_iast X dX12_emits_13 sm_15 (w32_rg _) hp1 o fun s3 o =>
z_aload_n X 0 dX12_emits_14 rfl <|
z_getR (q := 16) X dX12_emits_15 fl_X12_55 sm_0 rfl <|
z_sipush X dX12_emits_18 si_800 <|
z_aload_n X 0 dX12_emits_21 rfl <|
z_getI X dX12_emits_22 fl_X12_261 sm_0 rfl o fun v4 r5 o =>
z_iadd X dX12_emits_25 <|
z_iload_n X 2 dX12_emits_26 rfl <|
z_iast X dX12_emits_27 sm_16 (w32_rg _) hp2 o fun s6 o =>
z_aload_n X 0 dX12_emits_28 rfl <|
z_aload_n X 0 dX12_emits_29 rfl <|
z_getI X dX12_emits_30 fl_X12_261 sm_0 rfl o fun v7 r8 o =>
z_iconst X dX12_emits_33 <|
z_iadd X dX12_emits_34 <|
z_putI X dX12_emits_35 fl_X12_261 sm_0 ft_X12_27 rfl (w32_rg _) o fun s9 o =>
z_vret (v := 0) X Y dX12_emits_38 o : At E s0 0 [(0, .ref (G.2.2.1 0)), (1, .int (pI p1)), (2, .int (pI p2))] [])
set_option maxHeartbeats 4000000 in
set_option maxRecDepth 100000 in
theorem ct_X12_end (p1 : Int) (hp1 : rg p1) (G : Gw) (s0 : St) (r : Int) (σ1 : St) (e : fX12_end p1 s0 = some (r, σ1)) : Ct yX12_end cX12_end 2 (some .boolean) 1 23 SM G [.ref (G.2.2.1 0), .int (pI p1)] s0 (QI SM G r r01 σ1) :=
  Ct.of (by decide +kernel) (Nat.le_of_ble_eq_true rfl) fun E X Y => by
    have o : Ok (fX12_end p1 s0) (fun x σ' => x = r ∧ σ' = σ1) := ⟨r, σ1, e, rfl, rfl⟩
    unfold fX12_end at o
    exact (
z_aload_n X 0 dX12_end_0 rfl <|
z_iconst X dX12_end_1 <|
z_putI X dX12_end_2 fl_X12_183 sm_0 ft_X12_0 rfl kc_0 o fun s1 o =>
z_aload_n X 0 dX12_end_5 rfl <|
z_iload_n X 1 dX12_end_6 rfl <|
z_iconst X dX12_end_7 <|
z_aload_n X 0 dX12_end_8 rfl <|
z_getI X dX12_end_9 fl_X12_220 sm_0 rfl o fun v2 r3 o =>
z_callvI X dX12_end_12 q_1822 wX12_isIn sm_0 rfl (by decide) [.int (pI p1), .int (pI 0), .int (pI v2)] [] rfl rfl (Nat.le_of_ble_eq_true rfl) (fun r σ1 e => ct_X12_isIn p1 0 v2 hp1 kc_0 r3 G _ r σ1 e) o fun r4 s5 h6 o =>
z_if_ne (tgt := 20) X dX12_end_15 (by decide) (r01_rg h6) o (fun o =>
z_aload_n X 0 dX12_end_20 rfl <|
z_iload_n X 1 dX12_end_21 rfl <|
z_putI X dX12_end_22 fl_X12_220 sm_0 ft_X12_13 rfl hp1 o fun s7 o =>
z_iconst X dX12_end_25 <|
z_zret X Y dX12_end_26 o kb_1 kb_1) fun o =>
z_iconst X dX12_end_18 <|
z_zret X Y dX12_end_19 o kb_0 kb_0 : At E s0 0 [(0, .ref (G.2.2.1 0)), (1, .int (pI p1))] [])
set_option maxHeartbeats 4000000 in
set_option maxRecDepth 100000 in
theorem ct_X12_endsThought   (G : Gw) (s0 : St) (r : Int) (σ1 : St) (e : fX12_endsThought s0 = some (r, σ1)) : Ct yX12_endsThought cX12_endsThought 2 none 0 0 SM G [.ref (G.2.2.1 0)] s0 (QV SM G σ1) :=
  Ct.of (by decide +kernel) (Nat.le_of_ble_eq_true rfl) fun E X Y => by
    have o : Ok (fX12_endsThought s0) (fun x σ' => x = r ∧ σ' = σ1) := ⟨r, σ1, e, rfl, rfl⟩
    unfold fX12_endsThought at o
    exact (
z_iconst X dX12_endsThought_0 <|
z_istore_n (L1 := [(1, .int (pI 0)), (0, .ref (G.2.2.1 0))]) X dX12_endsThought_1 rfl (by decide) rfl <|
z_join o (fun (y7 : Unit) s8 => True → At E s8 27 [(0, .ref (G.2.2.1 0))] []) (fun y7 s8 o r9 =>
z_aload_n X 0 dX12_endsThought_27 rfl <|
z_iconst X dX12_endsThought_28 <|
z_putZ X dX12_endsThought_29 fl_X12_190 sm_0 ft_X12_5 rfl kb_0 o fun s10 o =>
z_vret (v := 0) X Y dX12_endsThought_32 o) fun o =>
z_sub (L1 := [(0, .ref (G.2.2.1 0)), (1, .int (pI 0))]) X [1, 0] rfl <|
z_iter (fun (x1 : Int) s2 => rg x1 → At E s2 2 [(0, .ref (G.2.2.1 0)), (1, .int (pI x1))] []) o (fun x1 s2 o r3 =>
z_iload_n X 1 dX12_endsThought_2 rfl <|
z_sipush X dX12_endsThought_3 si_161 <|
z_icmp_ge (tgt := 27) X dX12_endsThought_6 (by decide) r3 kc_161 o (fun o =>
z_sub (L1 := [(0, .ref (G.2.2.1 0))]) X [0] rfl <|
ok_some o trivial) fun o =>
z_aload_n X 0 dX12_endsThought_9 rfl <|
z_getR (q := 1) X dX12_endsThought_10 fl_X12_7 sm_0 rfl <|
z_iload_n X 1 dX12_endsThought_13 rfl <|
z_aload_n X 0 dX12_endsThought_14 rfl <|
z_getR (q := 3) X dX12_endsThought_15 fl_X12_16 sm_0 rfl <|
z_iload_n X 1 dX12_endsThought_18 rfl <|
z_iald X dX12_endsThought_19 sm_3 r3 o fun v4 r5 o =>
z_iast X dX12_endsThought_20 sm_1 r3 r5 o fun s6 o =>
z_iinc (L1 := [(1, .int (pI (w32 (x1 + 1)))), (0, .ref (G.2.2.1 0))]) X 1 dX12_endsThought_21 rfl (by decide) rfl <|
z_goto (tgt := 2) X dX12_endsThought_24 (by decide) <|
z_sub (L1 := [(0, .ref (G.2.2.1 0)), (1, .int (pI (w32 (x1 + 1))))]) X [1, 0] rfl <|
ok_some o (w32_rg _)) kc_0 : At E s0 0 [(0, .ref (G.2.2.1 0))] [])
set_option maxHeartbeats 4000000 in
set_option maxRecDepth 100000 in
theorem ct_X12_has (p1 : Int) (p2 : Int) (hp1 : rg p1) (hp2 : rg p2) (G : Gw) (s0 : St) (r : Int) (σ1 : St) (e : fX12_has p1 p2 s0 = some (r, σ1)) : Ct yX12_has cX12_has 3 (some .boolean) 0 0 SM G [.ref (G.2.2.1 0), .int (pI p1), .int (pI p2)] s0 (QI SM G r r01 σ1) :=
  Ct.of (by decide +kernel) (Nat.le_of_ble_eq_true rfl) fun E X Y => by
    have o : Ok (fX12_has p1 p2 s0) (fun x σ' => x = r ∧ σ' = σ1) := ⟨r, σ1, e, rfl, rfl⟩
    unfold fX12_has at o
    exact (
z_iload_n X 1 dX12_has_0 rfl <|
z_iload_n X 2 dX12_has_1 rfl <|
z_ishr X dX12_has_2 <|
z_iconst X dX12_has_3 <|
z_iand X dX12_has_4 <|
z_iconst X dX12_has_5 <|
z_icmp_ne (tgt := 13) X dX12_has_6 (by decide) (int_rg _) kc_1 o (fun o =>
z_iconst X dX12_has_13 <|
z_zret X Y dX12_has_14 o kb_0 kb_0) fun o =>
z_iconst X dX12_has_9 <|
z_goto (tgt := 14) X dX12_has_10 (by decide) <|
z_zret X Y dX12_has_14 o kb_1 kb_1 : At E s0 0 [(0, .ref (G.2.2.1 0)), (1, .int (pI p1)), (2, .int (pI p2))] [])
set_option maxHeartbeats 4000000 in
set_option maxRecDepth 100000 in
theorem ct_X12_engages (p1 : Int) (hp1 : rg p1) (G : Gw) (s0 : St) (r : Int) (σ1 : St) (e : fX12_engages p1 s0 = some (r, σ1)) : Ct yX12_engages cX12_engages 7 none 1 22 SM G [.ref (G.2.2.1 0), .int (pI p1)] s0 (QV SM G σ1) :=
  Ct.of (by decide +kernel) (Nat.le_of_ble_eq_true rfl) fun E X Y => by
    have o : Ok (fX12_engages p1 s0) (fun x σ' => x = r ∧ σ' = σ1) := ⟨r, σ1, e, rfl, rfl⟩
    unfold fX12_engages at o
    exact (
z_iconst X dX12_engages_0 <|
z_iload_n X 1 dX12_engages_1 rfl <|
z_isub X dX12_engages_2 <|
z_istoreL_n (L1 := fun v1 => [(2, .int (pI v1)), (0, .ref (G.2.2.1 0)), (1, .int (pI p1))]) (R := rg) X dX12_engages_3 rfl (by decide) (fun _ => rfl) o (w32_rg _) fun v1 r2 o =>
z_iconst X dX12_engages_4 <|
z_istore_n (L1 := [(3, .int (pI 0)), (2, .int (pI v1)), (0, .ref (G.2.2.1 0)), (1, .int (pI p1))]) X dX12_engages_5 rfl (by decide) rfl <|
z_join o (fun (y8 : Unit) s9 => True → At E s9 31 [(0, .ref (G.2.2.1 0)), (1, .int (pI p1)), (2, .int (pI v1))] []) (fun y8 s9 o r10 =>
z_bipush X dX12_engages_31 bi_31 <|
z_istore_n (L1 := [(3, .int (pI 31)), (0, .ref (G.2.2.1 0)), (1, .int (pI p1)), (2, .int (pI v1))]) X dX12_engages_33 rfl (by decide) rfl <|
z_join o (fun (y46 : Unit) s47 => True → At E s47 186 [] []) (fun y46 s47 o r48 =>
z_vret (v := 0) X Y dX12_engages_186 o) fun o =>
z_sub (L1 := [(0, .ref (G.2.2.1 0)), (1, .int (pI p1)), (2, .int (pI v1)), (3, .int (pI 31))]) X [1, 2, 3, 0] rfl <|
z_iter (fun (x11 : Int) s12 => rg x11 → At E s12 34 [(0, .ref (G.2.2.1 0)), (1, .int (pI p1)), (2, .int (pI v1)), (3, .int (pI x11))] []) o (fun x11 s12 o r13 =>
z_iload_n X 3 dX12_engages_34 rfl <|
z_if_eq (tgt := 186) X dX12_engages_35 (by decide) r13 o (fun o =>
z_sub (L1 := []) X [] rfl <|
ok_some o trivial) fun o =>
z_iconst X dX12_engages_38 <|
z_istore (L1 := [(4, .int (pI 0)), (0, .ref (G.2.2.1 0)), (1, .int (pI p1)), (2, .int (pI v1)), (3, .int (pI x11))]) X dX12_engages_39 (by decide) rfl <|
z_join o (fun (y22 : Int) s23 => rg y22 → At E s23 60 [(0, .ref (G.2.2.1 0)), (1, .int (pI p1)), (2, .int (pI v1)), (3, .int (pI x11)), (4, .int (pI y22))] []) (fun y22 s23 o r24 =>
z_aload_n X 0 dX12_engages_60 rfl <|
z_getR (q := 25) X dX12_engages_61 fl_X12_86 sm_0 rfl <|
z_iconst X dX12_engages_64 <|
z_iconst X dX12_engages_65 <|
z_iload_n X 1 dX12_engages_66 rfl <|
z_imul X dX12_engages_67 <|
z_iload X 4 dX12_engages_68 rfl <|
z_iadd X dX12_engages_70 <|
z_imul X dX12_engages_71 <|
z_aload_n X 0 dX12_engages_72 rfl <|
z_getR (q := 27) X dX12_engages_73 fl_X12_92 sm_0 rfl <|
z_iload X 4 dX12_engages_76 rfl <|
z_iald X dX12_engages_78 sm_27 r24 o fun v25 r26 o =>
z_iadd X dX12_engages_79 <|
z_iald X dX12_engages_80 sm_25 (w32_rg _) o fun v27 r28 o =>
z_istore (L1 := [(5, .int (pI v27)), (0, .ref (G.2.2.1 0)), (1, .int (pI p1)), (2, .int (pI v1)), (3, .int (pI x11)), (4, .int (pI y22))]) X dX12_engages_81 (by decide) rfl <|
z_aload_n X 1 dX12_engages_83 rfl <|
z_getR (q := 27) X dX12_engages_84 fl_X12_92 sm_0 rfl <|
z_iload X 5 dX12_engages_87 rfl <|
z_aload_n X 1 dX12_engages_89 rfl <|
z_getR (q := 27) X dX12_engages_90 fl_X12_92 sm_0 rfl <|
z_iload X 5 dX12_engages_93 rfl <|
z_iald X dX12_engages_95 sm_27 r24 o fun v29 r30 o =>
z_iconst X dX12_engages_96 <|
z_iadd X dX12_engages_97 <|
z_iast X dX12_engages_98 sm_27 r24 (w32_rg _) o fun s31 o =>
z_aload_n X 1 dX12_engages_99 rfl <|
z_getR (q := 26) X dX12_engages_100 fl_X12_89 sm_0 rfl <|
z_iload X 0 dX12_engages_103 rfl <|
z_iald X dX12_engages_105 sm_26 r28 o fun v32 r33 o =>
z_istore (L1 := [(6, .int (pI v32)), (5, .int (pI v27)), (0, .ref (G.2.2.1 0)), (1, .int (pI p1)), (2, .int (pI v1)), (3, .int (pI x11)), (4, .int (pI y22))]) X dX12_engages_106 (by decide) rfl <|
z_iload X 0 dX12_engages_108 rfl <|
z_iconst X dX12_engages_110 <|
z_joix o (fun (y38 : Unit) s39 => True → At E s39 152 [(0, .ref (G.2.2.1 0)), (1, .int (pI p1)), (2, .int (pI v1)), (3, .int (pI x11)), (4, .int (pI y22)), (5, .int (pI v27)), (6, .int (pI v32))] []) (fun y38 s39 o r40 =>
z_aload_n X 0 dX12_engages_152 rfl <|
z_getR (q := 26) X dX12_engages_153 fl_X12_89 sm_0 rfl <|
z_iload X 5 dX12_engages_156 rfl <|
z_iload X 4 dX12_engages_158 rfl <|
z_iast X dX12_engages_160 sm_26 r28 r24 o fun s41 o =>
z_iload_n X 3 dX12_engages_161 rfl <|
z_iconst X dX12_engages_162 <|
z_iload X 4 dX12_engages_163 rfl <|
z_ishl X dX12_engages_165 <|
z_iconst X dX12_engages_166 <|
z_ixor X dX12_engages_167 <|
z_iand X dX12_engages_168 <|
z_istoreL_n (L1 := fun v42 => [(3, .int (pI v42)), (0, .ref (G.2.2.1 0)), (1, .int (pI p1)), (2, .int (pI v1)), (4, .int (pI y22)), (5, .int (pI v27)), (6, .int (pI v32))]) (R := rg) X dX12_engages_169 rfl (by decide) (fun _ => rfl) o (int_rg _) fun v42 r43 o =>
z_iload X 6 dX12_engages_170 rfl <|
z_iconst X dX12_engages_172 <|
z_icmp_eq (tgt := 183) X dX12_engages_173 (by decide) r33 kc_m1 o (fun o =>
z_goto (tgt := 34) X dX12_engages_183 (by decide) <|
z_sub (L1 := [(0, .ref (G.2.2.1 0)), (1, .int (pI p1)), (2, .int (pI v1)), (3, .int (pI v42))]) X [1, 2, 3, 0] rfl <|
ok_some o r43) fun o =>
z_iload_n X 0 dX12_engages_176 rfl <|
z_iconst X dX12_engages_177 <|
z_iload X 6 dX12_engages_178 rfl <|
z_ishl X dX12_engages_180 <|
z_ior X dX12_engages_181 <|
z_istoreL_n (L1 := fun v44 => [(3, .int (pI v44)), (0, .ref (G.2.2.1 0)), (1, .int (pI p1)), (2, .int (pI v1)), (4, .int (pI y22)), (5, .int (pI v27)), (6, .int (pI v32))]) (R := rg) X dX12_engages_182 rfl (by decide) (fun _ => rfl) o (int_rg _) fun v44 r45 o =>
z_goto (tgt := 34) X dX12_engages_183 (by decide) <|
z_sub (L1 := [(0, .ref (G.2.2.1 0)), (1, .int (pI p1)), (2, .int (pI v1)), (3, .int (pI v44))]) X [1, 2, 3, 0] rfl <|
ok_some o r45) fun o =>
z_icmp_eq (tgt := 152) X dX12_engages_111 (by decide) r33 kc_m1 o (fun o =>
z_sub (L1 := [(0, .ref (G.2.2.1 0)), (1, .int (pI p1)), (2, .int (pI v1)), (3, .int (pI x11)), (4, .int (pI y22)), (5, .int (pI v27)), (6, .int (pI v32))]) X [2, 3, 4, 5, 6, 1, 0] rfl <|
ok_some o trivial) fun o =>
z_aload_n X 2 dX12_engages_114 rfl <|
z_getR (q := 24) X dX12_engages_115 fl_X12_83 sm_0 rfl <|
z_iconst X dX12_engages_118 <|
z_iconst X dX12_engages_119 <|
z_iload_n X 4 dX12_engages_120 rfl <|
z_imul X dX12_engages_121 <|
z_iload X 1 dX12_engages_122 rfl <|
z_iadd X dX12_engages_124 <|
z_imul X dX12_engages_125 <|
z_iload X 0 dX12_engages_126 rfl <|
z_iadd X dX12_engages_128 <|
z_iald X dX12_engages_129 sm_24 (w32_rg _) o fun v34 r35 o =>
z_aload_n X 2 dX12_engages_130 rfl <|
z_getR (q := 24) X dX12_engages_131 fl_X12_83 sm_0 rfl <|
z_iconst X dX12_engages_134 <|
z_iconst X dX12_engages_135 <|
z_iload_n X 4 dX12_engages_136 rfl <|
z_imul X dX12_engages_137 <|
z_iload X 1 dX12_engages_138 rfl <|
z_iadd X dX12_engages_140 <|
z_imul X dX12_engages_141 <|
z_iload X 6 dX12_engages_142 rfl <|
z_iadd X dX12_engages_144 <|
z_iald X dX12_engages_145 sm_24 (w32_rg _) o fun v36 r37 o =>
z_icmp_ge (tgt := 152) X dX12_engages_146 (by decide) r35 r37 o (fun o =>
z_sub (L1 := [(0, .ref (G.2.2.1 0)), (1, .int (pI p1)), (2, .int (pI v1)), (3, .int (pI x11)), (4, .int (pI y22)), (5, .int (pI v27)), (6, .int (pI v32))]) X [2, 3, 4, 5, 6, 1, 0] rfl <|
ok_some o trivial) fun o =>
z_goto (tgt := 34) X dX12_engages_149 (by decide) <|
z_sub (L1 := [(0, .ref (G.2.2.1 0)), (1, .int (pI p1)), (2, .int (pI v1)), (3, .int (pI x11))]) X [2, 3, 4, 5] rfl <|
ok_some o r13) fun o =>
z_sub (L1 := [(0, .ref (G.2.2.1 0)), (1, .int (pI p1)), (2, .int (pI v1)), (3, .int (pI x11)), (4, .int (pI 0))]) X [1, 2, 3, 4, 0] rfl <|
z_iter (fun (x14 : Int) s15 => rg x14 → At E s15 41 [(0, .ref (G.2.2.1 0)), (1, .int (pI p1)), (2, .int (pI v1)), (3, .int (pI x11)), (4, .int (pI x14))] []) o (fun x14 s15 o r16 =>
z_aload_n X 0 dX12_engages_41 rfl <|
z_iload_n X 3 dX12_engages_42 rfl <|
z_iload X 4 dX12_engages_43 rfl <|
z_callvI X dX12_engages_45 q_2189 wX12_has sm_0 rfl (by decide) [.int (pI x11), .int (pI x14)] [] rfl rfl (Nat.le_of_ble_eq_true rfl) (fun r σ1 e => ct_X12_has x11 x14 r13 r16 G _ r σ1 e) o fun r17 s18 h19 o =>
z_if_ne (tgt := 60) X dX12_engages_48 (by decide) (r01_rg h19) o (fun o =>
ok_some o r16) fun o =>
z_iload X 4 dX12_engages_51 rfl <|
z_iconst X dX12_engages_53 <|
z_iadd X dX12_engages_54 <|
z_istoreL (L1 := fun v20 => [(4, .int (pI v20)), (0, .ref (G.2.2.1 0)), (1, .int (pI p1)), (2, .int (pI v1)), (3, .int (pI x11))]) (R := rg) X dX12_engages_55 (by decide) (fun _ => rfl) o (w32_rg _) fun v20 r21 o =>
z_goto (tgt := 41) X dX12_engages_57 (by decide) <|
z_sub (L1 := [(0, .ref (G.2.2.1 0)), (1, .int (pI p1)), (2, .int (pI v1)), (3, .int (pI x11)), (4, .int (pI v20))]) X [1, 2, 3, 4, 0] rfl <|
ok_some o r21) kc_0) kc_31) fun o =>
z_sub (L1 := [(0, .ref (G.2.2.1 0)), (1, .int (pI p1)), (2, .int (pI v1)), (3, .int (pI 0))]) X [2, 3, 1, 0] rfl <|
z_iter (fun (x3 : Int) s4 => rg x3 → At E s4 6 [(0, .ref (G.2.2.1 0)), (1, .int (pI p1)), (2, .int (pI v1)), (3, .int (pI x3))] []) o (fun x3 s4 o r5 =>
z_iload_n X 3 dX12_engages_6 rfl <|
z_iconst X dX12_engages_7 <|
z_icmp_ge (tgt := 31) X dX12_engages_8 (by decide) r5 kc_5 o (fun o =>
z_sub (L1 := [(0, .ref (G.2.2.1 0)), (1, .int (pI p1)), (2, .int (pI v1))]) X [0, 1, 2] rfl <|
ok_some o trivial) fun o =>
z_aload_n X 0 dX12_engages_11 rfl <|
z_getR (q := 26) X dX12_engages_12 fl_X12_89 sm_0 rfl <|
z_iload_n X 3 dX12_engages_15 rfl <|
z_iconst X dX12_engages_16 <|
z_iast X dX12_engages_17 sm_26 r5 kc_m1 o fun s6 o =>
z_aload_n X 0 dX12_engages_18 rfl <|
z_getR (q := 27) X dX12_engages_19 fl_X12_92 sm_0 rfl <|
z_iload_n X 3 dX12_engages_22 rfl <|
z_iconst X dX12_engages_23 <|
z_iast X dX12_engages_24 sm_27 r5 kc_0 o fun s7 o =>
z_iinc (L1 := [(3, .int (pI (w32 (x3 + 1)))), (0, .ref (G.2.2.1 0)), (1, .int (pI p1)), (2, .int (pI v1))]) X 3 dX12_engages_25 rfl (by decide) rfl <|
z_goto (tgt := 6) X dX12_engages_28 (by decide) <|
z_sub (L1 := [(0, .ref (G.2.2.1 0)), (1, .int (pI p1)), (2, .int (pI v1)), (3, .int (pI (w32 (x3 + 1))))]) X [1, 2, 3, 0] rfl <|
ok_some o (w32_rg _)) kc_0 : At E s0 0 [(0, .ref (G.2.2.1 0)), (1, .int (pI p1))] [])
set_option maxHeartbeats 4000000 in
set_option maxRecDepth 100000 in
theorem ct_X12_errs (p1 : Int) (hp1 : rg p1) (G : Gw) (s0 : St) (r : Int) (σ1 : St) (e : fX12_errs p1 s0 = some (r, σ1)) : Ct yX12_errs cX12_errs 2 (some .int) 0 0 SM G [.ref (G.2.2.1 0), .int (pI p1)] s0 (QI SM G r rg σ1) :=
  Ct.of (by decide +kernel) (Nat.le_of_ble_eq_true rfl) fun E X Y => by
    have o : Ok (fX12_errs p1 s0) (fun x σ' => x = r ∧ σ' = σ1) := ⟨r, σ1, e, rfl, rfl⟩
    unfold fX12_errs at o
    exact (
z_aload_n X 0 dX12_errs_0 rfl <|
z_iload_n X 1 dX12_errs_1 rfl <|
z_putI X dX12_errs_2 fl_X12_255 sm_0 ft_X12_31 rfl hp1 o fun s1 o =>
z_aload_n X 0 dX12_errs_5 rfl <|
z_aload_n X 0 dX12_errs_6 rfl <|
z_getI X dX12_errs_7 fl_X12_233 sm_0 rfl o fun v2 r3 o =>
z_putI X dX12_errs_10 fl_X12_258 sm_0 ft_X12_32 rfl r3 o fun s4 o =>
z_iconst X dX12_errs_13 <|
z_iret X Y dX12_errs_14 o kc_m1 : At E s0 0 [(0, .ref (G.2.2.1 0)), (1, .int (pI p1))] [])
set_option maxHeartbeats 4000000 in
set_option maxRecDepth 100000 in
theorem ct_X12_family (p1 : Int) (hp1 : rg p1) (G : Gw) (s0 : St) (r : Int) (σ1 : St) (e : fX12_family p1 s0 = some (r, σ1)) : Ct yX12_family cX12_family 2 (some .int) 1 23 SM G [.ref (G.2.2.1 0), .int (pI p1)] s0 (QI SM G r rg σ1) :=
  Ct.of (by decide +kernel) (Nat.le_of_ble_eq_true rfl) fun E X Y => by
    have o : Ok (fX12_family p1 s0) (fun x σ' => x = r ∧ σ' = σ1) := ⟨r, σ1, e, rfl, rfl⟩
    unfold fX12_family at o
    exact (
z_aload_n X 0 dX12_family_0 rfl <|
z_iconst X dX12_family_1 <|
z_putI X dX12_family_2 fl_X12_183 sm_0 ft_X12_0 rfl kc_0 o fun s1 o =>
z_iload_n X 1 dX12_family_5 rfl <|
z_iconst X dX12_family_6 <|
z_icmp_ne (tgt := 17) X dX12_family_7 (by decide) hp1 kc_m1 o (fun o =>
z_aload_n X 0 dX12_family_17 rfl <|
z_iload_n X 1 dX12_family_18 rfl <|
z_iconst X dX12_family_19 <|
z_bipush X dX12_family_20 bi_9 <|
z_callvI X dX12_family_22 q_1822 wX12_isIn sm_0 rfl (by decide) [.int (pI p1), .int (pI 1), .int (pI 9)] [] rfl rfl (Nat.le_of_ble_eq_true rfl) (fun r σ1 e => ct_X12_isIn p1 1 9 hp1 kc_1 kc_9 G _ r σ1 e) o fun r2 s3 h4 o =>
z_if_eq (tgt := 37) X dX12_family_25 (by decide) (r01_rg h4) o (fun o =>
z_iconst X dX12_family_37 <|
z_iret X Y dX12_family_38 o kc_m1) fun o =>
z_aload_n X 0 dX12_family_28 rfl <|
z_getI X dX12_family_29 fl_X12_500 sm_0 rfl o fun v5 r6 o =>
z_bipush X dX12_family_32 bi_8 <|
z_icmp_ne (tgt := 39) X dX12_family_34 (by decide) r6 kc_8 o (fun o =>
z_aload_n X 0 dX12_family_39 rfl <|
z_getR (q := 36) X dX12_family_40 fl_X12_119 sm_0 rfl <|
z_aload_n X 0 dX12_family_43 rfl <|
z_getI X dX12_family_44 fl_X12_500 sm_0 rfl o fun v7 r8 o =>
z_iload_n X 1 dX12_family_47 rfl <|
z_iast X dX12_family_48 sm_36 r8 hp1 o fun s9 o =>
z_aload_n X 0 dX12_family_49 rfl <|
z_aload_n X 0 dX12_family_50 rfl <|
z_getI X dX12_family_51 fl_X12_500 sm_0 rfl o fun v10 r11 o =>
z_iconst X dX12_family_54 <|
z_iadd X dX12_family_55 <|
z_putI X dX12_family_56 fl_X12_500 sm_0 ft_X12_58 rfl (w32_rg _) o fun s12 o =>
z_aload_n X 0 dX12_family_59 rfl <|
z_getI X dX12_family_60 fl_X12_500 sm_0 rfl o fun v13 r14 o =>
z_iret X Y dX12_family_63 o r14) fun o =>
z_iconst X dX12_family_37 <|
z_iret X Y dX12_family_38 o kc_m1) fun o =>
z_aload_n X 0 dX12_family_10 rfl <|
z_iconst X dX12_family_11 <|
z_putI X dX12_family_12 fl_X12_500 sm_0 ft_X12_58 rfl kc_0 o fun s15 o =>
z_iconst X dX12_family_15 <|
z_iret X Y dX12_family_16 o kc_0 : At E s0 0 [(0, .ref (G.2.2.1 0)), (1, .int (pI p1))] [])
