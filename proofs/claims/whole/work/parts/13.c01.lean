set_option maxHeartbeats 4000000 in
set_option maxRecDepth 100000 in
theorem ct_X11_act (p1 : Int) (p2 : Int) (p3 : Int) (hp1 : rg p1) (hp2 : rg p2) (hp3 : rg p3) (G : Gw) (s0 : St) (r : Int) (σ1 : St) (e : fX11_act p1 p2 p3 s0 = some (r, σ1)) : Ct yX11_act cX11_act 4 (some .boolean) 5 120 SX G [.ref (G.2.2.1 0), .int (pI p1), .int (pI p2), .int (pI p3)] s0 (QI SX G r r01 σ1) :=
  Ct.of (by decide +kernel) (Nat.le_of_ble_eq_true rfl) fun E X Y => by
    have o : Ok (fX11_act p1 p2 p3 s0) (fun x σ' => x = r ∧ σ' = σ1) := ⟨r, σ1, e, rfl, rfl⟩
    unfold fX11_act at o
    exact (
z_iload_n X 1 dX11_act_0 rfl <|
z_if_ne (tgt := 11) X dX11_act_1 (by decide) hp1 o (fun o =>
z_iload_n X 1 dX11_act_11 rfl <|
z_iconst X dX11_act_12 <|
z_icmp_ne (tgt := 22) X dX11_act_13 (by decide) hp1 kc_1 o (fun o =>
z_iload_n X 1 dX11_act_22 rfl <|
z_iconst X dX11_act_23 <|
z_icmp_ne (tgt := 33) X dX11_act_24 (by decide) hp1 kc_2 o (fun o =>
z_iload_n X 1 dX11_act_33 rfl <|
z_iconst X dX11_act_34 <|
z_icmp_ne (tgt := 51) X dX11_act_35 (by decide) hp1 kc_3 o (fun o =>
z_iconst X dX11_act_51 <|
z_zret X Y dX11_act_52 o kb_0 kb_0) fun o =>
z_aload_n X 0 dX11_act_38 rfl <|
z_iload_n X 2 dX11_act_39 rfl <|
z_iload_n X 3 dX11_act_40 rfl <|
z_callvI X dX11_act_41 q_775 wX11_fillByHand sx_0 rfl (by decide) [.int (pI p2), .int (pI p3)] [] rfl rfl (Nat.le_of_ble_eq_true rfl) (fun r σ1 e => ct_X11_fillByHand p2 p3 hp2 hp3 G _ r σ1 e) o fun r1 s2 h3 o =>
z_if_eq (tgt := 51) X dX11_act_44 (by decide) (r01_rg h3) o (fun o =>
z_iconst X dX11_act_51 <|
z_zret X Y dX11_act_52 o kb_0 kb_0) fun o =>
z_iconst X dX11_act_47 <|
z_goto (tgt := 52) X dX11_act_48 (by decide) <|
z_zret X Y dX11_act_52 o kb_1 kb_1) fun o =>
z_aload_n X 0 dX11_act_27 rfl <|
z_iload_n X 2 dX11_act_28 rfl <|
z_callvI X dX11_act_29 q_766 wX11_sweepByHand sx_0 rfl (by decide) [.int (pI p2)] [] rfl rfl (Nat.le_of_ble_eq_true rfl) (fun r σ1 e => ct_X11_sweepByHand p2 hp2 G _ r σ1 e) o fun r4 s5 h6 o =>
z_zret X Y dX11_act_32 o h6 h6) fun o =>
z_aload_n X 0 dX11_act_16 rfl <|
z_iload_n X 2 dX11_act_17 rfl <|
z_callvI X dX11_act_18 q_758 wX11_riseByHand sx_0 rfl (by decide) [.int (pI p2)] [] rfl rfl (Nat.le_of_ble_eq_true rfl) (fun r σ1 e => ct_X11_riseByHand p2 hp2 G _ r σ1 e) o fun r7 s8 h9 o =>
z_zret X Y dX11_act_21 o h9 h9) fun o =>
z_aload_n X 0 dX11_act_4 rfl <|
z_iload_n X 2 dX11_act_5 rfl <|
z_iload_n X 3 dX11_act_6 rfl <|
z_callvI X dX11_act_7 q_720 wX11_sitByHand sx_0 rfl (by decide) [.int (pI p2), .int (pI p3)] [] rfl rfl (Nat.le_of_ble_eq_true rfl) (fun r σ1 e => ct_X11_sitByHand p2 p3 hp2 hp3 G _ r σ1 e) o fun r10 s11 h12 o =>
z_zret X Y dX11_act_10 o h12 h12 : At E s0 0 [(0, .ref (G.2.2.1 0)), (1, .int (pI p1)), (2, .int (pI p2)), (3, .int (pI p3))] [])
set_option maxHeartbeats 4000000 in
set_option maxRecDepth 100000 in
theorem ct_X6_add (S : List Kd) (ro rc rn : Nat) (p1 : Int) (hR : isR S ro rc rn) (hp1 : rg p1) (G : Gw) (s0 : St) (r : Int) (σ1 : St) (e : fX6_add ro rc rn p1 s0 = some (r, σ1)) : Ct yX6_add cX6_add 2 (some .int) 0 0 S G [.ref (G.2.2.1 ro), .int (pI p1)] s0 (QI S G r rg σ1) :=
  Ct.of (by decide +kernel) (Nat.le_of_ble_eq_true rfl) fun E X Y => by
    have o : Ok (fX6_add ro rc rn p1 s0) (fun x σ' => x = r ∧ σ' = σ1) := ⟨r, σ1, e, rfl, rfl⟩
    unfold fX6_add at o
    exact (
z_aload_n X 0 dX6_add_0 rfl <|
z_getI X dX6_add_1 fl_X6_9 hR.1 rfl o fun v1 r2 o =>
z_iconst X dX6_add_4 <|
z_icmp_ne (tgt := 20) X dX6_add_5 (by decide) r2 kc_1 o (fun o =>
z_iconst X dX6_add_20 <|
z_iret X Y dX6_add_21 o kc_m1) fun o =>
z_aload_n X 0 dX6_add_8 rfl <|
z_getI X dX6_add_9 fl_X6_19 hR.1 rfl o fun v3 r4 o =>
z_aload_n X 0 dX6_add_12 rfl <|
z_getR (q := rc) X dX6_add_13 fl_X6_15 hR.1 rfl <|
z_alen X dX6_add_16 hR.2.1 <|
z_icmp_lt (tgt := 22) X dX6_add_17 (by decide) r4 (nrg hR.2.2) o (fun o =>
z_aload_n X 0 dX6_add_22 rfl <|
z_getR (q := rc) X dX6_add_23 fl_X6_15 hR.1 rfl <|
z_aload_n X 0 dX6_add_26 rfl <|
z_getI X dX6_add_27 fl_X6_19 hR.1 rfl o fun v5 r6 o =>
z_iload_n X 1 dX6_add_30 rfl <|
z_iast X dX6_add_31 hR.2.1 r6 hp1 o fun s7 o =>
z_aload_n X 0 dX6_add_32 rfl <|
z_dup X dX6_add_33 rfl <|
z_getI X dX6_add_34 fl_X6_19 hR.1 rfl o fun v8 r9 o =>
z_iconst X dX6_add_37 <|
z_iadd X dX6_add_38 <|
z_putI X dX6_add_39 fl_X6_19 hR.1 ft_X6_2 rfl (w32_rg _) o fun s10 o =>
z_aload_n X 0 dX6_add_42 rfl <|
z_getI X dX6_add_43 fl_X6_19 hR.1 rfl o fun v11 r12 o =>
z_iret X Y dX6_add_46 o r12) fun o =>
z_iconst X dX6_add_20 <|
z_iret X Y dX6_add_21 o kc_m1 : At E s0 0 [(0, .ref (G.2.2.1 ro)), (1, .int (pI p1))] [])
set_option maxHeartbeats 4000000 in
set_option maxRecDepth 100000 in
theorem ct_X6_clear (S : List Kd) (ro rc rn : Nat) (hR : isR S ro rc rn) (G : Gw) (s0 : St) (r : Int) (σ1 : St) (e : fX6_clear ro rc rn s0 = some (r, σ1)) : Ct yX6_clear cX6_clear 1 (some .int) 0 0 S G [.ref (G.2.2.1 ro)] s0 (QI S G r rg σ1) :=
  Ct.of (by decide +kernel) (Nat.le_of_ble_eq_true rfl) fun E X Y => by
    have o : Ok (fX6_clear ro rc rn s0) (fun x σ' => x = r ∧ σ' = σ1) := ⟨r, σ1, e, rfl, rfl⟩
    unfold fX6_clear at o
    exact (
z_aload_n X 0 dX6_clear_0 rfl <|
z_iconst X dX6_clear_1 <|
z_putI X dX6_clear_2 fl_X6_19 hR.1 ft_X6_2 rfl kc_0 o fun s1 o =>
z_iconst X dX6_clear_5 <|
z_iret X Y dX6_clear_6 o kc_0 : At E s0 0 [(0, .ref (G.2.2.1 ro))] [])
set_option maxHeartbeats 4000000 in
set_option maxRecDepth 100000 in
theorem ct_X11_board (p1 : Int) (hp1 : rg p1) (G : Gw) (s0 : St) (r : Int) (σ1 : St) (e : fX11_board p1 s0 = some (r, σ1)) : Ct yX11_board cX11_board 2 (some .int) 1 22 SX G [.ref (G.2.2.1 0), .int (pI p1)] s0 (QI SX G r rg σ1) :=
  Ct.of (by decide +kernel) (Nat.le_of_ble_eq_true rfl) fun E X Y => by
    have o : Ok (fX11_board p1 s0) (fun x σ' => x = r ∧ σ' = σ1) := ⟨r, σ1, e, rfl, rfl⟩
    unfold fX11_board at o
    exact (
z_iload_n X 1 dX11_board_0 rfl <|
z_iconst X dX11_board_1 <|
z_icmp_ne (tgt := 16) X dX11_board_2 (by decide) hp1 kc_m1 o (fun o =>
z_iload_n X 1 dX11_board_16 rfl <|
z_iconst X dX11_board_17 <|
z_bipush X dX11_board_18 bi_99 <|
z_callsI X dX11_board_20 q_681 wX11_within  (by decide) [.int (pI p1), .int (pI 0), .int (pI 99)] [] rfl rfl (Nat.le_of_ble_eq_true rfl) (fun r σ1 e => ct_X11_within p1 0 99 hp1 kc_0 kc_99 G _ r σ1 e) o fun r1 s2 h3 o =>
z_if_eq (tgt := 40) X dX11_board_23 (by decide) (r01_rg h3) o (fun o =>
z_iconst X dX11_board_40 <|
z_iret X Y dX11_board_41 o kc_m1) fun o =>
z_aload_n X 0 dX11_board_26 rfl <|
z_getR (q := 17) X dX11_board_27 fl_X11_26 sx_0 rfl <|
z_getRN (q := 36) X dX11_board_30 fn_X11_322 sx_17 rfl <|
z_iload_n X 1 dX11_board_33 rfl <|
z_callvI X dX11_board_34 q_1297 wX6_add sx_36 rfl (by decide) [.int (pI p1)] [] rfl rfl (Nat.le_of_ble_eq_true rfl) (fun r σ1 e => ct_X6_add SX 36 37 12 p1 ⟨sx_36, sx_37, (by decide)⟩ hp1 G _ r σ1 e) o fun r4 s5 h6 o =>
z_goto (tgt := 41) X dX11_board_37 (by decide) <|
z_iret X Y dX11_board_41 o h6) fun o =>
z_aload_n X 0 dX11_board_5 rfl <|
z_getR (q := 17) X dX11_board_6 fl_X11_26 sx_0 rfl <|
z_getRN (q := 36) X dX11_board_9 fn_X11_322 sx_17 rfl <|
z_callvI X dX11_board_12 q_1255 wX6_clear sx_36 rfl (by decide) [] [] rfl rfl (Nat.le_of_ble_eq_true rfl) (fun r σ1 e => ct_X6_clear SX 36 37 12 ⟨sx_36, sx_37, (by decide)⟩ G _ r σ1 e) o fun r7 s8 h9 o =>
z_iret X Y dX11_board_15 o h9 : At E s0 0 [(0, .ref (G.2.2.1 0)), (1, .int (pI p1))] [])
set_option maxHeartbeats 4000000 in
set_option maxRecDepth 100000 in
theorem ct_X11_book (p1 : Int) (p2 : Int) (hp1 : rg p1) (hp2 : rg p2) (G : Gw) (s0 : St) (r : Int) (σ1 : St) (e : fX11_book p1 p2 s0 = some (r, σ1)) : Ct yX11_book cX11_book 3 (some .int) 1 22 SX G [.ref (G.2.2.1 0), .int (pI p1), .int (pI p2)] s0 (QI SX G r rg σ1) :=
  Ct.of (by decide +kernel) (Nat.le_of_ble_eq_true rfl) fun E X Y => by
    have o : Ok (fX11_book p1 p2 s0) (fun x σ' => x = r ∧ σ' = σ1) := ⟨r, σ1, e, rfl, rfl⟩
    unfold fX11_book at o
    exact (
z_aload_n X 0 dX11_book_0 rfl <|
z_getR (q := 50) X dX11_book_1 fl_X11_35 sx_0 rfl <|
z_iload_n X 1 dX11_book_4 rfl <|
z_iload_n X 2 dX11_book_5 rfl <|
z_callvI X dX11_book_6 q_1185 wX6_get sx_50 rfl (by decide) [.int (pI p1), .int (pI p2)] [] rfl rfl (Nat.le_of_ble_eq_true rfl) (fun r σ1 e => ct_X6_get SX 50 51 750 p1 p2 ⟨sx_50, sx_51, (by decide)⟩ hp1 hp2 G _ r σ1 e) o fun r1 s2 h3 o =>
z_iret X Y dX11_book_9 o h3 : At E s0 0 [(0, .ref (G.2.2.1 0)), (1, .int (pI p1)), (2, .int (pI p2))] [])
set_option maxHeartbeats 4000000 in
set_option maxRecDepth 100000 in
theorem ct_X11_cat (p1 : Int) (p2 : Int) (p3 : Int) (hp1 : rg p1) (hp2 : rg p2) (hp3 : rg p3) (G : Gw) (s0 : St) (r : Int) (σ1 : St) (e : fX11_cat p1 p2 p3 s0 = some (r, σ1)) : Ct yX11_cat cX11_cat 6 (some .int) 2 52 SX G [.ref (G.2.2.1 0), .int (pI p1), .int (pI p2), .int (pI p3)] s0 (QI SX G r rg σ1) :=
  Ct.of (by decide +kernel) (Nat.le_of_ble_eq_true rfl) fun E X Y => by
    have o : Ok (fX11_cat p1 p2 p3 s0) (fun x σ' => x = r ∧ σ' = σ1) := ⟨r, σ1, e, rfl, rfl⟩
    unfold fX11_cat at o
    exact (
z_iload_n X 1 dX11_cat_0 rfl <|
z_iconst X dX11_cat_1 <|
z_icmp_ne (tgt := 16) X dX11_cat_2 (by decide) hp1 kc_m1 o (fun o =>
z_iload_n X 1 dX11_cat_16 rfl <|
z_iconst X dX11_cat_17 <|
z_bipush X dX11_cat_18 bi_7 <|
z_callsI X dX11_cat_20 q_681 wX11_within  (by decide) [.int (pI p1), .int (pI 0), .int (pI 7)] [] rfl rfl (Nat.le_of_ble_eq_true rfl) (fun r σ1 e => ct_X11_within p1 0 7 hp1 kc_0 kc_7 G _ r σ1 e) o fun r1 s2 h3 o =>
z_if_eq (tgt := 47) X dX11_cat_23 (by decide) (r01_rg h3) o (fun o =>
z_iconst X dX11_cat_47 <|
z_iret X Y dX11_cat_48 o kc_m1) fun o =>
z_iload_n X 2 dX11_cat_26 rfl <|
z_iconst X dX11_cat_27 <|
z_bipush X dX11_cat_28 bi_7 <|
z_callsI X dX11_cat_30 q_681 wX11_within  (by decide) [.int (pI p2), .int (pI 0), .int (pI 7)] [] rfl rfl (Nat.le_of_ble_eq_true rfl) (fun r σ1 e => ct_X11_within p2 0 7 hp2 kc_0 kc_7 G _ r σ1 e) o fun r4 s5 h6 o =>
z_if_eq (tgt := 47) X dX11_cat_33 (by decide) (r01_rg h6) o (fun o =>
z_iconst X dX11_cat_47 <|
z_iret X Y dX11_cat_48 o kc_m1) fun o =>
z_iload_n X 3 dX11_cat_36 rfl <|
z_iconst X dX11_cat_37 <|
z_sipush X dX11_cat_38 si_9999 <|
z_callsI X dX11_cat_41 q_681 wX11_within  (by decide) [.int (pI p3), .int (pI 0), .int (pI 9999)] [] rfl rfl (Nat.le_of_ble_eq_true rfl) (fun r σ1 e => ct_X11_within p3 0 9999 hp3 kc_0 kc_9999 G _ r σ1 e) o fun r7 s8 h9 o =>
z_if_ne (tgt := 49) X dX11_cat_44 (by decide) (r01_rg h9) o (fun o =>
z_iload_n X 3 dX11_cat_49 rfl <|
z_bipush X dX11_cat_50 bi_100 <|
z_idiv X dX11_cat_52 hp3 kc_100 o fun z10 o =>
z_istoreL (L1 := fun v11 => [(4, .int (pI v11)), (0, .ref (G.2.2.1 0)), (1, .int (pI p1)), (2, .int (pI p2)), (3, .int (pI p3))]) (R := rg) X dX11_cat_53 (by decide) (fun _ => rfl) o (w32_rg _) fun v11 r12 o =>
z_iload_n X 4 dX11_cat_55 rfl <|
z_bipush X dX11_cat_56 bi_100 <|
z_irem X dX11_cat_58 hp3 kc_100 o fun z13 o =>
z_istoreL (L1 := fun v14 => [(5, .int (pI v14)), (4, .int (pI v11)), (0, .ref (G.2.2.1 0)), (1, .int (pI p1)), (2, .int (pI p2)), (3, .int (pI p3))]) (R := rg) X dX11_cat_59 (by decide) (fun _ => rfl) o (irm_rg kc_100 z13) fun v14 r15 o =>
z_iload X 0 dX11_cat_61 rfl <|
z_iload X 1 dX11_cat_63 rfl <|
z_icmp_le (tgt := 88) X dX11_cat_65 (by decide) r15 r12 o (fun o =>
z_iconst X dX11_cat_88 <|
z_iret X Y dX11_cat_89 o kc_m1) fun o =>
z_aload_n X 2 dX11_cat_68 rfl <|
z_getR (q := 17) X dX11_cat_69 fl_X11_26 sx_0 rfl <|
z_getRN (q := 32) X dX11_cat_72 fn_X11_305 sx_17 rfl <|
z_iload_n X 3 dX11_cat_75 rfl <|
z_iload_n X 4 dX11_cat_76 rfl <|
z_iload X 1 dX11_cat_77 rfl <|
z_iload X 0 dX11_cat_79 rfl <|
z_iconst X dX11_cat_81 <|
z_callvI X dX11_cat_82 q_1256 wX6_add_ sx_32 rfl (by decide) [.int (pI p1), .int (pI p2), .int (pI v11), .int (pI v14), .int (pI 0)] [] rfl rfl (Nat.le_of_ble_eq_true rfl) (fun r σ1 e => ct_X6_add_ SX 32 33 48 p1 p2 v11 v14 0 ⟨sx_32, sx_33, (by decide)⟩ hp1 hp2 r12 r15 kc_0 G _ r σ1 e) o fun r16 s17 h18 o =>
z_goto (tgt := 89) X dX11_cat_85 (by decide) <|
z_iret X Y dX11_cat_89 o h18) fun o =>
z_iconst X dX11_cat_47 <|
z_iret X Y dX11_cat_48 o kc_m1) fun o =>
z_aload_n X 0 dX11_cat_5 rfl <|
z_getR (q := 17) X dX11_cat_6 fl_X11_26 sx_0 rfl <|
z_getRN (q := 32) X dX11_cat_9 fn_X11_305 sx_17 rfl <|
z_callvI X dX11_cat_12 q_1255 wX6_clear sx_32 rfl (by decide) [] [] rfl rfl (Nat.le_of_ble_eq_true rfl) (fun r σ1 e => ct_X6_clear SX 32 33 48 ⟨sx_32, sx_33, (by decide)⟩ G _ r σ1 e) o fun r19 s20 h21 o =>
z_iret X Y dX11_cat_15 o h21 : At E s0 0 [(0, .ref (G.2.2.1 0)), (1, .int (pI p1)), (2, .int (pI p2)), (3, .int (pI p3))] [])
set_option maxHeartbeats 4000000 in
set_option maxRecDepth 100000 in
theorem ct_X11_chair (p1 : Int) (p2 : Int) (hp1 : rg p1) (hp2 : rg p2) (G : Gw) (s0 : St) (r : Int) (σ1 : St) (e : fX11_chair p1 p2 s0 = some (r, σ1)) : Ct yX11_chair cX11_chair 3 (some .int) 2 52 SX G [.ref (G.2.2.1 0), .int (pI p1), .int (pI p2)] s0 (QI SX G r rg σ1) :=
  Ct.of (by decide +kernel) (Nat.le_of_ble_eq_true rfl) fun E X Y => by
    have o : Ok (fX11_chair p1 p2 s0) (fun x σ' => x = r ∧ σ' = σ1) := ⟨r, σ1, e, rfl, rfl⟩
    unfold fX11_chair at o
    exact (
z_iload_n X 1 dX11_chair_0 rfl <|
z_iconst X dX11_chair_1 <|
z_icmp_ne (tgt := 16) X dX11_chair_2 (by decide) hp1 kc_m1 o (fun o =>
z_iload_n X 1 dX11_chair_16 rfl <|
z_iconst X dX11_chair_17 <|
z_bipush X dX11_chair_18 bi_30 <|
z_callsI X dX11_chair_20 q_681 wX11_within  (by decide) [.int (pI p1), .int (pI 1), .int (pI 30)] [] rfl rfl (Nat.le_of_ble_eq_true rfl) (fun r σ1 e => ct_X11_within p1 1 30 hp1 kc_1 kc_30 G _ r σ1 e) o fun r1 s2 h3 o =>
z_if_eq (tgt := 35) X dX11_chair_23 (by decide) (r01_rg h3) o (fun o =>
z_iconst X dX11_chair_35 <|
z_iret X Y dX11_chair_36 o kc_m1) fun o =>
z_iload_n X 2 dX11_chair_26 rfl <|
z_if_lt (tgt := 35) X dX11_chair_27 (by decide) hp2 o (fun o =>
z_iconst X dX11_chair_35 <|
z_iret X Y dX11_chair_36 o kc_m1) fun o =>
z_iload_n X 2 dX11_chair_30 rfl <|
z_iload_n X 1 dX11_chair_31 rfl <|
z_icmp_lt (tgt := 37) X dX11_chair_32 (by decide) hp2 hp1 o (fun o =>
z_aload_n X 0 dX11_chair_37 rfl <|
z_getR (q := 17) X dX11_chair_38 fl_X11_26 sx_0 rfl <|
z_getRN (q := 30) X dX11_chair_41 fn_X11_289 sx_17 rfl <|
z_iload_n X 1 dX11_chair_44 rfl <|
z_iload_n X 2 dX11_chair_45 rfl <|
z_iconst X dX11_chair_46 <|
z_iconst X dX11_chair_47 <|
z_iconst X dX11_chair_48 <|
z_callvI X dX11_chair_49 q_1256 wX6_add_ sx_30 rfl (by decide) [.int (pI p1), .int (pI p2), .int (pI 0), .int (pI 0), .int (pI 0)] [] rfl rfl (Nat.le_of_ble_eq_true rfl) (fun r σ1 e => ct_X6_add_ SX 30 31 10 p1 p2 0 0 0 ⟨sx_30, sx_31, (by decide)⟩ hp1 hp2 kc_0 kc_0 kc_0 G _ r σ1 e) o fun r4 s5 h6 o =>
z_iret X Y dX11_chair_52 o h6) fun o =>
z_iconst X dX11_chair_35 <|
z_iret X Y dX11_chair_36 o kc_m1) fun o =>
z_aload_n X 0 dX11_chair_5 rfl <|
z_getR (q := 17) X dX11_chair_6 fl_X11_26 sx_0 rfl <|
z_getRN (q := 30) X dX11_chair_9 fn_X11_289 sx_17 rfl <|
z_callvI X dX11_chair_12 q_1255 wX6_clear sx_30 rfl (by decide) [] [] rfl rfl (Nat.le_of_ble_eq_true rfl) (fun r σ1 e => ct_X6_clear SX 30 31 10 ⟨sx_30, sx_31, (by decide)⟩ G _ r σ1 e) o fun r7 s8 h9 o =>
z_iret X Y dX11_chair_15 o h9 : At E s0 0 [(0, .ref (G.2.2.1 0)), (1, .int (pI p1)), (2, .int (pI p2))] [])
set_option maxHeartbeats 4000000 in
set_option maxRecDepth 100000 in
theorem ct_X11_changePerson (p1 : Int) (p2 : Int) (p3 : Int) (hp1 : rg p1) (hp2 : rg p2) (hp3 : rg p3) (G : Gw) (s0 : St) (r : Int) (σ1 : St) (e : fX11_changePerson p1 p2 p3 s0 = some (r, σ1)) : Ct yX11_changePerson cX11_changePerson 4 (some .boolean) 1 22 SX G [.ref (G.2.2.1 0), .int (pI p1), .int (pI p2), .int (pI p3)] s0 (QI SX G r r01 σ1) :=
  Ct.of (by decide +kernel) (Nat.le_of_ble_eq_true rfl) fun E X Y => by
    have o : Ok (fX11_changePerson p1 p2 p3 s0) (fun x σ' => x = r ∧ σ' = σ1) := ⟨r, σ1, e, rfl, rfl⟩
    unfold fX11_changePerson at o
    exact (
z_iload_n X 1 dX11_changePerson_0 rfl <|
z_iconst X dX11_changePerson_1 <|
z_joix o (fun (y1 : Unit) s2 => True → At E s2 12 [(0, .ref (G.2.2.1 0)), (1, .int (pI p1)), (2, .int (pI p2)), (3, .int (pI p3))] []) (fun y1 s2 o r3 =>
z_aload_n X 0 dX11_changePerson_12 rfl <|
z_getR (q := 3) X dX11_changePerson_13 fl_X11_19 sx_0 rfl <|
z_iload_n X 2 dX11_changePerson_16 rfl <|
z_callvI X dX11_changePerson_17 q_708 wX2_hasPerson sx_3 rfl (by decide) [.int (pI p2)] [] rfl rfl (Nat.le_of_ble_eq_true rfl) (fun r σ1 e => ct_X2_hasPerson p2 hp2 G _ r σ1 e) o fun r4 s5 h6 o =>
z_if_eq (tgt := 33) X dX11_changePerson_20 (by decide) (r01_rg h6) o (fun o =>
z_iconst X dX11_changePerson_33 <|
z_zret X Y dX11_changePerson_34 o kb_0 kb_0) fun o =>
z_iload_n X 3 dX11_changePerson_23 rfl <|
z_iconst X dX11_changePerson_24 <|
z_bipush X dX11_changePerson_25 bi_9 <|
z_callsI X dX11_changePerson_27 q_681 wX11_within  (by decide) [.int (pI p3), .int (pI 0), .int (pI 9)] [] rfl rfl (Nat.le_of_ble_eq_true rfl) (fun r σ1 e => ct_X11_within p3 0 9 hp3 kc_0 kc_9 G _ r σ1 e) o fun r7 s8 h9 o =>
z_if_ne (tgt := 35) X dX11_changePerson_30 (by decide) (r01_rg h9) o (fun o =>
z_iload_n X 1 dX11_changePerson_35 rfl <|
z_iconst X dX11_changePerson_36 <|
z_icmp_ne (tgt := 53) X dX11_changePerson_37 (by decide) hp1 kc_2 o (fun o =>
z_aload_n X 0 dX11_changePerson_53 rfl <|
z_getR (q := 3) X dX11_changePerson_54 fl_X11_19 sx_0 rfl <|
z_getRN (q := 10) X dX11_changePerson_57 fn_X11_151 sx_3 rfl <|
z_iload_n X 2 dX11_changePerson_60 rfl <|
z_iload_n X 3 dX11_changePerson_61 rfl <|
z_iast X dX11_changePerson_62 sx_10 hp2 hp3 o fun s10 o =>
z_iconst X dX11_changePerson_63 <|
z_zret X Y dX11_changePerson_64 o kb_1 kb_1) fun o =>
z_aload_n X 0 dX11_changePerson_40 rfl <|
z_getR (q := 3) X dX11_changePerson_41 fl_X11_19 sx_0 rfl <|
z_getRN (q := 9) X dX11_changePerson_44 fn_X11_148 sx_3 rfl <|
z_iload_n X 2 dX11_changePerson_47 rfl <|
z_iload_n X 3 dX11_changePerson_48 rfl <|
z_iast X dX11_changePerson_49 sx_9 hp2 hp3 o fun s11 o =>
z_goto (tgt := 63) X dX11_changePerson_50 (by decide) <|
z_iconst X dX11_changePerson_63 <|
z_zret X Y dX11_changePerson_64 o kb_1 kb_1) fun o =>
z_iconst X dX11_changePerson_33 <|
z_zret X Y dX11_changePerson_34 o kb_0 kb_0) fun o =>
z_icmp_eq (tgt := 12) X dX11_changePerson_2 (by decide) hp1 kc_2 o (fun o =>
ok_some o trivial) fun o =>
z_iload_n X 1 dX11_changePerson_5 rfl <|
z_iconst X dX11_changePerson_6 <|
z_icmp_eq (tgt := 12) X dX11_changePerson_7 (by decide) hp1 kc_3 o (fun o =>
ok_some o trivial) fun o =>
z_iconst X dX11_changePerson_10 <|
z_zret X Y dX11_changePerson_11 (ok_ret (ok_some o)) kb_0 kb_0 : At E s0 0 [(0, .ref (G.2.2.1 0)), (1, .int (pI p1)), (2, .int (pI p2)), (3, .int (pI p3))] [])
set_option maxHeartbeats 4000000 in
set_option maxRecDepth 100000 in
theorem ct_X11_changePorch (p1 : Int) (p2 : Int) (p3 : Int) (hp1 : rg p1) (hp2 : rg p2) (hp3 : rg p3) (G : Gw) (s0 : St) (r : Int) (σ1 : St) (e : fX11_changePorch p1 p2 p3 s0 = some (r, σ1)) : Ct yX11_changePorch cX11_changePorch 4 (some .boolean) 1 22 SX G [.ref (G.2.2.1 0), .int (pI p1), .int (pI p2), .int (pI p3)] s0 (QI SX G r r01 σ1) :=
  Ct.of (by decide +kernel) (Nat.le_of_ble_eq_true rfl) fun E X Y => by
    have o : Ok (fX11_changePorch p1 p2 p3 s0) (fun x σ' => x = r ∧ σ' = σ1) := ⟨r, σ1, e, rfl, rfl⟩
    unfold fX11_changePorch at o
    exact (
z_aload_n X 0 dX11_changePorch_0 rfl <|
z_getR (q := 3) X dX11_changePorch_1 fl_X11_19 sx_0 rfl <|
z_iload_n X 2 dX11_changePorch_4 rfl <|
z_callvI X dX11_changePorch_5 q_704 wX2_hasPorch sx_3 rfl (by decide) [.int (pI p2)] [] rfl rfl (Nat.le_of_ble_eq_true rfl) (fun r σ1 e => ct_X2_hasPorch p2 hp2 G _ r σ1 e) o fun r1 s2 h3 o =>
z_if_ne (tgt := 13) X dX11_changePorch_8 (by decide) (r01_rg h3) o (fun o =>
z_iload_n X 1 dX11_changePorch_13 rfl <|
z_if_ne (tgt := 41) X dX11_changePorch_14 (by decide) hp1 o (fun o =>
z_iload_n X 3 dX11_changePorch_41 rfl <|
z_iconst X dX11_changePorch_42 <|
z_icmp_eq (tgt := 59) X dX11_changePorch_43 (by decide) hp3 kc_m1 o (fun o =>
z_aload_n X 0 dX11_changePorch_59 rfl <|
z_getR (q := 3) X dX11_changePorch_60 fl_X11_19 sx_0 rfl <|
z_getRN (q := 7) X dX11_changePorch_63 fn_X11_145 sx_3 rfl <|
z_iload_n X 2 dX11_changePorch_66 rfl <|
z_iload_n X 3 dX11_changePorch_67 rfl <|
z_iast X dX11_changePorch_68 sx_7 hp2 hp3 o fun s4 o =>
z_iconst X dX11_changePorch_69 <|
z_zret X Y dX11_changePorch_70 o kb_1 kb_1) fun o =>
z_aload_n X 0 dX11_changePorch_46 rfl <|
z_getR (q := 3) X dX11_changePorch_47 fl_X11_19 sx_0 rfl <|
z_iload_n X 3 dX11_changePorch_50 rfl <|
z_callvI X dX11_changePorch_51 q_708 wX2_hasPerson sx_3 rfl (by decide) [.int (pI p3)] [] rfl rfl (Nat.le_of_ble_eq_true rfl) (fun r σ1 e => ct_X2_hasPerson p3 hp3 G _ r σ1 e) o fun r5 s6 h7 o =>
z_if_ne (tgt := 59) X dX11_changePorch_54 (by decide) (r01_rg h7) o (fun o =>
z_aload_n X 0 dX11_changePorch_59 rfl <|
z_getR (q := 3) X dX11_changePorch_60 fl_X11_19 sx_0 rfl <|
z_getRN (q := 7) X dX11_changePorch_63 fn_X11_145 sx_3 rfl <|
z_iload_n X 2 dX11_changePorch_66 rfl <|
z_iload_n X 3 dX11_changePorch_67 rfl <|
z_iast X dX11_changePorch_68 sx_7 hp2 hp3 o fun s8 o =>
z_iconst X dX11_changePorch_69 <|
z_zret X Y dX11_changePorch_70 o kb_1 kb_1) fun o =>
z_iconst X dX11_changePorch_57 <|
z_zret X Y dX11_changePorch_58 o kb_0 kb_0) fun o =>
z_iload_n X 3 dX11_changePorch_17 rfl <|
z_iconst X dX11_changePorch_18 <|
z_bipush X dX11_changePorch_19 bi_99 <|
z_callsI X dX11_changePorch_21 q_681 wX11_within  (by decide) [.int (pI p3), .int (pI 0), .int (pI 99)] [] rfl rfl (Nat.le_of_ble_eq_true rfl) (fun r σ1 e => ct_X11_within p3 0 99 hp3 kc_0 kc_99 G _ r σ1 e) o fun r9 s10 h11 o =>
z_if_ne (tgt := 29) X dX11_changePorch_24 (by decide) (r01_rg h11) o (fun o =>
z_aload_n X 0 dX11_changePorch_29 rfl <|
z_getR (q := 3) X dX11_changePorch_30 fl_X11_19 sx_0 rfl <|
z_getRN (q := 6) X dX11_changePorch_33 fn_X11_138 sx_3 rfl <|
z_iload_n X 2 dX11_changePorch_36 rfl <|
z_iload_n X 3 dX11_changePorch_37 rfl <|
z_iast X dX11_changePorch_38 sx_6 hp2 hp3 o fun s12 o =>
z_iconst X dX11_changePorch_39 <|
z_zret X Y dX11_changePorch_40 o kb_1 kb_1) fun o =>
z_iconst X dX11_changePorch_27 <|
z_zret X Y dX11_changePorch_28 o kb_0 kb_0) fun o =>
z_iconst X dX11_changePorch_11 <|
z_zret X Y dX11_changePorch_12 o kb_0 kb_0 : At E s0 0 [(0, .ref (G.2.2.1 0)), (1, .int (pI p1)), (2, .int (pI p2)), (3, .int (pI p3))] [])
set_option maxHeartbeats 4000000 in
set_option maxRecDepth 100000 in
theorem ct_X7_cut (p1 : Int) (hp1 : rg p1) (G : Gw) (s0 : St) (r : Int) (σ1 : St) (e : fX7_cut p1 s0 = some (r, σ1)) : Ct yX7_cut cX7_cut 2 (some .boolean) 0 0 SX G [.ref (G.2.2.1 1), .int (pI p1)] s0 (QI SX G r r01 σ1) :=
  Ct.of (by decide +kernel) (Nat.le_of_ble_eq_true rfl) fun E X Y => by
    have o : Ok (fX7_cut p1 s0) (fun x σ' => x = r ∧ σ' = σ1) := ⟨r, σ1, e, rfl, rfl⟩
    unfold fX7_cut at o
    exact (
z_iload_n X 1 dX7_cut_0 rfl <|
z_if_lt (tgt := 12) X dX7_cut_1 (by decide) hp1 o (fun o =>
z_iconst X dX7_cut_12 <|
z_zret X Y dX7_cut_13 o kb_0 kb_0) fun o =>
z_iload_n X 1 dX7_cut_4 rfl <|
z_aload_n X 0 dX7_cut_5 rfl <|
z_getI X dX7_cut_6 fl_X7_15 sx_1 rfl o fun v1 r2 o =>
z_icmp_le (tgt := 14) X dX7_cut_9 (by decide) hp1 r2 o (fun o =>
z_aload_n X 0 dX7_cut_14 rfl <|
z_iload_n X 1 dX7_cut_15 rfl <|
z_putI X dX7_cut_16 fl_X7_15 sx_1 ft_X7_1 rfl hp1 o fun s3 o =>
z_iconst X dX7_cut_19 <|
z_zret X Y dX7_cut_20 o kb_1 kb_1) fun o =>
z_iconst X dX7_cut_12 <|
z_zret X Y dX7_cut_13 o kb_0 kb_0 : At E s0 0 [(0, .ref (G.2.2.1 1)), (1, .int (pI p1))] [])
set_option maxHeartbeats 4000000 in
set_option maxRecDepth 100000 in
theorem ct_X11_end (p1 : Int) (hp1 : rg p1) (G : Gw) (s0 : St) (r : Int) (σ1 : St) (e : fX11_end p1 s0 = some (r, σ1)) : Ct yX11_end cX11_end 2 (some .boolean) 1 21 SX G [.ref (G.2.2.1 0), .int (pI p1)] s0 (QI SX G r r01 σ1) :=
  Ct.of (by decide +kernel) (Nat.le_of_ble_eq_true rfl) fun E X Y => by
    have o : Ok (fX11_end p1 s0) (fun x σ' => x = r ∧ σ' = σ1) := ⟨r, σ1, e, rfl, rfl⟩
    unfold fX11_end at o
    exact (
z_aload_n X 0 dX11_end_0 rfl <|
z_getR (q := 1) X dX11_end_1 fl_X11_12 sx_0 rfl <|
z_iload_n X 1 dX11_end_4 rfl <|
z_callvI X dX11_end_5 q_904 wX7_cut sx_1 rfl (by decide) [.int (pI p1)] [] rfl rfl (Nat.le_of_ble_eq_true rfl) (fun r σ1 e => ct_X7_cut p1 hp1 G _ r σ1 e) o fun r1 s2 h3 o =>
z_zret X Y dX11_end_8 o h3 h3 : At E s0 0 [(0, .ref (G.2.2.1 0)), (1, .int (pI p1))] [])
set_option maxHeartbeats 4000000 in
set_option maxRecDepth 100000 in
theorem ct_X11_family (p1 : Int) (hp1 : rg p1) (G : Gw) (s0 : St) (r : Int) (σ1 : St) (e : fX11_family p1 s0 = some (r, σ1)) : Ct yX11_family cX11_family 2 (some .int) 1 22 SX G [.ref (G.2.2.1 0), .int (pI p1)] s0 (QI SX G r rg σ1) :=
  Ct.of (by decide +kernel) (Nat.le_of_ble_eq_true rfl) fun E X Y => by
    have o : Ok (fX11_family p1 s0) (fun x σ' => x = r ∧ σ' = σ1) := ⟨r, σ1, e, rfl, rfl⟩
    unfold fX11_family at o
    exact (
z_iload_n X 1 dX11_family_0 rfl <|
z_iconst X dX11_family_1 <|
z_icmp_ne (tgt := 16) X dX11_family_2 (by decide) hp1 kc_m1 o (fun o =>
z_iload_n X 1 dX11_family_16 rfl <|
z_iconst X dX11_family_17 <|
z_bipush X dX11_family_18 bi_9 <|
z_callsI X dX11_family_20 q_681 wX11_within  (by decide) [.int (pI p1), .int (pI 1), .int (pI 9)] [] rfl rfl (Nat.le_of_ble_eq_true rfl) (fun r σ1 e => ct_X11_within p1 1 9 hp1 kc_1 kc_9 G _ r σ1 e) o fun r1 s2 h3 o =>
z_if_eq (tgt := 40) X dX11_family_23 (by decide) (r01_rg h3) o (fun o =>
z_iconst X dX11_family_40 <|
z_iret X Y dX11_family_41 o kc_m1) fun o =>
z_aload_n X 0 dX11_family_26 rfl <|
z_getR (q := 17) X dX11_family_27 fl_X11_26 sx_0 rfl <|
z_getRN (q := 34) X dX11_family_30 fn_X11_311 sx_17 rfl <|
z_iload_n X 1 dX11_family_33 rfl <|
z_callvI X dX11_family_34 q_1297 wX6_add sx_34 rfl (by decide) [.int (pI p1)] [] rfl rfl (Nat.le_of_ble_eq_true rfl) (fun r σ1 e => ct_X6_add SX 34 35 8 p1 ⟨sx_34, sx_35, (by decide)⟩ hp1 G _ r σ1 e) o fun r4 s5 h6 o =>
z_goto (tgt := 41) X dX11_family_37 (by decide) <|
z_iret X Y dX11_family_41 o h6) fun o =>
z_aload_n X 0 dX11_family_5 rfl <|
z_getR (q := 17) X dX11_family_6 fl_X11_26 sx_0 rfl <|
z_getRN (q := 34) X dX11_family_9 fn_X11_311 sx_17 rfl <|
z_callvI X dX11_family_12 q_1255 wX6_clear sx_34 rfl (by decide) [] [] rfl rfl (Nat.le_of_ble_eq_true rfl) (fun r σ1 e => ct_X6_clear SX 34 35 8 ⟨sx_34, sx_35, (by decide)⟩ G _ r σ1 e) o fun r7 s8 h9 o =>
z_iret X Y dX11_family_15 o h9 : At E s0 0 [(0, .ref (G.2.2.1 0)), (1, .int (pI p1))] [])
set_option maxHeartbeats 4000000 in
set_option maxRecDepth 100000 in
theorem ct_X5_faultPlace   (G : Gw) (s0 : St) (r : Int) (σ1 : St) (e : fX5_faultPlace s0 = some (r, σ1)) : Ct yX5_faultPlace cX5_faultPlace 1 (some .int) 0 0 SX G [.ref (G.2.2.1 139)] s0 (QI SX G r rg σ1) :=
  Ct.of (by decide +kernel) (Nat.le_of_ble_eq_true rfl) fun E X Y => by
    have o : Ok (fX5_faultPlace s0) (fun x σ' => x = r ∧ σ' = σ1) := ⟨r, σ1, e, rfl, rfl⟩
    unfold fX5_faultPlace at o
    exact (
z_aload_n X 0 dX5_faultPlace_0 rfl <|
z_getI X dX5_faultPlace_1 fl_X5_37 sx_139 rfl o fun v1 r2 o =>
z_iret X Y dX5_faultPlace_4 o r2 : At E s0 0 [(0, .ref (G.2.2.1 139))] [])
set_option maxHeartbeats 4000000 in
set_option maxRecDepth 100000 in
theorem ct_X5_faultKind   (G : Gw) (s0 : St) (r : Int) (σ1 : St) (e : fX5_faultKind s0 = some (r, σ1)) : Ct yX5_faultKind cX5_faultKind 1 (some .int) 0 0 SX G [.ref (G.2.2.1 139)] s0 (QI SX G r rg σ1) :=
  Ct.of (by decide +kernel) (Nat.le_of_ble_eq_true rfl) fun E X Y => by
    have o : Ok (fX5_faultKind s0) (fun x σ' => x = r ∧ σ' = σ1) := ⟨r, σ1, e, rfl, rfl⟩
    unfold fX5_faultKind at o
    exact (
z_aload_n X 0 dX5_faultKind_0 rfl <|
z_getI X dX5_faultKind_1 fl_X5_34 sx_139 rfl o fun v1 r2 o =>
z_iret X Y dX5_faultKind_4 o r2 : At E s0 0 [(0, .ref (G.2.2.1 139))] [])
set_option maxHeartbeats 4000000 in
set_option maxRecDepth 100000 in
theorem ct_X11_fault (p1 : Int) (hp1 : rg p1) (G : Gw) (s0 : St) (r : Int) (σ1 : St) (e : fX11_fault p1 s0 = some (r, σ1)) : Ct yX11_fault cX11_fault 2 (some .int) 1 20 SX G [.ref (G.2.2.1 0), .int (pI p1)] s0 (QI SX G r rg σ1) :=
  Ct.of (by decide +kernel) (Nat.le_of_ble_eq_true rfl) fun E X Y => by
    have o : Ok (fX11_fault p1 s0) (fun x σ' => x = r ∧ σ' = σ1) := ⟨r, σ1, e, rfl, rfl⟩
    unfold fX11_fault at o
    exact (
z_iload_n X 1 dX11_fault_0 rfl <|
z_if_ne (tgt := 12) X dX11_fault_1 (by decide) hp1 o (fun o =>
z_iload_n X 1 dX11_fault_12 rfl <|
z_iconst X dX11_fault_13 <|
z_icmp_ne (tgt := 27) X dX11_fault_14 (by decide) hp1 kc_1 o (fun o =>
z_iconst X dX11_fault_27 <|
z_iret X Y dX11_fault_28 o kc_m1) fun o =>
z_aload_n X 0 dX11_fault_17 rfl <|
z_getR (q := 139) X dX11_fault_18 fl_X11_51 sx_0 rfl <|
z_callvI X dX11_fault_21 q_1159 wX5_faultPlace sx_139 rfl (by decide) [] [] rfl rfl (Nat.le_of_ble_eq_true rfl) (fun r σ1 e => ct_X5_faultPlace G _ r σ1 e) o fun r1 s2 h3 o =>
z_goto (tgt := 28) X dX11_fault_24 (by decide) <|
z_iret X Y dX11_fault_28 o h3) fun o =>
z_aload_n X 0 dX11_fault_4 rfl <|
z_getR (q := 139) X dX11_fault_5 fl_X11_51 sx_0 rfl <|
z_callvI X dX11_fault_8 q_1155 wX5_faultKind sx_139 rfl (by decide) [] [] rfl rfl (Nat.le_of_ble_eq_true rfl) (fun r σ1 e => ct_X5_faultKind G _ r σ1 e) o fun r4 s5 h6 o =>
z_iret X Y dX11_fault_11 o h6 : At E s0 0 [(0, .ref (G.2.2.1 0)), (1, .int (pI p1))] [])
set_option maxHeartbeats 4000000 in
set_option maxRecDepth 100000 in
theorem ct_X7_hasRoom (p1 : Int) (hp1 : rg p1) (G : Gw) (s0 : St) (r : Int) (σ1 : St) (e : fX7_hasRoom p1 s0 = some (r, σ1)) : Ct yX7_hasRoom cX7_hasRoom 2 (some .boolean) 0 0 SX G [.ref (G.2.2.1 1), .int (pI p1)] s0 (QI SX G r r01 σ1) :=
  Ct.of (by decide +kernel) (Nat.le_of_ble_eq_true rfl) fun E X Y => by
    have o : Ok (fX7_hasRoom p1 s0) (fun x σ' => x = r ∧ σ' = σ1) := ⟨r, σ1, e, rfl, rfl⟩
    unfold fX7_hasRoom at o
    exact (
z_aload_n X 0 dX7_hasRoom_0 rfl <|
z_getI X dX7_hasRoom_1 fl_X7_15 sx_1 rfl o fun v1 r2 o =>
z_iload_n X 1 dX7_hasRoom_4 rfl <|
z_iadd X dX7_hasRoom_5 <|
z_sipush X dX7_hasRoom_6 si_400 <|
z_icmp_gt (tgt := 16) X dX7_hasRoom_9 (by decide) (w32_rg _) kc_400 o (fun o =>
z_iconst X dX7_hasRoom_16 <|
z_zret X Y dX7_hasRoom_17 o kb_0 kb_0) fun o =>
z_iconst X dX7_hasRoom_12 <|
z_goto (tgt := 17) X dX7_hasRoom_13 (by decide) <|
z_zret X Y dX7_hasRoom_17 o kb_1 kb_1 : At E s0 0 [(0, .ref (G.2.2.1 1)), (1, .int (pI p1))] [])
set_option maxHeartbeats 4000000 in
set_option maxRecDepth 100000 in
theorem ct_X7_append (p1 : Int) (hp1 : rg p1) (G : Gw) (s0 : St) (r : Int) (σ1 : St) (e : fX7_append p1 s0 = some (r, σ1)) : Ct yX7_append cX7_append 2 none 1 21 SX G [.ref (G.2.2.1 1), .int (pI p1)] s0 (QV SX G σ1) :=
  Ct.of (by decide +kernel) (Nat.le_of_ble_eq_true rfl) fun E X Y => by
    have o : Ok (fX7_append p1 s0) (fun x σ' => x = r ∧ σ' = σ1) := ⟨r, σ1, e, rfl, rfl⟩
    unfold fX7_append at o
    exact (
z_aload_n X 0 dX7_append_0 rfl <|
z_iconst X dX7_append_1 <|
z_callvI X dX7_append_2 q_895 wX7_hasRoom sx_1 rfl (by decide) [.int (pI 4)] [] rfl rfl (Nat.le_of_ble_eq_true rfl) (fun r σ1 e => ct_X7_hasRoom 4 kc_4 G _ r σ1 e) o fun r1 s2 h3 o =>
z_if_ne (tgt := 9) X dX7_append_5 (by decide) (r01_rg h3) o (fun o =>
z_aload_n X 0 dX7_append_9 rfl <|
z_getR (q := 2) X dX7_append_10 fl_X7_9 sx_1 rfl <|
z_aload_n X 0 dX7_append_13 rfl <|
z_getI X dX7_append_14 fl_X7_15 sx_1 rfl o fun v4 r5 o =>
z_iload_n X 1 dX7_append_17 rfl <|
z_bipush X dX7_append_18 bi_24 <|
z_ishr X dX7_append_20 <|
z_i2b X dX7_append_21 <|
z_bast X dX7_append_22 sx_2 r5 (i2b_bd _) o fun s6 o =>
z_aload_n X 0 dX7_append_23 rfl <|
z_getR (q := 2) X dX7_append_24 fl_X7_9 sx_1 rfl <|
z_aload_n X 0 dX7_append_27 rfl <|
z_getI X dX7_append_28 fl_X7_15 sx_1 rfl o fun v7 r8 o =>
z_iconst X dX7_append_31 <|
z_iadd X dX7_append_32 <|
z_iload_n X 1 dX7_append_33 rfl <|
z_bipush X dX7_append_34 bi_16 <|
z_ishr X dX7_append_36 <|
z_i2b X dX7_append_37 <|
z_bast X dX7_append_38 sx_2 (w32_rg _) (i2b_bd _) o fun s9 o =>
z_aload_n X 0 dX7_append_39 rfl <|
z_getR (q := 2) X dX7_append_40 fl_X7_9 sx_1 rfl <|
z_aload_n X 0 dX7_append_43 rfl <|
z_getI X dX7_append_44 fl_X7_15 sx_1 rfl o fun v10 r11 o =>
z_iconst X dX7_append_47 <|
z_iadd X dX7_append_48 <|
z_iload_n X 1 dX7_append_49 rfl <|
z_bipush X dX7_append_50 bi_8 <|
z_ishr X dX7_append_52 <|
z_i2b X dX7_append_53 <|
z_bast X dX7_append_54 sx_2 (w32_rg _) (i2b_bd _) o fun s12 o =>
z_aload_n X 0 dX7_append_55 rfl <|
z_getR (q := 2) X dX7_append_56 fl_X7_9 sx_1 rfl <|
z_aload_n X 0 dX7_append_59 rfl <|
z_getI X dX7_append_60 fl_X7_15 sx_1 rfl o fun v13 r14 o =>
z_iconst X dX7_append_63 <|
z_iadd X dX7_append_64 <|
z_iload_n X 1 dX7_append_65 rfl <|
z_i2b X dX7_append_66 <|
z_bast X dX7_append_67 sx_2 (w32_rg _) (i2b_bd _) o fun s15 o =>
z_aload_n X 0 dX7_append_68 rfl <|
z_dup X dX7_append_69 rfl <|
z_getI X dX7_append_70 fl_X7_15 sx_1 rfl o fun v16 r17 o =>
z_iconst X dX7_append_73 <|
z_iadd X dX7_append_74 <|
z_putI X dX7_append_75 fl_X7_15 sx_1 ft_X7_1 rfl (w32_rg _) o fun s18 o =>
z_vret (v := 0) X Y dX7_append_78 o) fun o =>
z_vret (v := 0) X Y dX7_append_8 o : At E s0 0 [(0, .ref (G.2.2.1 1)), (1, .int (pI p1))] [])
set_option maxHeartbeats 4000000 in
set_option maxRecDepth 100000 in
theorem ct_X7_length   (G : Gw) (s0 : St) (r : Int) (σ1 : St) (e : fX7_length s0 = some (r, σ1)) : Ct yX7_length cX7_length 1 (some .int) 0 0 SX G [.ref (G.2.2.1 1)] s0 (QI SX G r rg σ1) :=
  Ct.of (by decide +kernel) (Nat.le_of_ble_eq_true rfl) fun E X Y => by
    have o : Ok (fX7_length s0) (fun x σ' => x = r ∧ σ' = σ1) := ⟨r, σ1, e, rfl, rfl⟩
    unfold fX7_length at o
    exact (
z_aload_n X 0 dX7_length_0 rfl <|
z_getI X dX7_length_1 fl_X7_15 sx_1 rfl o fun v1 r2 o =>
z_iret X Y dX7_length_4 o r2 : At E s0 0 [(0, .ref (G.2.2.1 1))] [])
set_option maxHeartbeats 4000000 in
set_option maxRecDepth 100000 in
theorem ct_X11_feed (p1 : Int) (p2 : Int) (p3 : Int) (p4 : Int) (p5 : Int) (hp1 : rg p1) (hp2 : rg p2) (hp3 : rg p3) (hp4 : rg p4) (hp5 : rg p5) (G : Gw) (s0 : St) (r : Int) (σ1 : St) (e : fX11_feed p1 p2 p3 p4 p5 s0 = some (r, σ1)) : Ct yX11_feed cX11_feed 6 (some .int) 2 42 SX G [.ref (G.2.2.1 0), .int (pI p1), .int (pI p2), .int (pI p3), .int (pI p4), .int (pI p5)] s0 (QI SX G r rg σ1) :=
  Ct.of (by decide +kernel) (Nat.le_of_ble_eq_true rfl) fun E X Y => by
    have o : Ok (fX11_feed p1 p2 p3 p4 p5 s0) (fun x σ' => x = r ∧ σ' = σ1) := ⟨r, σ1, e, rfl, rfl⟩
    unfold fX11_feed at o
    exact (
z_aload_n X 0 dX11_feed_0 rfl <|
z_getR (q := 1) X dX11_feed_1 fl_X11_12 sx_0 rfl <|
z_bipush X dX11_feed_4 bi_20 <|
z_callvI X dX11_feed_6 q_887 wX7_hasRoom sx_1 rfl (by decide) [.int (pI 20)] [] rfl rfl (Nat.le_of_ble_eq_true rfl) (fun r σ1 e => ct_X7_hasRoom 20 kc_20 G _ r σ1 e) o fun r1 s2 h3 o =>
z_if_ne (tgt := 14) X dX11_feed_9 (by decide) (r01_rg h3) o (fun o =>
z_aload_n X 0 dX11_feed_14 rfl <|
z_getR (q := 1) X dX11_feed_15 fl_X11_12 sx_0 rfl <|
z_iload_n X 1 dX11_feed_18 rfl <|
z_callvV X dX11_feed_19 q_891 wX7_append sx_1 rfl (by decide) [.int (pI p1)] [] rfl rfl (Nat.le_of_ble_eq_true rfl) (fun r σ1 e => ct_X7_append p1 hp1 G _ r σ1 e) o fun r4 s5 o =>
z_aload_n X 0 dX11_feed_22 rfl <|
z_getR (q := 1) X dX11_feed_23 fl_X11_12 sx_0 rfl <|
z_iload_n X 2 dX11_feed_26 rfl <|
z_callvV X dX11_feed_27 q_891 wX7_append sx_1 rfl (by decide) [.int (pI p2)] [] rfl rfl (Nat.le_of_ble_eq_true rfl) (fun r σ1 e => ct_X7_append p2 hp2 G _ r σ1 e) o fun r7 s8 o =>
z_aload_n X 0 dX11_feed_30 rfl <|
z_getR (q := 1) X dX11_feed_31 fl_X11_12 sx_0 rfl <|
z_iload_n X 3 dX11_feed_34 rfl <|
z_callvV X dX11_feed_35 q_891 wX7_append sx_1 rfl (by decide) [.int (pI p3)] [] rfl rfl (Nat.le_of_ble_eq_true rfl) (fun r σ1 e => ct_X7_append p3 hp3 G _ r σ1 e) o fun r10 s11 o =>
z_aload_n X 0 dX11_feed_38 rfl <|
z_getR (q := 1) X dX11_feed_39 fl_X11_12 sx_0 rfl <|
z_iload X 4 dX11_feed_42 rfl <|
z_callvV X dX11_feed_44 q_891 wX7_append sx_1 rfl (by decide) [.int (pI p4)] [] rfl rfl (Nat.le_of_ble_eq_true rfl) (fun r σ1 e => ct_X7_append p4 hp4 G _ r σ1 e) o fun r13 s14 o =>
z_aload_n X 0 dX11_feed_47 rfl <|
z_getR (q := 1) X dX11_feed_48 fl_X11_12 sx_0 rfl <|
z_iload X 5 dX11_feed_51 rfl <|
z_callvV X dX11_feed_53 q_891 wX7_append sx_1 rfl (by decide) [.int (pI p5)] [] rfl rfl (Nat.le_of_ble_eq_true rfl) (fun r σ1 e => ct_X7_append p5 hp5 G _ r σ1 e) o fun r16 s17 o =>
z_aload_n X 0 dX11_feed_56 rfl <|
z_getR (q := 1) X dX11_feed_57 fl_X11_12 sx_0 rfl <|
z_callvI X dX11_feed_60 q_896 wX7_length sx_1 rfl (by decide) [] [] rfl rfl (Nat.le_of_ble_eq_true rfl) (fun r σ1 e => ct_X7_length G _ r σ1 e) o fun r19 s20 h21 o =>
z_iret X Y dX11_feed_63 o h21) fun o =>
z_iconst X dX11_feed_12 <|
z_iret X Y dX11_feed_13 o kc_m1 : At E s0 0 [(0, .ref (G.2.2.1 0)), (1, .int (pI p1)), (2, .int (pI p2)), (3, .int (pI p3)), (4, .int (pI p4)), (5, .int (pI p5))] [])
set_option maxHeartbeats 4000000 in
set_option maxRecDepth 100000 in
theorem ct_X4_wins (p1 : Int) (p2 : Int) (hp1 : rg p1) (hp2 : rg p2) (G : Gw) (s0 : St) (r : Int) (σ1 : St) (e : fX4_wins p1 p2 s0 = some (r, σ1)) : Ct yX4_wins cX4_wins 6 (some .boolean) 0 0 SX G [.int (pI p1), .int (pI p2)] s0 (QI SX G r r01 σ1) :=
  Ct.of (by decide +kernel) (Nat.le_of_ble_eq_true rfl) fun E X Y => by
    have o : Ok (fX4_wins p1 p2 s0) (fun x σ' => x = r ∧ σ' = σ1) := ⟨r, σ1, e, rfl, rfl⟩
    unfold fX4_wins at o
    exact (
z_iload_n X 0 dX4_wins_0 rfl <|
z_istore_n (L1 := [(2, .int (pI p1)), (0, .int (pI p1)), (1, .int (pI p2))]) X dX4_wins_1 rfl (by decide) rfl <|
z_iload_n X 2 dX4_wins_2 rfl <|
z_istore_n (L1 := [(3, .int (pI p2)), (2, .int (pI p1)), (0, .int (pI p1)), (1, .int (pI p2))]) X dX4_wins_3 rfl (by decide) rfl <|
z_iconst X dX4_wins_4 <|
z_istore (L1 := [(4, .int (pI 0)), (3, .int (pI p2)), (2, .int (pI p1)), (0, .int (pI p1)), (1, .int (pI p2))]) X dX4_wins_5 (by decide) rfl <|
z_joix o (fun (y6 : Int) s7 => rg y6 → At E s7 25 [(4, .int (pI y6))] []) (fun y6 s7 o r8 =>
z_iload X 0 dX4_wins_25 rfl <|
z_iconst X dX4_wins_27 <|
z_irem X dX4_wins_28 r8 kc_2 o fun z9 o =>
z_if_ne (tgt := 36) X dX4_wins_29 (by decide) (irm_rg kc_2 z9) o (fun o =>
z_iconst X dX4_wins_36 <|
z_zret X Y dX4_wins_37 o kb_0 kb_0) fun o =>
z_iconst X dX4_wins_32 <|
z_goto (tgt := 37) X dX4_wins_33 (by decide) <|
z_zret X Y dX4_wins_37 o kb_1 kb_1) fun o =>
z_sub (L1 := [(0, .int (pI p1)), (2, .int (pI p1)), (3, .int (pI p2)), (4, .int (pI 0))]) X [3, 2, 1, 0] rfl <|
z_iter (fun (x1 : Int × Int × Int) s2 => rg x1.1 ∧ rg x1.2.1 ∧ rg x1.2.2 → At E s2 7 [(0, .int (pI p1)), (2, .int (pI x1.1)), (3, .int (pI x1.2.1)), (4, .int (pI x1.2.2))] []) o (fun x1 s2 o r3 =>
z_iload X 3 dX4_wins_7 rfl <|
z_iload_n X 0 dX4_wins_9 rfl <|
z_icmp_ge (tgt := 54) X dX4_wins_10 (by decide) r3.2.2 hp1 o (fun o =>
z_iconst X dX4_wins_54 <|
z_zret X Y dX4_wins_55 (ok_ret (ok_some o)) kb_0 kb_0) fun o =>
z_iload_n X 1 dX4_wins_13 rfl <|
z_iconst X dX4_wins_14 <|
z_iload_n X 2 dX4_wins_15 rfl <|
z_imul X dX4_wins_16 <|
z_icmp_ge (tgt := 25) X dX4_wins_17 (by decide) r3.1 (w32_rg _) o (fun o =>
z_sub (L1 := [(4, .int (pI x1.2.2))]) X [3] rfl <|
ok_some o r3.2.2) fun o =>
z_iload_n X 1 dX4_wins_20 rfl <|
z_iload_n X 2 dX4_wins_21 rfl <|
z_icmp_ne (tgt := 38) X dX4_wins_22 (by decide) r3.1 r3.2.1 o (fun o =>
z_iload_n X 1 dX4_wins_38 rfl <|
z_iload_n X 2 dX4_wins_39 rfl <|
z_isub X dX4_wins_40 <|
z_istoreL (L1 := fun v4 => [(5, .int (pI v4)), (0, .int (pI p1)), (2, .int (pI x1.1)), (3, .int (pI x1.2.1)), (4, .int (pI x1.2.2))]) (R := rg) X dX4_wins_41 (by decide) (fun _ => rfl) o (w32_rg _) fun v4 r5 o =>
z_iload_n X 3 dX4_wins_43 rfl <|
z_istore_n (L1 := [(2, .int (pI x1.2.1)), (5, .int (pI v4)), (0, .int (pI p1)), (3, .int (pI x1.2.1)), (4, .int (pI x1.2.2))]) X dX4_wins_44 rfl (by decide) rfl <|
z_iload X 1 dX4_wins_45 rfl <|
z_istore_n (L1 := [(3, .int (pI v4)), (2, .int (pI x1.2.1)), (5, .int (pI v4)), (0, .int (pI p1)), (4, .int (pI x1.2.2))]) X dX4_wins_47 rfl (by decide) rfl <|
z_iinc (L1 := [(4, .int (pI (w32 (x1.2.2 + 1)))), (3, .int (pI v4)), (2, .int (pI x1.2.1)), (5, .int (pI v4)), (0, .int (pI p1))]) X 4 dX4_wins_48 rfl (by decide) rfl <|
z_goto (tgt := 7) X dX4_wins_51 (by decide) <|
z_sub (L1 := [(0, .int (pI p1)), (2, .int (pI x1.2.1)), (3, .int (pI v4)), (4, .int (pI (w32 (x1.2.2 + 1))))]) X [4, 2, 1, 0] rfl <|
ok_some o ⟨r3.2.1, r5, (w32_rg _)⟩) fun o =>
z_sub (L1 := [(4, .int (pI x1.2.2))]) X [3] rfl <|
ok_some o r3.2.2) ⟨hp1, hp2, kc_0⟩ : At E s0 0 [(0, .int (pI p1)), (1, .int (pI p2))] [])
set_option maxHeartbeats 4000000 in
set_option maxRecDepth 100000 in
theorem ct_X4_winningTake (p1 : Int) (p2 : Int) (hp1 : rg p1) (hp2 : rg p2) (G : Gw) (s0 : St) (r : Int) (σ1 : St) (e : fX4_winningTake p1 p2 s0 = some (r, σ1)) : Ct yX4_winningTake cX4_winningTake 5 (some .int) 1 25 SX G [.ref (G.2.2.1 157), .int (pI p1), .int (pI p2)] s0 (QI SX G r rg σ1) :=
  Ct.of (by decide +kernel) (Nat.le_of_ble_eq_true rfl) fun E X Y => by
    have o : Ok (fX4_winningTake p1 p2 s0) (fun x σ' => x = r ∧ σ' = σ1) := ⟨r, σ1, e, rfl, rfl⟩
    unfold fX4_winningTake at o
    exact (
z_iload_n X 2 dX4_winningTake_0 rfl <|
z_iconst X dX4_winningTake_1 <|
z_icmp_ge (tgt := 7) X dX4_winningTake_2 (by decide) hp2 kc_1 o (fun o =>
z_iload_n X 2 dX4_winningTake_7 rfl <|
z_istore_n (L1 := [(3, .int (pI p2)), (0, .ref (G.2.2.1 157)), (1, .int (pI p1)), (2, .int (pI p2))]) X dX4_winningTake_8 rfl (by decide) rfl <|
z_joix o (fun (y11 : Int) s12 => rg y11 → At E s12 42 [(3, .int (pI y11))] []) (fun y11 s12 o r13 =>
z_iload_n X 0 dX4_winningTake_42 rfl <|
z_iret X Y dX4_winningTake_43 o r13) fun o =>
z_sub (L1 := [(1, .int (pI p1)), (2, .int (pI p2)), (3, .int (pI p2))]) X [2, 3, 0] rfl <|
z_iter (fun (x1 : Int) s2 => rg x1 → At E s2 9 [(1, .int (pI p1)), (2, .int (pI p2)), (3, .int (pI x1))] []) o (fun x1 s2 o r3 =>
z_iload_n X 2 dX4_winningTake_9 rfl <|
z_iload_n X 0 dX4_winningTake_10 rfl <|
z_icmp_gt (tgt := 51) X dX4_winningTake_11 (by decide) r3 hp1 o (fun o =>
z_iconst X dX4_winningTake_51 <|
z_iret X Y dX4_winningTake_52 (ok_ret (ok_some o)) kc_m1) fun o =>
z_iload_n X 0 dX4_winningTake_14 rfl <|
z_iload_n X 2 dX4_winningTake_15 rfl <|
z_isub X dX4_winningTake_16 <|
z_istoreL (L1 := fun v4 => [(4, .int (pI v4)), (1, .int (pI p1)), (2, .int (pI p2)), (3, .int (pI x1))]) (R := rg) X dX4_winningTake_17 (by decide) (fun _ => rfl) o (w32_rg _) fun v4 r5 o =>
z_iload X 0 dX4_winningTake_19 rfl <|
z_if_eq (tgt := 42) X dX4_winningTake_21 (by decide) r5 o (fun o =>
z_sub (L1 := [(3, .int (pI x1))]) X [3] rfl <|
ok_some o r3) fun o =>
z_iload X 0 dX4_winningTake_24 rfl <|
z_iload_n X 2 dX4_winningTake_26 rfl <|
z_mmax X dX4_winningTake_27 q_1274 q_840 q_174 q_841 (by decide) (Nat.le_of_ble_eq_true rfl) r5 hp2 <|
z_iload X 0 dX4_winningTake_30 rfl <|
z_iload_n X 2 dX4_winningTake_32 rfl <|
z_mmin X dX4_winningTake_33 q_1310 q_837 q_174 q_838 (by decide) (Nat.le_of_ble_eq_true rfl) r5 hp2 <|
z_callsI X dX4_winningTake_36 q_1501 wX4_wins  (by decide) [.int (pI (imx v4 p2)), .int (pI (imn v4 p2))] [] rfl rfl (Nat.le_of_ble_eq_true rfl) (fun r σ1 e => ct_X4_wins (imx v4 p2) (imn v4 p2) (imx_rg r5 hp2) (imn_rg r5 hp2) G _ r σ1 e) o fun r6 s7 h8 o =>
z_if_ne (tgt := 44) X dX4_winningTake_39 (by decide) (r01_rg h8) o (fun o =>
z_iload_n X 3 dX4_winningTake_44 rfl <|
z_iload_n X 2 dX4_winningTake_45 rfl <|
z_iadd X dX4_winningTake_46 <|
z_istoreL_n (L1 := fun v9 => [(3, .int (pI v9)), (4, .int (pI v4)), (1, .int (pI p1)), (2, .int (pI p2))]) (R := rg) X dX4_winningTake_47 rfl (by decide) (fun _ => rfl) o (w32_rg _) fun v9 r10 o =>
z_goto (tgt := 9) X dX4_winningTake_48 (by decide) <|
z_sub (L1 := [(1, .int (pI p1)), (2, .int (pI p2)), (3, .int (pI v9))]) X [2, 3, 0] rfl <|
ok_some o r10) fun o =>
z_sub (L1 := [(3, .int (pI x1))]) X [3] rfl <|
ok_some o r3) hp2) fun o =>
z_iconst X dX4_winningTake_5 <|
z_iret X Y dX4_winningTake_6 o kc_m1 : At E s0 0 [(0, .ref (G.2.2.1 157)), (1, .int (pI p1)), (2, .int (pI p2))] [])
set_option maxHeartbeats 4000000 in
set_option maxRecDepth 100000 in
theorem ct_X11_game (p1 : Int) (p2 : Int) (hp1 : rg p1) (hp2 : rg p2) (G : Gw) (s0 : St) (r : Int) (σ1 : St) (e : fX11_game p1 p2 s0 = some (r, σ1)) : Ct yX11_game cX11_game 3 (some .int) 2 49 SX G [.ref (G.2.2.1 0), .int (pI p1), .int (pI p2)] s0 (QI SX G r rg σ1) :=
  Ct.of (by decide +kernel) (Nat.le_of_ble_eq_true rfl) fun E X Y => by
    have o : Ok (fX11_game p1 p2 s0) (fun x σ' => x = r ∧ σ' = σ1) := ⟨r, σ1, e, rfl, rfl⟩
    unfold fX11_game at o
    exact (
z_iload_n X 1 dX11_game_0 rfl <|
z_iconst X dX11_game_1 <|
z_sipush X dX11_game_2 si_200 <|
z_callsI X dX11_game_5 q_681 wX11_within  (by decide) [.int (pI p1), .int (pI 1), .int (pI 200)] [] rfl rfl (Nat.le_of_ble_eq_true rfl) (fun r σ1 e => ct_X11_within p1 1 200 hp1 kc_1 kc_200 G _ r σ1 e) o fun r1 s2 h3 o =>
z_if_eq (tgt := 22) X dX11_game_8 (by decide) (r01_rg h3) o (fun o =>
z_iconst X dX11_game_22 <|
z_iret X Y dX11_game_23 o kc_m1) fun o =>
z_iload_n X 2 dX11_game_11 rfl <|
z_iconst X dX11_game_12 <|
z_sipush X dX11_game_13 si_200 <|
z_callsI X dX11_game_16 q_681 wX11_within  (by decide) [.int (pI p2), .int (pI 1), .int (pI 200)] [] rfl rfl (Nat.le_of_ble_eq_true rfl) (fun r σ1 e => ct_X11_within p2 1 200 hp2 kc_1 kc_200 G _ r σ1 e) o fun r4 s5 h6 o =>
z_if_ne (tgt := 24) X dX11_game_19 (by decide) (r01_rg h6) o (fun o =>
z_aload_n X 0 dX11_game_24 rfl <|
z_getR (q := 157) X dX11_game_25 fl_X11_90 sx_0 rfl <|
z_iload_n X 1 dX11_game_28 rfl <|
z_iload_n X 2 dX11_game_29 rfl <|
z_mmax X dX11_game_30 q_1495 q_840 q_174 q_841 (by decide) (Nat.le_of_ble_eq_true rfl) hp1 hp2 <|
z_iload_n X 1 dX11_game_33 rfl <|
z_iload_n X 2 dX11_game_34 rfl <|
z_mmin X dX11_game_35 q_1496 q_837 q_174 q_838 (by decide) (Nat.le_of_ble_eq_true rfl) hp1 hp2 <|
z_callvI X dX11_game_38 q_1497 wX4_winningTake sx_157 rfl (by decide) [.int (pI (imx p1 p2)), .int (pI (imn p1 p2))] [] rfl rfl (Nat.le_of_ble_eq_true rfl) (fun r σ1 e => ct_X4_winningTake (imx p1 p2) (imn p1 p2) (imx_rg hp1 hp2) (imn_rg hp1 hp2) G _ r σ1 e) o fun r7 s8 h9 o =>
z_iret X Y dX11_game_41 o h9) fun o =>
z_iconst X dX11_game_22 <|
z_iret X Y dX11_game_23 o kc_m1 : At E s0 0 [(0, .ref (G.2.2.1 0)), (1, .int (pI p1)), (2, .int (pI p2))] [])
set_option maxHeartbeats 4000000 in
set_option maxRecDepth 100000 in
theorem ct_X1_beginEvening   (G : Gw) (s0 : St) (r : Int) (σ1 : St) (e : fX1_beginEvening s0 = some (r, σ1)) : Ct yX1_beginEvening cX1_beginEvening 4 none 4 96 SX G [.ref (G.2.2.1 152)] s0 (QV SX G σ1) :=
  Ct.of (by decide +kernel) (Nat.le_of_ble_eq_true rfl) fun E X Y => by
    have o : Ok (fX1_beginEvening s0) (fun x σ' => x = r ∧ σ' = σ1) := ⟨r, σ1, e, rfl, rfl⟩
    unfold fX1_beginEvening at o
    exact (
z_iconst X dX1_beginEvening_0 <|
z_istore_n (L1 := [(1, .int (pI 0)), (0, .ref (G.2.2.1 152))]) X dX1_beginEvening_1 rfl (by decide) rfl <|
z_join o (fun (y38 : Unit) s39 => True → At E s39 162 [] []) (fun y38 s39 o r40 =>
z_vret (v := 0) X Y dX1_beginEvening_162 o) fun o =>
z_sub (L1 := [(0, .ref (G.2.2.1 152)), (1, .int (pI 0))]) X [1, 0] rfl <|
z_iter (fun (x1 : Int) s2 => rg x1 → At E s2 2 [(0, .ref (G.2.2.1 152)), (1, .int (pI x1))] []) o (fun x1 s2 o r3 =>
z_iload_n X 1 dX1_beginEvening_2 rfl <|
z_aload_n X 0 dX1_beginEvening_3 rfl <|
z_getR (q := 17) X dX1_beginEvening_4 fl_X1_19 sx_152 rfl <|
z_getRN (q := 24) X dX1_beginEvening_7 fn_X1_95 sx_17 rfl <|
z_callvI X dX1_beginEvening_10 q_791 wX6_size sx_24 rfl (by decide) [] [.int (pI x1)] rfl rfl (Nat.le_of_ble_eq_true rfl) (fun r σ1 e => ct_X6_size SX 24 25 64 ⟨sx_24, sx_25, (by decide)⟩ G _ r σ1 e) o fun r4 s5 h6 o =>
z_icmp_ge (tgt := 162) X dX1_beginEvening_13 (by decide) r3 h6 o (fun o =>
z_sub (L1 := []) X [] rfl <|
ok_some o trivial) fun o =>
z_aload_n X 0 dX1_beginEvening_16 rfl <|
z_getR (q := 17) X dX1_beginEvening_17 fl_X1_19 sx_152 rfl <|
z_getRN (q := 24) X dX1_beginEvening_20 fn_X1_95 sx_17 rfl <|
z_iload_n X 1 dX1_beginEvening_23 rfl <|
z_iconst X dX1_beginEvening_24 <|
z_callvI X dX1_beginEvening_25 q_792 wX6_get sx_24 rfl (by decide) [.int (pI x1), .int (pI 0)] [] rfl rfl (Nat.le_of_ble_eq_true rfl) (fun r σ1 e => ct_X6_get SX 24 25 64 x1 0 ⟨sx_24, sx_25, (by decide)⟩ r3 kc_0 G _ r σ1 e) o fun r7 s8 h9 o =>
z_aload_n X 0 dX1_beginEvening_28 rfl <|
z_getR (q := 3) X dX1_beginEvening_29 fl_X1_15 sx_152 rfl <|
z_getIN X dX1_beginEvening_32 fn_X1_82 sx_3 rfl o fun v10 r11 o =>
z_icmp_eq (tgt := 41) X dX1_beginEvening_35 (by decide) h9 r11 o (fun o =>
z_aload_n X 0 dX1_beginEvening_41 rfl <|
z_getR (q := 17) X dX1_beginEvening_42 fl_X1_19 sx_152 rfl <|
z_getRN (q := 24) X dX1_beginEvening_45 fn_X1_95 sx_17 rfl <|
z_iload_n X 1 dX1_beginEvening_48 rfl <|
z_iconst X dX1_beginEvening_49 <|
z_callvI X dX1_beginEvening_50 q_792 wX6_get sx_24 rfl (by decide) [.int (pI x1), .int (pI 1)] [] rfl rfl (Nat.le_of_ble_eq_true rfl) (fun r σ1 e => ct_X6_get SX 24 25 64 x1 1 ⟨sx_24, sx_25, (by decide)⟩ r3 kc_1 G _ r σ1 e) o fun r12 s13 h14 o =>
z_istore_n (L1 := [(2, .int (pI r12)), (0, .ref (G.2.2.1 152)), (1, .int (pI x1))]) X dX1_beginEvening_53 rfl (by decide) rfl <|
z_aload_n X 1 dX1_beginEvening_54 rfl <|
z_getR (q := 17) X dX1_beginEvening_55 fl_X1_19 sx_152 rfl <|
z_getRN (q := 24) X dX1_beginEvening_58 fn_X1_95 sx_17 rfl <|
z_iload_n X 2 dX1_beginEvening_61 rfl <|
z_iconst X dX1_beginEvening_62 <|
z_callvI X dX1_beginEvening_63 q_792 wX6_get sx_24 rfl (by decide) [.int (pI x1), .int (pI 2)] [] rfl rfl (Nat.le_of_ble_eq_true rfl) (fun r σ1 e => ct_X6_get SX 24 25 64 x1 2 ⟨sx_24, sx_25, (by decide)⟩ r3 kc_2 G _ r σ1 e) o fun r15 s16 h17 o =>
z_istore_n (L1 := [(3, .int (pI r15)), (2, .int (pI r12)), (0, .ref (G.2.2.1 152)), (1, .int (pI x1))]) X dX1_beginEvening_66 rfl (by decide) rfl <|
z_iload_n X 1 dX1_beginEvening_67 rfl <|
z_sipush X dX1_beginEvening_68 si_287 <|
z_icmp_eq (tgt := 156) X dX1_beginEvening_71 (by decide) h14 kc_287 o (fun o =>
z_iinc (L1 := [(1, .int (pI (w32 (x1 + 1)))), (3, .int (pI r15)), (2, .int (pI r12)), (0, .ref (G.2.2.1 152))]) X 3 dX1_beginEvening_156 rfl (by decide) rfl <|
z_goto (tgt := 2) X dX1_beginEvening_159 (by decide) <|
z_sub (L1 := [(0, .ref (G.2.2.1 152)), (1, .int (pI (w32 (x1 + 1))))]) X [3, 0] rfl <|
ok_some o (w32_rg _)) fun o =>
z_aload_n X 2 dX1_beginEvening_74 rfl <|
z_getR (q := 3) X dX1_beginEvening_75 fl_X1_15 sx_152 rfl <|
z_iload_n X 0 dX1_beginEvening_78 rfl <|
z_callvI X dX1_beginEvening_79 q_774 wX2_hasPorch sx_3 rfl (by decide) [.int (pI r15)] [] rfl rfl (Nat.le_of_ble_eq_true rfl) (fun r σ1 e => ct_X2_hasPorch r15 h17 G _ r σ1 e) o fun r18 s19 h20 o =>
z_if_ne (tgt := 88) X dX1_beginEvening_82 (by decide) (r01_rg h20) o (fun o =>
z_iload_n X 1 dX1_beginEvening_88 rfl <|
z_sipush X dX1_beginEvening_89 si_285 <|
z_join o (fun (y25 : Unit) s26 => True → At E s26 116 [(0, .ref (G.2.2.1 152)), (1, .int (pI x1)), (2, .int (pI r12)), (3, .int (pI r15))] []) (fun y25 s26 o r27 =>
z_iload_n X 2 dX1_beginEvening_116 rfl <|
z_sipush X dX1_beginEvening_117 si_286 <|
z_join o (fun (y31 : Unit) s32 => True → At E s32 128 [(0, .ref (G.2.2.1 152)), (1, .int (pI x1)), (2, .int (pI r12)), (3, .int (pI r15))] []) (fun y31 s32 o r33 =>
z_iload_n X 2 dX1_beginEvening_128 rfl <|
z_sipush X dX1_beginEvening_129 si_288 <|
z_icmp_ne (tgt := 156) X dX1_beginEvening_132 (by decide) h14 kc_288 o (fun o =>
z_iinc (L1 := [(1, .int (pI (w32 (x1 + 1)))), (0, .ref (G.2.2.1 152)), (2, .int (pI r12)), (3, .int (pI r15))]) X 1 dX1_beginEvening_156 rfl (by decide) rfl <|
z_goto (tgt := 2) X dX1_beginEvening_159 (by decide) <|
z_sub (L1 := [(0, .ref (G.2.2.1 152)), (1, .int (pI (w32 (x1 + 1))))]) X [1, 0] rfl <|
ok_some o (w32_rg _)) fun o =>
z_aload_n X 0 dX1_beginEvening_135 rfl <|
z_getR (q := 3) X dX1_beginEvening_136 fl_X1_15 sx_152 rfl <|
z_getRN (q := 7) X dX1_beginEvening_139 fn_X1_117 sx_3 rfl <|
z_iload_n X 3 dX1_beginEvening_142 rfl <|
z_aload_n X 0 dX1_beginEvening_143 rfl <|
z_getR (q := 17) X dX1_beginEvening_144 fl_X1_19 sx_152 rfl <|
z_getRN (q := 24) X dX1_beginEvening_147 fn_X1_95 sx_17 rfl <|
z_iload_n X 1 dX1_beginEvening_150 rfl <|
z_iconst X dX1_beginEvening_151 <|
z_callvI X dX1_beginEvening_152 q_792 wX6_get sx_24 rfl (by decide) [.int (pI x1), .int (pI 3)] [.int (pI r15), .ref (G.2.2.1 7)] rfl rfl (Nat.le_of_ble_eq_true rfl) (fun r σ1 e => ct_X6_get SX 24 25 64 x1 3 ⟨sx_24, sx_25, (by decide)⟩ r3 kc_3 G _ r σ1 e) o fun r34 s35 h36 o =>
z_iast X dX1_beginEvening_155 sx_7 h17 h36 o fun s37 o =>
z_iinc (L1 := [(1, .int (pI (w32 (x1 + 1)))), (0, .ref (G.2.2.1 152)), (2, .int (pI r12)), (3, .int (pI r15))]) X 1 dX1_beginEvening_156 rfl (by decide) rfl <|
z_goto (tgt := 2) X dX1_beginEvening_159 (by decide) <|
z_sub (L1 := [(0, .ref (G.2.2.1 152)), (1, .int (pI (w32 (x1 + 1))))]) X [1, 0] rfl <|
ok_some o (w32_rg _)) fun o =>
z_icmp_ne (tgt := 128) X dX1_beginEvening_120 (by decide) h14 kc_286 o (fun o =>
ok_some o trivial) fun o =>
z_aload_n X 0 dX1_beginEvening_123 rfl <|
z_iload_n X 3 dX1_beginEvening_124 rfl <|
z_callvV X dX1_beginEvening_125 q_796 wX1_sweepPorch sx_152 rfl (by decide) [.int (pI r15)] [] rfl rfl (Nat.le_of_ble_eq_true rfl) (fun r σ1 e => ct_X1_sweepPorch r15 h17 G _ r σ1 e) o fun r28 s29 o =>
ok_some o trivial) fun o =>
z_icmp_ne (tgt := 116) X dX1_beginEvening_92 (by decide) h14 kc_285 o (fun o =>
z_sub (L1 := [(0, .ref (G.2.2.1 152)), (1, .int (pI x1)), (2, .int (pI r12)), (3, .int (pI r15))]) X [2, 3, 1, 0] rfl <|
ok_some o trivial) fun o =>
z_aload_n X 2 dX1_beginEvening_95 rfl <|
z_getR (q := 3) X dX1_beginEvening_96 fl_X1_15 sx_152 rfl <|
z_getRN (q := 5) X dX1_beginEvening_99 fn_X1_110 sx_3 rfl <|
z_iload_n X 0 dX1_beginEvening_102 rfl <|
z_aload_n X 2 dX1_beginEvening_103 rfl <|
z_getR (q := 17) X dX1_beginEvening_104 fl_X1_19 sx_152 rfl <|
z_getRN (q := 24) X dX1_beginEvening_107 fn_X1_95 sx_17 rfl <|
z_iload_n X 3 dX1_beginEvening_110 rfl <|
z_iconst X dX1_beginEvening_111 <|
z_callvI X dX1_beginEvening_112 q_792 wX6_get sx_24 rfl (by decide) [.int (pI x1), .int (pI 3)] [.int (pI r15), .ref (G.2.2.1 5)] rfl rfl (Nat.le_of_ble_eq_true rfl) (fun r σ1 e => ct_X6_get SX 24 25 64 x1 3 ⟨sx_24, sx_25, (by decide)⟩ r3 kc_3 G _ r σ1 e) o fun r21 s22 h23 o =>
z_iast X dX1_beginEvening_115 sx_5 h17 h23 o fun s24 o =>
z_sub (L1 := [(0, .ref (G.2.2.1 152)), (1, .int (pI x1)), (2, .int (pI r12)), (3, .int (pI r15))]) X [2, 3, 1, 0] rfl <|
ok_some o trivial) fun o =>
z_goto (tgt := 156) X dX1_beginEvening_85 (by decide) <|
z_iinc (L1 := [(1, .int (pI (w32 (x1 + 1)))), (3, .int (pI r15)), (2, .int (pI r12)), (0, .ref (G.2.2.1 152))]) X 3 dX1_beginEvening_156 rfl (by decide) rfl <|
z_goto (tgt := 2) X dX1_beginEvening_159 (by decide) <|
z_sub (L1 := [(0, .ref (G.2.2.1 152)), (1, .int (pI (w32 (x1 + 1))))]) X [3, 0] rfl <|
ok_some o (w32_rg _)) fun o =>
z_goto (tgt := 156) X dX1_beginEvening_38 (by decide) <|
z_iinc (L1 := [(1, .int (pI (w32 (x1 + 1)))), (0, .ref (G.2.2.1 152))]) X 1 dX1_beginEvening_156 rfl (by decide) rfl <|
z_goto (tgt := 2) X dX1_beginEvening_159 (by decide) <|
z_sub (L1 := [(0, .ref (G.2.2.1 152)), (1, .int (pI (w32 (x1 + 1))))]) X [1, 0] rfl <|
ok_some o (w32_rg _)) kc_0 : At E s0 0 [(0, .ref (G.2.2.1 152))] [])
set_option maxHeartbeats 4000000 in
set_option maxRecDepth 100000 in
theorem ct_X1_followCalls   (G : Gw) (s0 : St) (r : Int) (σ1 : St) (e : fX1_followCalls s0 = some (r, σ1)) : Ct yX1_followCalls cX1_followCalls 5 none 4 98 SX G [.ref (G.2.2.1 152)] s0 (QV SX G σ1) :=
  Ct.of (by decide +kernel) (Nat.le_of_ble_eq_true rfl) fun E X Y => by
    have o : Ok (fX1_followCalls s0) (fun x σ' => x = r ∧ σ' = σ1) := ⟨r, σ1, e, rfl, rfl⟩
    unfold fX1_followCalls at o
    exact (
z_iconst X dX1_followCalls_0 <|
z_istore_n (L1 := [(1, .int (pI 0)), (0, .ref (G.2.2.1 152))]) X dX1_followCalls_1 rfl (by decide) rfl <|
z_join o (fun (y35 : Unit) s36 => True → At E s36 138 [] []) (fun y35 s36 o r37 =>
z_vret (v := 0) X Y dX1_followCalls_138 o) fun o =>
z_sub (L1 := [(0, .ref (G.2.2.1 152)), (1, .int (pI 0))]) X [1, 0] rfl <|
z_iter (fun (x1 : Int) s2 => rg x1 → At E s2 2 [(0, .ref (G.2.2.1 152)), (1, .int (pI x1))] []) o (fun x1 s2 o r3 =>
z_iload_n X 1 dX1_followCalls_2 rfl <|
z_aload_n X 0 dX1_followCalls_3 rfl <|
z_getR (q := 17) X dX1_followCalls_4 fl_X1_19 sx_152 rfl <|
z_getRN (q := 22) X dX1_followCalls_7 fn_X1_120 sx_17 rfl <|
z_callvI X dX1_followCalls_10 q_791 wX6_size sx_22 rfl (by decide) [] [.int (pI x1)] rfl rfl (Nat.le_of_ble_eq_true rfl) (fun r σ1 e => ct_X6_size SX 22 23 64 ⟨sx_22, sx_23, (by decide)⟩ G _ r σ1 e) o fun r4 s5 h6 o =>
z_icmp_ge (tgt := 138) X dX1_followCalls_13 (by decide) r3 h6 o (fun o =>
z_sub (L1 := []) X [] rfl <|
ok_some o trivial) fun o =>
z_aload_n X 0 dX1_followCalls_16 rfl <|
z_getR (q := 17) X dX1_followCalls_17 fl_X1_19 sx_152 rfl <|
z_getRN (q := 22) X dX1_followCalls_20 fn_X1_120 sx_17 rfl <|
z_iload_n X 1 dX1_followCalls_23 rfl <|
z_iconst X dX1_followCalls_24 <|
z_callvI X dX1_followCalls_25 q_792 wX6_get sx_22 rfl (by decide) [.int (pI x1), .int (pI 1)] [] rfl rfl (Nat.le_of_ble_eq_true rfl) (fun r σ1 e => ct_X6_get SX 22 23 64 x1 1 ⟨sx_22, sx_23, (by decide)⟩ r3 kc_1 G _ r σ1 e) o fun r7 s8 h9 o =>
z_aload_n X 0 dX1_followCalls_28 rfl <|
z_getR (q := 3) X dX1_followCalls_29 fl_X1_15 sx_152 rfl <|
z_getIN X dX1_followCalls_32 fn_X1_31 sx_3 rfl o fun v10 r11 o =>
z_icmp_eq (tgt := 41) X dX1_followCalls_35 (by decide) h9 r11 o (fun o =>
z_aload_n X 0 dX1_followCalls_41 rfl <|
z_getR (q := 17) X dX1_followCalls_42 fl_X1_19 sx_152 rfl <|
z_getRN (q := 22) X dX1_followCalls_45 fn_X1_120 sx_17 rfl <|
z_iload_n X 1 dX1_followCalls_48 rfl <|
z_iconst X dX1_followCalls_49 <|
z_callvI X dX1_followCalls_50 q_792 wX6_get sx_22 rfl (by decide) [.int (pI x1), .int (pI 0)] [] rfl rfl (Nat.le_of_ble_eq_true rfl) (fun r σ1 e => ct_X6_get SX 22 23 64 x1 0 ⟨sx_22, sx_23, (by decide)⟩ r3 kc_0 G _ r σ1 e) o fun r12 s13 h14 o =>
z_istore_n (L1 := [(2, .int (pI r12)), (0, .ref (G.2.2.1 152)), (1, .int (pI x1))]) X dX1_followCalls_53 rfl (by decide) rfl <|
z_aload_n X 1 dX1_followCalls_54 rfl <|
z_getR (q := 17) X dX1_followCalls_55 fl_X1_19 sx_152 rfl <|
z_getRN (q := 22) X dX1_followCalls_58 fn_X1_120 sx_17 rfl <|
z_iload_n X 2 dX1_followCalls_61 rfl <|
z_iconst X dX1_followCalls_62 <|
z_callvI X dX1_followCalls_63 q_792 wX6_get sx_22 rfl (by decide) [.int (pI x1), .int (pI 2)] [] rfl rfl (Nat.le_of_ble_eq_true rfl) (fun r σ1 e => ct_X6_get SX 22 23 64 x1 2 ⟨sx_22, sx_23, (by decide)⟩ r3 kc_2 G _ r σ1 e) o fun r15 s16 h17 o =>
z_istore_n (L1 := [(3, .int (pI r15)), (2, .int (pI r12)), (0, .ref (G.2.2.1 152)), (1, .int (pI x1))]) X dX1_followCalls_66 rfl (by decide) rfl <|
z_aload_n X 2 dX1_followCalls_67 rfl <|
z_getR (q := 3) X dX1_followCalls_68 fl_X1_15 sx_152 rfl <|
z_iload_n X 1 dX1_followCalls_71 rfl <|
z_callvI X dX1_followCalls_72 q_801 wX2_hasPerson sx_3 rfl (by decide) [.int (pI r12)] [] rfl rfl (Nat.le_of_ble_eq_true rfl) (fun r σ1 e => ct_X2_hasPerson r12 h14 G _ r σ1 e) o fun r18 s19 h20 o =>
z_join o (fun (y23 : Int) s24 => r01 y23 → At E s24 96 [(0, .ref (G.2.2.1 152)), (1, .int (pI x1)), (2, .int (pI r12)), (3, .int (pI r15))] [.int (pI y23)]) (fun y23 s24 o r25 =>
z_istore (L1 := [(4, .int (pI y23)), (0, .ref (G.2.2.1 152)), (1, .int (pI x1)), (2, .int (pI r12)), (3, .int (pI r15))]) X dX1_followCalls_96 (by decide) rfl <|
z_iload X 0 dX1_followCalls_98 rfl <|
z_if_eq (tgt := 132) X dX1_followCalls_100 (by decide) (r01_rg r25) o (fun o =>
z_iinc (L1 := [(1, .int (pI (w32 (x1 + 1)))), (4, .int (pI y23)), (0, .ref (G.2.2.1 152)), (2, .int (pI r12)), (3, .int (pI r15))]) X 2 dX1_followCalls_132 rfl (by decide) rfl <|
z_goto (tgt := 2) X dX1_followCalls_135 (by decide) <|
z_sub (L1 := [(0, .ref (G.2.2.1 152)), (1, .int (pI (w32 (x1 + 1))))]) X [2, 0] rfl <|
ok_some o (w32_rg _)) fun o =>
z_aload_n X 1 dX1_followCalls_103 rfl <|
z_getR (q := 3) X dX1_followCalls_104 fl_X1_15 sx_152 rfl <|
z_iload_n X 4 dX1_followCalls_107 rfl <|
z_callvI X dX1_followCalls_108 q_802 wX2_hasFreeChair sx_3 rfl (by decide) [.int (pI r15)] [] rfl rfl (Nat.le_of_ble_eq_true rfl) (fun r σ1 e => ct_X2_hasFreeChair r15 h17 G _ r σ1 e) o fun r26 s27 h28 o =>
z_if_eq (tgt := 132) X dX1_followCalls_111 (by decide) (r01_rg h28) o (fun o =>
z_iinc (L1 := [(1, .int (pI (w32 (x1 + 1)))), (4, .int (pI y23)), (0, .ref (G.2.2.1 152)), (2, .int (pI r12)), (3, .int (pI r15))]) X 2 dX1_followCalls_132 rfl (by decide) rfl <|
z_goto (tgt := 2) X dX1_followCalls_135 (by decide) <|
z_sub (L1 := [(0, .ref (G.2.2.1 152)), (1, .int (pI (w32 (x1 + 1))))]) X [2, 0] rfl <|
ok_some o (w32_rg _)) fun o =>
z_aload_n X 1 dX1_followCalls_114 rfl <|
z_iload_n X 3 dX1_followCalls_115 rfl <|
z_iload_n X 4 dX1_followCalls_116 rfl <|
z_aload_n X 1 dX1_followCalls_117 rfl <|
z_getR (q := 17) X dX1_followCalls_118 fl_X1_19 sx_152 rfl <|
z_getRN (q := 22) X dX1_followCalls_121 fn_X1_120 sx_17 rfl <|
z_iload_n X 2 dX1_followCalls_124 rfl <|
z_iconst X dX1_followCalls_125 <|
z_callvI X dX1_followCalls_126 q_792 wX6_get sx_22 rfl (by decide) [.int (pI x1), .int (pI 3)] [.int (pI r15), .int (pI r12), .ref (G.2.2.1 152)] rfl rfl (Nat.le_of_ble_eq_true rfl) (fun r σ1 e => ct_X6_get SX 22 23 64 x1 3 ⟨sx_22, sx_23, (by decide)⟩ r3 kc_3 G _ r σ1 e) o fun r29 s30 h31 o =>
z_callvV X dX1_followCalls_129 q_803 wX1_takeSeat sx_152 rfl (by decide) [.int (pI r12), .int (pI r15), .int (pI r29)] [] rfl rfl (Nat.le_of_ble_eq_true rfl) (fun r σ1 e => ct_X1_takeSeat r12 r15 r29 h14 h17 h31 G _ r σ1 e) o fun r32 s33 o =>
z_iinc (L1 := [(1, .int (pI (w32 (x1 + 1)))), (4, .int (pI y23)), (0, .ref (G.2.2.1 152)), (2, .int (pI r12)), (3, .int (pI r15))]) X 2 dX1_followCalls_132 rfl (by decide) rfl <|
z_goto (tgt := 2) X dX1_followCalls_135 (by decide) <|
z_sub (L1 := [(0, .ref (G.2.2.1 152)), (1, .int (pI (w32 (x1 + 1))))]) X [2, 0] rfl <|
ok_some o (w32_rg _)) fun o =>
z_if_eq (tgt := 95) X dX1_followCalls_75 (by decide) (r01_rg h20) o (fun o =>
z_iconst X dX1_followCalls_95 <|
z_sub (L1 := [(0, .ref (G.2.2.1 152)), (1, .int (pI x1)), (2, .int (pI r12)), (3, .int (pI r15))]) X [2, 3, 1, 0] rfl <|
ok_some o kb_0) fun o =>
z_aload_n X 2 dX1_followCalls_78 rfl <|
z_getR (q := 3) X dX1_followCalls_79 fl_X1_15 sx_152 rfl <|
z_getRN (q := 11) X dX1_followCalls_82 fn_X1_126 sx_3 rfl <|
z_iload_n X 1 dX1_followCalls_85 rfl <|
z_iald X dX1_followCalls_86 sx_11 h14 o fun v21 r22 o =>
z_iconst X dX1_followCalls_87 <|
z_icmp_ne (tgt := 95) X dX1_followCalls_88 (by decide) r22 kc_m1 o (fun o =>
z_iconst X dX1_followCalls_95 <|
z_sub (L1 := [(0, .ref (G.2.2.1 152)), (1, .int (pI x1)), (2, .int (pI r12)), (3, .int (pI r15))]) X [2, 3, 1, 0] rfl <|
ok_some o kb_0) fun o =>
z_iconst X dX1_followCalls_91 <|
z_goto (tgt := 96) X dX1_followCalls_92 (by decide) <|
z_sub (L1 := [(0, .ref (G.2.2.1 152)), (1, .int (pI x1)), (2, .int (pI r12)), (3, .int (pI r15))]) X [2, 3, 1, 0] rfl <|
ok_some o kb_1) fun o =>
z_goto (tgt := 132) X dX1_followCalls_38 (by decide) <|
z_iinc (L1 := [(1, .int (pI (w32 (x1 + 1)))), (0, .ref (G.2.2.1 152))]) X 1 dX1_followCalls_132 rfl (by decide) rfl <|
z_goto (tgt := 2) X dX1_followCalls_135 (by decide) <|
z_sub (L1 := [(0, .ref (G.2.2.1 152)), (1, .int (pI (w32 (x1 + 1))))]) X [1, 0] rfl <|
ok_some o (w32_rg _)) kc_0 : At E s0 0 [(0, .ref (G.2.2.1 152))] [])
set_option maxHeartbeats 4000000 in
set_option maxRecDepth 100000 in
theorem ct_X1_letItRain   (G : Gw) (s0 : St) (r : Int) (σ1 : St) (e : fX1_letItRain s0 = some (r, σ1)) : Ct yX1_letItRain cX1_letItRain 4 none 2 42 SX G [.ref (G.2.2.1 152)] s0 (QV SX G σ1) :=
  Ct.of (by decide +kernel) (Nat.le_of_ble_eq_true rfl) fun E X Y => by
    have o : Ok (fX1_letItRain s0) (fun x σ' => x = r ∧ σ' = σ1) := ⟨r, σ1, e, rfl, rfl⟩
    unfold fX1_letItRain at o
    exact (
z_iconst X dX1_letItRain_0 <|
z_istore_n (L1 := [(1, .int (pI 0)), (0, .ref (G.2.2.1 152))]) X dX1_letItRain_1 rfl (by decide) rfl <|
z_iconst X dX1_letItRain_2 <|
z_istore_n (L1 := [(2, .int (pI 0)), (1, .int (pI 0)), (0, .ref (G.2.2.1 152))]) X dX1_letItRain_3 rfl (by decide) rfl <|
z_join o (fun (y23 : Int) s24 => r01 y23 → At E s24 98 [(0, .ref (G.2.2.1 152)), (1, .int (pI y23))] []) (fun y23 s24 o r25 =>
z_iconst X dX1_letItRain_98 <|
z_istore_n (L1 := [(2, .int (pI 0)), (0, .ref (G.2.2.1 152)), (1, .int (pI y23))]) X dX1_letItRain_99 rfl (by decide) rfl <|
z_join o (fun (y41 : Unit) s42 => True → At E s42 164 [] []) (fun y41 s42 o r43 =>
z_vret (v := 0) X Y dX1_letItRain_164 o) fun o =>
z_sub (L1 := [(0, .ref (G.2.2.1 152)), (1, .int (pI y23)), (2, .int (pI 0))]) X [1, 2, 0] rfl <|
z_iter (fun (x26 : Int) s27 => rg x26 → At E s27 100 [(0, .ref (G.2.2.1 152)), (1, .int (pI y23)), (2, .int (pI x26))] []) o (fun x26 s27 o r28 =>
z_iload_n X 1 dX1_letItRain_100 rfl <|
z_if_eq (tgt := 164) X dX1_letItRain_101 (by decide) (r01_rg r25) o (fun o =>
z_sub (L1 := []) X [] rfl <|
ok_some o trivial) fun o =>
z_iload_n X 2 dX1_letItRain_104 rfl <|
z_aload_n X 0 dX1_letItRain_105 rfl <|
z_getR (q := 3) X dX1_letItRain_106 fl_X1_15 sx_152 rfl <|
z_getIN X dX1_letItRain_109 fn_X1_46 sx_3 rfl o fun v29 r30 o =>
z_icmp_ge (tgt := 164) X dX1_letItRain_112 (by decide) r28 r30 o (fun o =>
z_sub (L1 := []) X [] rfl <|
ok_some o trivial) fun o =>
z_aload_n X 0 dX1_letItRain_115 rfl <|
z_getR (q := 3) X dX1_letItRain_116 fl_X1_15 sx_152 rfl <|
z_getRN (q := 11) X dX1_letItRain_119 fn_X1_126 sx_3 rfl <|
z_iload_n X 2 dX1_letItRain_122 rfl <|
z_iald X dX1_letItRain_123 sx_11 r28 o fun v31 r32 o =>
z_istore_n (L1 := [(3, .int (pI v31)), (0, .ref (G.2.2.1 152)), (1, .int (pI y23)), (2, .int (pI x26))]) X dX1_letItRain_124 rfl (by decide) rfl <|
z_aload_n X 1 dX1_letItRain_125 rfl <|
z_getR (q := 3) X dX1_letItRain_126 fl_X1_15 sx_152 rfl <|
z_iload_n X 0 dX1_letItRain_129 rfl <|
z_callvI X dX1_letItRain_130 q_774 wX2_hasPorch sx_3 rfl (by decide) [.int (pI v31)] [] rfl rfl (Nat.le_of_ble_eq_true rfl) (fun r σ1 e => ct_X2_hasPorch v31 r32 G _ r σ1 e) o fun r33 s34 h35 o =>
z_if_eq (tgt := 158) X dX1_letItRain_133 (by decide) (r01_rg h35) o (fun o =>
z_iinc (L1 := [(2, .int (pI (w32 (x26 + 1)))), (3, .int (pI v31)), (0, .ref (G.2.2.1 152)), (1, .int (pI y23))]) X 3 dX1_letItRain_158 rfl (by decide) rfl <|
z_goto (tgt := 100) X dX1_letItRain_161 (by decide) <|
z_sub (L1 := [(0, .ref (G.2.2.1 152)), (1, .int (pI y23)), (2, .int (pI (w32 (x26 + 1))))]) X [2, 3, 0] rfl <|
ok_some o (w32_rg _)) fun o =>
z_aload_n X 1 dX1_letItRain_136 rfl <|
z_getR (q := 3) X dX1_letItRain_137 fl_X1_15 sx_152 rfl <|
z_getRN (q := 6) X dX1_letItRain_140 fn_X1_75 sx_3 rfl <|
z_iload_n X 0 dX1_letItRain_143 rfl <|
z_iald X dX1_letItRain_144 sx_6 r32 o fun v36 r37 o =>
z_bipush X dX1_letItRain_145 bi_50 <|
z_icmp_le (tgt := 158) X dX1_letItRain_147 (by decide) r37 kc_50 o (fun o =>
z_iinc (L1 := [(2, .int (pI (w32 (x26 + 1)))), (3, .int (pI v31)), (0, .ref (G.2.2.1 152)), (1, .int (pI y23))]) X 3 dX1_letItRain_158 rfl (by decide) rfl <|
z_goto (tgt := 100) X dX1_letItRain_161 (by decide) <|
z_sub (L1 := [(0, .ref (G.2.2.1 152)), (1, .int (pI y23)), (2, .int (pI (w32 (x26 + 1))))]) X [2, 3, 0] rfl <|
ok_some o (w32_rg _)) fun o =>
z_aload_n X 1 dX1_letItRain_150 rfl <|
z_getR (q := 3) X dX1_letItRain_151 fl_X1_15 sx_152 rfl <|
z_iload_n X 3 dX1_letItRain_154 rfl <|
z_callvV X dX1_letItRain_155 q_808 wX2_rise sx_3 rfl (by decide) [.int (pI x26)] [] rfl rfl (Nat.le_of_ble_eq_true rfl) (fun r σ1 e => ct_X2_rise x26 r28 G _ r σ1 e) o fun r38 s39 o =>
z_iinc (L1 := [(2, .int (pI (w32 (x26 + 1)))), (3, .int (pI v31)), (0, .ref (G.2.2.1 152)), (1, .int (pI y23))]) X 3 dX1_letItRain_158 rfl (by decide) rfl <|
z_goto (tgt := 100) X dX1_letItRain_161 (by decide) <|
z_sub (L1 := [(0, .ref (G.2.2.1 152)), (1, .int (pI y23)), (2, .int (pI (w32 (x26 + 1))))]) X [2, 3, 0] rfl <|
ok_some o (w32_rg _)) kc_0) fun o =>
z_sub (L1 := [(0, .ref (G.2.2.1 152)), (1, .int (pI 0)), (2, .int (pI 0))]) X [2, 1, 0] rfl <|
z_iter (fun (x1 : Int × Int) s2 => r01 x1.1 ∧ rg x1.2 → At E s2 4 [(0, .ref (G.2.2.1 152)), (1, .int (pI x1.1)), (2, .int (pI x1.2))] []) o (fun x1 s2 o r3 =>
z_iload_n X 2 dX1_letItRain_4 rfl <|
z_aload_n X 0 dX1_letItRain_5 rfl <|
z_getR (q := 17) X dX1_letItRain_6 fl_X1_19 sx_152 rfl <|
z_getRN (q := 24) X dX1_letItRain_9 fn_X1_95 sx_17 rfl <|
z_callvI X dX1_letItRain_12 q_791 wX6_size sx_24 rfl (by decide) [] [.int (pI x1.2)] rfl rfl (Nat.le_of_ble_eq_true rfl) (fun r σ1 e => ct_X6_size SX 24 25 64 ⟨sx_24, sx_25, (by decide)⟩ G _ r σ1 e) o fun r4 s5 h6 o =>
z_icmp_ge (tgt := 98) X dX1_letItRain_15 (by decide) r3.2 h6 o (fun o =>
z_sub (L1 := [(0, .ref (G.2.2.1 152)), (1, .int (pI x1.1))]) X [0, 1] rfl <|
ok_some o r3.1) fun o =>
z_aload_n X 0 dX1_letItRain_18 rfl <|
z_getR (q := 17) X dX1_letItRain_19 fl_X1_19 sx_152 rfl <|
z_getRN (q := 24) X dX1_letItRain_22 fn_X1_95 sx_17 rfl <|
z_iload_n X 2 dX1_letItRain_25 rfl <|
z_iconst X dX1_letItRain_26 <|
z_callvI X dX1_letItRain_27 q_792 wX6_get sx_24 rfl (by decide) [.int (pI x1.2), .int (pI 0)] [] rfl rfl (Nat.le_of_ble_eq_true rfl) (fun r σ1 e => ct_X6_get SX 24 25 64 x1.2 0 ⟨sx_24, sx_25, (by decide)⟩ r3.2 kc_0 G _ r σ1 e) o fun r7 s8 h9 o =>
z_aload_n X 0 dX1_letItRain_30 rfl <|
z_getR (q := 3) X dX1_letItRain_31 fl_X1_15 sx_152 rfl <|
z_getIN X dX1_letItRain_34 fn_X1_82 sx_3 rfl o fun v10 r11 o =>
z_join o (fun (y17 : Int) s18 => r01 y17 → At E s18 67 [(0, .ref (G.2.2.1 152)), (1, .int (pI x1.1)), (2, .int (pI x1.2))] [.int (pI y17)]) (fun y17 s18 o r19 =>
z_istore_n (L1 := [(3, .int (pI y17)), (0, .ref (G.2.2.1 152)), (1, .int (pI x1.1)), (2, .int (pI x1.2))]) X dX1_letItRain_67 rfl (by decide) rfl <|
z_iload_n X 0 dX1_letItRain_68 rfl <|
z_if_eq (tgt := 92) X dX1_letItRain_69 (by decide) (r01_rg r19) o (fun o =>
z_iinc (L1 := [(2, .int (pI (w32 (x1.2 + 1)))), (3, .int (pI y17)), (0, .ref (G.2.2.1 152)), (1, .int (pI x1.1))]) X 3 dX1_letItRain_92 rfl (by decide) rfl <|
z_goto (tgt := 4) X dX1_letItRain_95 (by decide) <|
z_sub (L1 := [(0, .ref (G.2.2.1 152)), (1, .int (pI x1.1)), (2, .int (pI (w32 (x1.2 + 1))))]) X [2, 3, 0] rfl <|
ok_some o ⟨r3.1, (w32_rg _)⟩) fun o =>
z_aload_n X 1 dX1_letItRain_72 rfl <|
z_getR (q := 17) X dX1_letItRain_73 fl_X1_19 sx_152 rfl <|
z_getRN (q := 24) X dX1_letItRain_76 fn_X1_95 sx_17 rfl <|
z_iload_n X 3 dX1_letItRain_79 rfl <|
z_iconst X dX1_letItRain_80 <|
z_callvI X dX1_letItRain_81 q_792 wX6_get sx_24 rfl (by decide) [.int (pI x1.2), .int (pI 1)] [] rfl rfl (Nat.le_of_ble_eq_true rfl) (fun r σ1 e => ct_X6_get SX 24 25 64 x1.2 1 ⟨sx_24, sx_25, (by decide)⟩ r3.2 kc_1 G _ r σ1 e) o fun r20 s21 h22 o =>
z_sipush X dX1_letItRain_84 si_287 <|
z_icmp_ne (tgt := 92) X dX1_letItRain_87 (by decide) h22 kc_287 o (fun o =>
z_iinc (L1 := [(2, .int (pI (w32 (x1.2 + 1)))), (3, .int (pI y17)), (0, .ref (G.2.2.1 152)), (1, .int (pI x1.1))]) X 3 dX1_letItRain_92 rfl (by decide) rfl <|
z_goto (tgt := 4) X dX1_letItRain_95 (by decide) <|
z_sub (L1 := [(0, .ref (G.2.2.1 152)), (1, .int (pI x1.1)), (2, .int (pI (w32 (x1.2 + 1))))]) X [2, 3, 0] rfl <|
ok_some o ⟨r3.1, (w32_rg _)⟩) fun o =>
z_iconst X dX1_letItRain_90 <|
z_istore_n (L1 := [(1, .int (pI 1)), (3, .int (pI y17)), (0, .ref (G.2.2.1 152)), (2, .int (pI x1.2))]) X dX1_letItRain_91 rfl (by decide) rfl <|
z_iinc (L1 := [(2, .int (pI (w32 (x1.2 + 1)))), (1, .int (pI 1)), (3, .int (pI y17)), (0, .ref (G.2.2.1 152))]) X 3 dX1_letItRain_92 rfl (by decide) rfl <|
z_goto (tgt := 4) X dX1_letItRain_95 (by decide) <|
z_sub (L1 := [(0, .ref (G.2.2.1 152)), (1, .int (pI 1)), (2, .int (pI (w32 (x1.2 + 1))))]) X [3, 1, 0] rfl <|
ok_some o ⟨kb_1, (w32_rg _)⟩) fun o =>
z_icmp_ne (tgt := 66) X dX1_letItRain_37 (by decide) h9 r11 o (fun o =>
z_iconst X dX1_letItRain_66 <|
ok_some o kb_0) fun o =>
z_aload_n X 0 dX1_letItRain_40 rfl <|
z_getR (q := 17) X dX1_letItRain_41 fl_X1_19 sx_152 rfl <|
z_getRN (q := 24) X dX1_letItRain_44 fn_X1_95 sx_17 rfl <|
z_iload_n X 2 dX1_letItRain_47 rfl <|
z_iconst X dX1_letItRain_48 <|
z_callvI X dX1_letItRain_49 q_792 wX6_get sx_24 rfl (by decide) [.int (pI x1.2), .int (pI 2)] [] rfl rfl (Nat.le_of_ble_eq_true rfl) (fun r σ1 e => ct_X6_get SX 24 25 64 x1.2 2 ⟨sx_24, sx_25, (by decide)⟩ r3.2 kc_2 G _ r σ1 e) o fun r12 s13 h14 o =>
z_aload_n X 0 dX1_letItRain_52 rfl <|
z_getR (q := 3) X dX1_letItRain_53 fl_X1_15 sx_152 rfl <|
z_getIN X dX1_letItRain_56 fn_X1_31 sx_3 rfl o fun v15 r16 o =>
z_icmp_ne (tgt := 66) X dX1_letItRain_59 (by decide) h14 r16 o (fun o =>
z_iconst X dX1_letItRain_66 <|
ok_some o kb_0) fun o =>
z_iconst X dX1_letItRain_62 <|
z_goto (tgt := 67) X dX1_letItRain_63 (by decide) <|
ok_some o kb_1) ⟨kb_0, kc_0⟩ : At E s0 0 [(0, .ref (G.2.2.1 152))] [])
set_option maxHeartbeats 4000000 in
set_option maxRecDepth 100000 in
theorem ct_X3_lookAt (p1 : Int) (p2 : Int) (hp1 : rg p1) (hp2 : rg p2) (G : Gw) (s0 : St) (r : Int) (σ1 : St) (e : fX3_lookAt p1 p2 s0 = some (r, σ1)) : Ct yX3_lookAt cX3_lookAt 3 none 1 23 SX G [.ref (G.2.2.1 149), .int (pI p1), .int (pI p2)] s0 (QV SX G σ1) :=
  Ct.of (by decide +kernel) (Nat.le_of_ble_eq_true rfl) fun E X Y => by
    have o : Ok (fX3_lookAt p1 p2 s0) (fun x σ' => x = r ∧ σ' = σ1) := ⟨r, σ1, e, rfl, rfl⟩
    unfold fX3_lookAt at o
    exact (
z_aload_n X 0 dX3_lookAt_0 rfl <|
z_getR (q := 150) X dX3_lookAt_1 fl_X3_9 sx_149 rfl <|
z_iconst X dX3_lookAt_4 <|
z_callsV X dX3_lookAt_5 q_821 wJ7_fill_53178  (by decide) [.ref (G.2.2.1 150), .int (pI 0)] [] rfl rfl (Nat.le_of_ble_eq_true rfl) (fun r σ1 e => ct_J7_fill_53178 SX 150 10 0 sx_150 (by decide) kc_0 G _ r σ1 e) o fun r1 s2 o =>
z_aload_n X 0 dX3_lookAt_8 rfl <|
z_getR (q := 3) X dX3_lookAt_9 fl_X3_16 sx_149 rfl <|
z_iload_n X 1 dX3_lookAt_12 rfl <|
z_callvI X dX3_lookAt_13 q_824 wX2_hasPerson sx_3 rfl (by decide) [.int (pI p1)] [] rfl rfl (Nat.le_of_ble_eq_true rfl) (fun r σ1 e => ct_X2_hasPerson p1 hp1 G _ r σ1 e) o fun r4 s5 h6 o =>
z_join o (fun (y22 : Unit) s23 => True → At E s23 96 [(0, .ref (G.2.2.1 149)), (2, .int (pI p2))] []) (fun y22 s23 o r24 =>
z_aload_n X 0 dX3_lookAt_96 rfl <|
z_getR (q := 3) X dX3_lookAt_97 fl_X3_16 sx_149 rfl <|
z_iload_n X 1 dX3_lookAt_100 rfl <|
z_callvI X dX3_lookAt_101 q_825 wX2_hasPorch sx_3 rfl (by decide) [.int (pI p2)] [] rfl rfl (Nat.le_of_ble_eq_true rfl) (fun r σ1 e => ct_X2_hasPorch p2 hp2 G _ r σ1 e) o fun r25 s26 h27 o =>
z_join o (fun (y37 : Unit) s38 => True → At E s38 152 [(0, .ref (G.2.2.1 149))] []) (fun y37 s38 o r39 =>
z_aload_n X 0 dX3_lookAt_152 rfl <|
z_getR (q := 150) X dX3_lookAt_153 fl_X3_9 sx_149 rfl <|
z_bipush X dX3_lookAt_156 bi_6 <|
z_aload_n X 0 dX3_lookAt_158 rfl <|
z_getR (q := 3) X dX3_lookAt_159 fl_X3_16 sx_149 rfl <|
z_getIN X dX3_lookAt_162 fn_X3_101 sx_3 rfl o fun v40 r41 o =>
z_iast X dX3_lookAt_165 sx_150 kc_6 r41 o fun s42 o =>
z_aload_n X 0 dX3_lookAt_166 rfl <|
z_getR (q := 150) X dX3_lookAt_167 fl_X3_9 sx_149 rfl <|
z_bipush X dX3_lookAt_170 bi_9 <|
z_aload_n X 0 dX3_lookAt_172 rfl <|
z_getR (q := 3) X dX3_lookAt_173 fl_X3_16 sx_149 rfl <|
z_getIN X dX3_lookAt_176 fn_X3_105 sx_3 rfl o fun v43 r44 o =>
z_iast X dX3_lookAt_179 sx_150 kc_9 r44 o fun s45 o =>
z_vret (v := 0) X Y dX3_lookAt_180 o) fun o =>
z_if_eq (tgt := 152) X dX3_lookAt_104 (by decide) (r01_rg h27) o (fun o =>
z_sub (L1 := [(0, .ref (G.2.2.1 149))]) X [0] rfl <|
ok_some o trivial) fun o =>
z_aload_n X 0 dX3_lookAt_107 rfl <|
z_getR (q := 150) X dX3_lookAt_108 fl_X3_9 sx_149 rfl <|
z_iconst X dX3_lookAt_111 <|
z_aload_n X 0 dX3_lookAt_112 rfl <|
z_getR (q := 3) X dX3_lookAt_113 fl_X3_16 sx_149 rfl <|
z_getRN (q := 8) X dX3_lookAt_116 fn_X3_92 sx_3 rfl <|
z_iload_n X 1 dX3_lookAt_119 rfl <|
z_iald X dX3_lookAt_120 sx_8 hp2 o fun v28 r29 o =>
z_iast X dX3_lookAt_121 sx_150 kc_2 r29 o fun s30 o =>
z_aload_n X 0 dX3_lookAt_122 rfl <|
z_getR (q := 150) X dX3_lookAt_123 fl_X3_9 sx_149 rfl <|
z_iconst X dX3_lookAt_126 <|
z_aload_n X 0 dX3_lookAt_127 rfl <|
z_getR (q := 3) X dX3_lookAt_128 fl_X3_16 sx_149 rfl <|
z_getRN (q := 5) X dX3_lookAt_131 fn_X3_95 sx_3 rfl <|
z_iload_n X 1 dX3_lookAt_134 rfl <|
z_iald X dX3_lookAt_135 sx_5 hp2 o fun v31 r32 o =>
z_iast X dX3_lookAt_136 sx_150 kc_4 r32 o fun s33 o =>
z_aload_n X 0 dX3_lookAt_137 rfl <|
z_getR (q := 150) X dX3_lookAt_138 fl_X3_9 sx_149 rfl <|
z_iconst X dX3_lookAt_141 <|
z_aload_n X 0 dX3_lookAt_142 rfl <|
z_getR (q := 3) X dX3_lookAt_143 fl_X3_16 sx_149 rfl <|
z_getRN (q := 6) X dX3_lookAt_146 fn_X3_98 sx_3 rfl <|
z_iload_n X 1 dX3_lookAt_149 rfl <|
z_iald X dX3_lookAt_150 sx_6 hp2 o fun v34 r35 o =>
z_iast X dX3_lookAt_151 sx_150 kc_5 r35 o fun s36 o =>
z_sub (L1 := [(0, .ref (G.2.2.1 149))]) X [0] rfl <|
ok_some o trivial) fun o =>
z_if_eq (tgt := 96) X dX3_lookAt_16 (by decide) (r01_rg h6) o (fun o =>
z_sub (L1 := [(0, .ref (G.2.2.1 149)), (2, .int (pI p2))]) X [0, 2] rfl <|
ok_some o trivial) fun o =>
z_aload_n X 0 dX3_lookAt_19 rfl <|
z_getR (q := 150) X dX3_lookAt_20 fl_X3_9 sx_149 rfl <|
z_iconst X dX3_lookAt_23 <|
z_aload_n X 0 dX3_lookAt_24 rfl <|
z_getR (q := 3) X dX3_lookAt_25 fl_X3_16 sx_149 rfl <|
z_getRN (q := 9) X dX3_lookAt_28 fn_X3_74 sx_3 rfl <|
z_iload_n X 1 dX3_lookAt_31 rfl <|
z_iald X dX3_lookAt_32 sx_9 hp1 o fun v7 r8 o =>
z_iast X dX3_lookAt_33 sx_150 kc_0 r8 o fun s9 o =>
z_aload_n X 0 dX3_lookAt_34 rfl <|
z_getR (q := 150) X dX3_lookAt_35 fl_X3_9 sx_149 rfl <|
z_iconst X dX3_lookAt_38 <|
z_aload_n X 0 dX3_lookAt_39 rfl <|
z_getR (q := 3) X dX3_lookAt_40 fl_X3_16 sx_149 rfl <|
z_getRN (q := 10) X dX3_lookAt_43 fn_X3_77 sx_3 rfl <|
z_iload_n X 1 dX3_lookAt_46 rfl <|
z_iald X dX3_lookAt_47 sx_10 hp1 o fun v10 r11 o =>
z_iast X dX3_lookAt_48 sx_150 kc_1 r11 o fun s12 o =>
z_aload_n X 0 dX3_lookAt_49 rfl <|
z_getR (q := 150) X dX3_lookAt_50 fl_X3_9 sx_149 rfl <|
z_iconst X dX3_lookAt_53 <|
z_aload_n X 0 dX3_lookAt_54 rfl <|
z_getR (q := 3) X dX3_lookAt_55 fl_X3_16 sx_149 rfl <|
z_getRN (q := 12) X dX3_lookAt_58 fn_X3_80 sx_3 rfl <|
z_iload_n X 1 dX3_lookAt_61 rfl <|
z_iald X dX3_lookAt_62 sx_12 hp1 o fun v13 r14 o =>
z_iast X dX3_lookAt_63 sx_150 kc_3 r14 o fun s15 o =>
z_aload_n X 0 dX3_lookAt_64 rfl <|
z_getR (q := 150) X dX3_lookAt_65 fl_X3_9 sx_149 rfl <|
z_bipush X dX3_lookAt_68 bi_7 <|
z_aload_n X 0 dX3_lookAt_70 rfl <|
z_getR (q := 3) X dX3_lookAt_71 fl_X3_16 sx_149 rfl <|
z_getRN (q := 14) X dX3_lookAt_74 fn_X3_83 sx_3 rfl <|
z_iload_n X 1 dX3_lookAt_77 rfl <|
z_iald X dX3_lookAt_78 sx_14 hp1 o fun v16 r17 o =>
z_iast X dX3_lookAt_79 sx_150 kc_7 r17 o fun s18 o =>
z_aload_n X 0 dX3_lookAt_80 rfl <|
z_getR (q := 150) X dX3_lookAt_81 fl_X3_9 sx_149 rfl <|
z_bipush X dX3_lookAt_84 bi_8 <|
z_aload_n X 0 dX3_lookAt_86 rfl <|
z_getR (q := 3) X dX3_lookAt_87 fl_X3_16 sx_149 rfl <|
z_getRN (q := 15) X dX3_lookAt_90 fn_X3_86 sx_3 rfl <|
z_iload_n X 1 dX3_lookAt_93 rfl <|
z_iald X dX3_lookAt_94 sx_15 hp1 o fun v19 r20 o =>
z_iast X dX3_lookAt_95 sx_150 kc_8 r20 o fun s21 o =>
z_sub (L1 := [(0, .ref (G.2.2.1 149)), (2, .int (pI p2))]) X [0, 2] rfl <|
ok_some o trivial : At E s0 0 [(0, .ref (G.2.2.1 149)), (1, .int (pI p1)), (2, .int (pI p2))] [])
set_option maxHeartbeats 4000000 in
set_option maxRecDepth 100000 in
theorem ct_X3_joined (p1 : Int) (p2 : Int) (p3 : Int) (hp1 : rg p1) (hp2 : rg p2) (hp3 : rg p3) (G : Gw) (s0 : St) (r : Int) (σ1 : St) (e : fX3_joined p1 p2 p3 s0 = some (r, σ1)) : Ct yX3_joined cX3_joined 4 (some .int) 0 0 SX G [.int (pI p1), .int (pI p2), .int (pI p3)] s0 (QI SX G r rg σ1) :=
  Ct.of (by decide +kernel) (Nat.le_of_ble_eq_true rfl) fun E X Y => by
    have o : Ok (fX3_joined p1 p2 p3 s0) (fun x σ' => x = r ∧ σ' = σ1) := ⟨r, σ1, e, rfl, rfl⟩
    unfold fX3_joined at o
    exact (
z_iconst X dX3_joined_0 <|
z_istore_n (L1 := [(3, .int (pI 0)), (0, .int (pI p1)), (1, .int (pI p2)), (2, .int (pI p3))]) X dX3_joined_1 rfl (by decide) rfl <|
z_iload_n X 1 dX3_joined_2 rfl <|
z_cas o (fun c1 o =>
z_lsw (tgt := 92) X dX3_joined_3 hp1 rfl (by rw [c1]) (by decide) <|
z_iload_n X 2 dX3_joined_92 rfl <|
z_iload_n X 3 dX3_joined_93 rfl <|
z_imul X dX3_joined_94 <|
z_iret X Y dX3_joined_95 o (w32_rg _)) fun c1 o =>
z_cas o (fun c2 o =>
z_lsw (tgt := 84) X dX3_joined_3 hp1 rfl (by rw [c2]) (by decide) <|
z_iload_n X 2 dX3_joined_84 rfl <|
z_iload_n X 3 dX3_joined_85 rfl <|
z_iadd X dX3_joined_86 <|
z_iret X Y dX3_joined_87 o (w32_rg _)) fun c2 o =>
z_cas o (fun c3 o =>
z_lsw (tgt := 88) X dX3_joined_3 hp1 rfl (by rw [c3]) (by decide) <|
z_iload_n X 2 dX3_joined_88 rfl <|
z_iload_n X 3 dX3_joined_89 rfl <|
z_isub X dX3_joined_90 <|
z_iret X Y dX3_joined_91 o (w32_rg _)) fun c3 o =>
z_cas o (fun c4 o =>
z_lsw (tgt := 96) X dX3_joined_3 hp1 rfl (by rw [c4]) (by decide) <|
z_iload_n X 3 dX3_joined_96 rfl <|
z_if_ne (tgt := 104) X dX3_joined_97 (by decide) hp3 o (fun o =>
z_iload_n X 2 dX3_joined_104 rfl <|
z_iload_n X 3 dX3_joined_105 rfl <|
z_idiv X dX3_joined_106 hp2 hp3 o fun z5 o =>
z_iret X Y dX3_joined_107 o (w32_rg _)) fun o =>
z_iconst X dX3_joined_100 <|
z_goto (tgt := 107) X dX3_joined_101 (by decide) <|
z_iret X Y dX3_joined_107 o kc_0) fun c4 o =>
z_cas o (fun c6 o =>
z_lsw (tgt := 108) X dX3_joined_3 hp1 rfl (by rw [c6]) (by decide) <|
z_iload_n X 2 dX3_joined_108 rfl <|
z_iload_n X 3 dX3_joined_109 rfl <|
z_icmp_ge (tgt := 117) X dX3_joined_110 (by decide) hp2 hp3 o (fun o =>
z_iconst X dX3_joined_117 <|
z_istore_n (L1 := [(3, .int (pI 0)), (0, .int (pI p1)), (1, .int (pI p2)), (2, .int (pI p3))]) X dX3_joined_118 rfl (by decide) rfl <|
z_goto (tgt := 184) X dX3_joined_119 (by decide) <|
z_iload_n X 0 dX3_joined_184 rfl <|
z_if_eq (tgt := 192) X dX3_joined_185 (by decide) kc_0 o (fun o =>
z_iconst X dX3_joined_192 <|
z_iret X Y dX3_joined_193 o kc_0) fun o =>
z_iconst X dX3_joined_188 <|
z_goto (tgt := 193) X dX3_joined_189 (by decide) <|
z_iret X Y dX3_joined_193 o kc_1) fun o =>
z_iconst X dX3_joined_113 <|
z_goto (tgt := 118) X dX3_joined_114 (by decide) <|
z_istore_n (L1 := [(3, .int (pI 1)), (0, .int (pI p1)), (1, .int (pI p2)), (2, .int (pI p3))]) X dX3_joined_118 rfl (by decide) rfl <|
z_goto (tgt := 184) X dX3_joined_119 (by decide) <|
z_iload_n X 0 dX3_joined_184 rfl <|
z_if_eq (tgt := 192) X dX3_joined_185 (by decide) kc_1 o (fun o =>
z_iconst X dX3_joined_192 <|
z_iret X Y dX3_joined_193 o kc_0) fun o =>
z_iconst X dX3_joined_188 <|
z_goto (tgt := 193) X dX3_joined_189 (by decide) <|
z_iret X Y dX3_joined_193 o kc_1) fun c6 o =>
z_cas o (fun c7 o =>
z_lsw (tgt := 122) X dX3_joined_3 hp1 rfl (by rw [c7]) (by decide) <|
z_iload_n X 2 dX3_joined_122 rfl <|
z_iload_n X 3 dX3_joined_123 rfl <|
z_icmp_ne (tgt := 131) X dX3_joined_124 (by decide) hp2 hp3 o (fun o =>
z_iconst X dX3_joined_131 <|
z_istore_n (L1 := [(3, .int (pI 0)), (0, .int (pI p1)), (1, .int (pI p2)), (2, .int (pI p3))]) X dX3_joined_132 rfl (by decide) rfl <|
z_goto (tgt := 184) X dX3_joined_133 (by decide) <|
z_iload_n X 0 dX3_joined_184 rfl <|
z_if_eq (tgt := 192) X dX3_joined_185 (by decide) kc_0 o (fun o =>
z_iconst X dX3_joined_192 <|
z_iret X Y dX3_joined_193 o kc_0) fun o =>
z_iconst X dX3_joined_188 <|
z_goto (tgt := 193) X dX3_joined_189 (by decide) <|
z_iret X Y dX3_joined_193 o kc_1) fun o =>
z_iconst X dX3_joined_127 <|
z_goto (tgt := 132) X dX3_joined_128 (by decide) <|
z_istore_n (L1 := [(3, .int (pI 1)), (0, .int (pI p1)), (1, .int (pI p2)), (2, .int (pI p3))]) X dX3_joined_132 rfl (by decide) rfl <|
z_goto (tgt := 184) X dX3_joined_133 (by decide) <|
z_iload_n X 0 dX3_joined_184 rfl <|
z_if_eq (tgt := 192) X dX3_joined_185 (by decide) kc_1 o (fun o =>
z_iconst X dX3_joined_192 <|
z_iret X Y dX3_joined_193 o kc_0) fun o =>
z_iconst X dX3_joined_188 <|
z_goto (tgt := 193) X dX3_joined_189 (by decide) <|
z_iret X Y dX3_joined_193 o kc_1) fun c7 o =>
z_cas o (fun c8 o =>
z_lsw (tgt := 136) X dX3_joined_3 hp1 rfl (by rw [c8]) (by decide) <|
z_iload_n X 2 dX3_joined_136 rfl <|
z_iload_n X 3 dX3_joined_137 rfl <|
z_icmp_le (tgt := 145) X dX3_joined_138 (by decide) hp2 hp3 o (fun o =>
z_iconst X dX3_joined_145 <|
z_istore_n (L1 := [(3, .int (pI 0)), (0, .int (pI p1)), (1, .int (pI p2)), (2, .int (pI p3))]) X dX3_joined_146 rfl (by decide) rfl <|
z_goto (tgt := 184) X dX3_joined_147 (by decide) <|
z_iload_n X 0 dX3_joined_184 rfl <|
z_if_eq (tgt := 192) X dX3_joined_185 (by decide) kc_0 o (fun o =>
z_iconst X dX3_joined_192 <|
z_iret X Y dX3_joined_193 o kc_0) fun o =>
z_iconst X dX3_joined_188 <|
z_goto (tgt := 193) X dX3_joined_189 (by decide) <|
z_iret X Y dX3_joined_193 o kc_1) fun o =>
z_iconst X dX3_joined_141 <|
z_goto (tgt := 146) X dX3_joined_142 (by decide) <|
z_istore_n (L1 := [(3, .int (pI 1)), (0, .int (pI p1)), (1, .int (pI p2)), (2, .int (pI p3))]) X dX3_joined_146 rfl (by decide) rfl <|
z_goto (tgt := 184) X dX3_joined_147 (by decide) <|
z_iload_n X 0 dX3_joined_184 rfl <|
z_if_eq (tgt := 192) X dX3_joined_185 (by decide) kc_1 o (fun o =>
z_iconst X dX3_joined_192 <|
z_iret X Y dX3_joined_193 o kc_0) fun o =>
z_iconst X dX3_joined_188 <|
z_goto (tgt := 193) X dX3_joined_189 (by decide) <|
z_iret X Y dX3_joined_193 o kc_1) fun c8 o =>
z_cas o (fun c9 o =>
z_lsw (tgt := 167) X dX3_joined_3 hp1 rfl (by rw [c9]) (by decide) <|
z_iload_n X 2 dX3_joined_167 rfl <|
z_joix o (fun (y10 : Unit) s11 => True → At E s11 175 [] []) (fun y10 s11 o r12 =>
z_iconst X dX3_joined_175 <|
z_goto (tgt := 180) X dX3_joined_176 (by decide) <|
z_istore_n (L1 := [(3, .int (pI 1))]) X dX3_joined_180 rfl (by decide) rfl <|
z_goto (tgt := 184) X dX3_joined_181 (by decide) <|
z_iload_n X 0 dX3_joined_184 rfl <|
z_if_eq (tgt := 192) X dX3_joined_185 (by decide) kc_1 o (fun o =>
z_iconst X dX3_joined_192 <|
z_iret X Y dX3_joined_193 o kc_0) fun o =>
z_iconst X dX3_joined_188 <|
z_goto (tgt := 193) X dX3_joined_189 (by decide) <|
z_iret X Y dX3_joined_193 o kc_1) fun o =>
z_if_ne (tgt := 175) X dX3_joined_168 (by decide) hp2 o (fun o =>
z_sub (L1 := []) X [] rfl <|
ok_some o trivial) fun o =>
z_iload_n X 3 dX3_joined_171 rfl <|
z_if_eq (tgt := 179) X dX3_joined_172 (by decide) hp3 o (fun o =>
z_iconst X dX3_joined_179 <|
z_istore_n (L1 := [(3, .int (pI 0)), (0, .int (pI p1)), (1, .int (pI p2)), (2, .int (pI p3))]) X dX3_joined_180 rfl (by decide) rfl <|
z_goto (tgt := 184) X dX3_joined_181 (by decide) <|
z_iload_n X 0 dX3_joined_184 rfl <|
z_if_eq (tgt := 192) X dX3_joined_185 (by decide) kc_0 o (fun o =>
z_iconst X dX3_joined_192 <|
z_iret X Y dX3_joined_193 (ok_ret (ok_some o)) kc_0) fun o =>
z_iconst X dX3_joined_188 <|
z_goto (tgt := 193) X dX3_joined_189 (by decide) <|
z_iret X Y dX3_joined_193 (ok_ret (ok_some o)) kc_1) fun o =>
z_sub (L1 := []) X [] rfl <|
ok_some o trivial) fun c9 o =>
z_cas o (fun c13 o =>
z_lsw (tgt := 150) X dX3_joined_3 hp1 rfl (by rw [c13]) (by decide) <|
z_iload_n X 2 dX3_joined_150 rfl <|
z_joix o (fun (y14 : Unit) s15 => True → At E s15 162 [] []) (fun y14 s15 o r16 =>
z_iconst X dX3_joined_162 <|
z_istore_n (L1 := [(3, .int (pI 0))]) X dX3_joined_163 rfl (by decide) rfl <|
z_goto (tgt := 184) X dX3_joined_164 (by decide) <|
z_iload_n X 0 dX3_joined_184 rfl <|
z_if_eq (tgt := 192) X dX3_joined_185 (by decide) kc_0 o (fun o =>
z_iconst X dX3_joined_192 <|
z_iret X Y dX3_joined_193 o kc_0) fun o =>
z_iconst X dX3_joined_188 <|
z_goto (tgt := 193) X dX3_joined_189 (by decide) <|
z_iret X Y dX3_joined_193 o kc_1) fun o =>
z_if_eq (tgt := 162) X dX3_joined_151 (by decide) hp2 o (fun o =>
z_sub (L1 := []) X [] rfl <|
ok_some o trivial) fun o =>
z_iload_n X 3 dX3_joined_154 rfl <|
z_if_eq (tgt := 162) X dX3_joined_155 (by decide) hp3 o (fun o =>
z_sub (L1 := []) X [] rfl <|
ok_some o trivial) fun o =>
z_iconst X dX3_joined_158 <|
z_goto (tgt := 163) X dX3_joined_159 (by decide) <|
z_istore_n (L1 := [(3, .int (pI 1)), (0, .int (pI p1)), (1, .int (pI p2)), (2, .int (pI p3))]) X dX3_joined_163 rfl (by decide) rfl <|
z_goto (tgt := 184) X dX3_joined_164 (by decide) <|
z_iload_n X 0 dX3_joined_184 rfl <|
z_if_eq (tgt := 192) X dX3_joined_185 (by decide) kc_1 o (fun o =>
z_iconst X dX3_joined_192 <|
z_iret X Y dX3_joined_193 (ok_ret (ok_some o)) kc_0) fun o =>
z_iconst X dX3_joined_188 <|
z_goto (tgt := 193) X dX3_joined_189 (by decide) <|
z_iret X Y dX3_joined_193 (ok_ret (ok_some o)) kc_1) fun c13 o =>
z_lsw (tgt := 184) X dX3_joined_3 hp1 rfl (lsw_out (by simp [c1, c2, c3, c4, c6, c7, c8, c9, c13])) (by decide) <|
z_iload_n X 0 dX3_joined_184 rfl <|
z_if_eq (tgt := 192) X dX3_joined_185 (by decide) kc_0 o (fun o =>
z_iconst X dX3_joined_192 <|
z_iret X Y dX3_joined_193 o kc_0) fun o =>
z_iconst X dX3_joined_188 <|
z_goto (tgt := 193) X dX3_joined_189 (by decide) <|
z_iret X Y dX3_joined_193 o kc_1 : At E s0 0 [(0, .int (pI p1)), (1, .int (pI p2)), (2, .int (pI p3))] [])
set_option maxHeartbeats 4000000 in
set_option maxRecDepth 100000 in
theorem ct_X3_value (p1 : Int) (p2 : Int) (hp1 : rg p1) (hp2 : rg p2) (G : Gw) (s0 : St) (r : Int) (σ1 : St) (e : fX3_value p1 p2 s0 = some (r, σ1)) : Ct yX3_value cX3_value 7 (some .int) 1 23 SX G [.ref (G.2.2.1 149), .int (pI p1), .int (pI p2)] s0 (QI SX G r rg σ1) :=
  Ct.of (by decide +kernel) (Nat.le_of_ble_eq_true rfl) fun E X Y => by
    have o : Ok (fX3_value p1 p2 s0) (fun x σ' => x = r ∧ σ' = σ1) := ⟨r, σ1, e, rfl, rfl⟩
    unfold fX3_value at o
    exact (
z_iconst X dX3_value_0 <|
z_istore_n (L1 := [(3, .int (pI 0)), (0, .ref (G.2.2.1 149)), (1, .int (pI p1)), (2, .int (pI p2))]) X dX3_value_1 rfl (by decide) rfl <|
z_iload_n X 2 dX3_value_2 rfl <|
z_istore (L1 := [(4, .int (pI p1)), (3, .int (pI 0)), (0, .ref (G.2.2.1 149)), (1, .int (pI p1)), (2, .int (pI p2))]) X dX3_value_3 (by decide) rfl <|
z_joix o (fun (y31 : Int) s32 => rg y31 → At E s32 174 [(0, .ref (G.2.2.1 149)), (3, .int (pI y31))] []) (fun y31 s32 o r33 =>
z_iload_n X 1 dX3_value_174 rfl <|
z_if_le (tgt := 189) X dX3_value_175 (by decide) r33 o (fun o =>
z_iconst X dX3_value_189 <|
z_iret X Y dX3_value_190 o kc_0) fun o =>
z_aload_n X 0 dX3_value_178 rfl <|
z_getR (q := 151) X dX3_value_179 fl_X3_13 sx_149 rfl <|
z_iload_n X 1 dX3_value_182 rfl <|
z_iconst X dX3_value_183 <|
z_isub X dX3_value_184 <|
z_iald X dX3_value_185 sx_151 (w32_rg _) o fun v34 r35 o =>
z_goto (tgt := 190) X dX3_value_186 (by decide) <|
z_iret X Y dX3_value_190 o r35) fun o =>
z_sub (L1 := [(0, .ref (G.2.2.1 149)), (2, .int (pI p2)), (3, .int (pI 0)), (4, .int (pI p1))]) X [2, 4, 1, 0] rfl <|
z_iter (fun (x1 : Int × Int) s2 => rg x1.1 ∧ rg x1.2 → At E s2 5 [(0, .ref (G.2.2.1 149)), (2, .int (pI p2)), (3, .int (pI x1.1)), (4, .int (pI x1.2))] []) o (fun x1 s2 o r3 =>
z_iload X 3 dX3_value_5 rfl <|
z_iload_n X 1 dX3_value_7 rfl <|
z_icmp_ge (tgt := 174) X dX3_value_8 (by decide) r3.2 hp2 o (fun o =>
z_sub (L1 := [(0, .ref (G.2.2.1 149)), (3, .int (pI x1.1))]) X [0, 2] rfl <|
ok_some o r3.1) fun o =>
z_aload_n X 0 dX3_value_11 rfl <|
z_getR (q := 20) X dX3_value_12 fl_X3_32 sx_149 rfl <|
z_iload X 3 dX3_value_15 rfl <|
z_iconst X dX3_value_17 <|
z_callvI X dX3_value_18 q_827 wX6_get sx_20 rfl (by decide) [.int (pI x1.2), .int (pI 0)] [] rfl rfl (Nat.le_of_ble_eq_true rfl) (fun r σ1 e => ct_X6_get SX 20 21 400 x1.2 0 ⟨sx_20, sx_21, (by decide)⟩ r3.2 kc_0 G _ r σ1 e) o fun r4 s5 h6 o =>
z_istore (L1 := [(5, .int (pI r4)), (0, .ref (G.2.2.1 149)), (2, .int (pI p2)), (3, .int (pI x1.1)), (4, .int (pI x1.2))]) X dX3_value_21 (by decide) rfl <|
z_iload X 0 dX3_value_23 rfl <|
z_ineg X dX3_value_25 <|
z_sipush X dX3_value_26 si_270 <|
z_isub X dX3_value_29 <|
z_istoreL (L1 := fun v7 => [(6, .int (pI v7)), (5, .int (pI r4)), (0, .ref (G.2.2.1 149)), (2, .int (pI p2)), (3, .int (pI x1.1)), (4, .int (pI x1.2))]) (R := rg) X dX3_value_30 (by decide) (fun _ => rfl) o (w32_rg _) fun v7 r8 o =>
z_iload X 1 dX3_value_32 rfl <|
z_joix o (fun (y24 : Int × Int) s25 => rg y24.1 ∧ rg y24.2 → At E s25 48 [(0, .ref (G.2.2.1 149)), (2, .int (pI p2)), (3, .int (pI y24.1)), (4, .int (pI y24.2)), (5, .int (pI r4)), (6, .int (pI v7))] []) (fun y24 s25 o r26 =>
z_iload_n X 2 dX3_value_48 rfl <|
z_aload_n X 0 dX3_value_49 rfl <|
z_getR (q := 151) X dX3_value_50 fl_X3_13 sx_149 rfl <|
z_alen X dX3_value_53 sx_151 <|
z_icmp_lt (tgt := 59) X dX3_value_54 (by decide) r26.1 kc_40 o (fun o =>
z_aload_n X 0 dX3_value_59 rfl <|
z_getR (q := 151) X dX3_value_60 fl_X3_13 sx_149 rfl <|
z_iload_n X 2 dX3_value_63 rfl <|
z_iload X 4 dX3_value_64 rfl <|
z_if_lt (tgt := 74) X dX3_value_66 (by decide) h6 o (fun o =>
z_aload_n X 0 dX3_value_74 rfl <|
z_getR (q := 150) X dX3_value_75 fl_X3_9 sx_149 rfl <|
z_iload X 5 dX3_value_78 rfl <|
z_iald X dX3_value_80 sx_150 r8 o fun v27 r28 o =>
z_iast X dX3_value_81 sx_151 r26.1 r28 o fun s29 o =>
z_iinc (L1 := [(3, .int (pI (w32 (y24.1 + 1)))), (0, .ref (G.2.2.1 149)), (2, .int (pI p2)), (4, .int (pI y24.2)), (5, .int (pI r4)), (6, .int (pI v7))]) X 2 dX3_value_82 rfl (by decide) rfl <|
z_goto (tgt := 168) X dX3_value_85 (by decide) <|
z_iinc (L1 := [(4, .int (pI (w32 (y24.2 + 1)))), (3, .int (pI (w32 (y24.1 + 1)))), (0, .ref (G.2.2.1 149)), (2, .int (pI p2)), (5, .int (pI r4)), (6, .int (pI v7))]) X 3 dX3_value_168 rfl (by decide) rfl <|
z_goto (tgt := 5) X dX3_value_171 (by decide) <|
z_sub (L1 := [(0, .ref (G.2.2.1 149)), (2, .int (pI p2)), (3, .int (pI (w32 (y24.1 + 1)))), (4, .int (pI (w32 (y24.2 + 1))))]) X [2, 3, 1, 0] rfl <|
ok_some o ⟨(w32_rg _), (w32_rg _)⟩) fun o =>
z_iload X 4 dX3_value_69 rfl <|
z_goto (tgt := 81) X dX3_value_71 (by decide) <|
z_iast X dX3_value_81 sx_151 r26.1 h6 o fun s30 o =>
z_iinc (L1 := [(3, .int (pI (w32 (y24.1 + 1)))), (0, .ref (G.2.2.1 149)), (2, .int (pI p2)), (4, .int (pI y24.2)), (5, .int (pI r4)), (6, .int (pI v7))]) X 2 dX3_value_82 rfl (by decide) rfl <|
z_goto (tgt := 168) X dX3_value_85 (by decide) <|
z_iinc (L1 := [(4, .int (pI (w32 (y24.2 + 1)))), (3, .int (pI (w32 (y24.1 + 1)))), (0, .ref (G.2.2.1 149)), (2, .int (pI p2)), (5, .int (pI r4)), (6, .int (pI v7))]) X 3 dX3_value_168 rfl (by decide) rfl <|
z_goto (tgt := 5) X dX3_value_171 (by decide) <|
z_sub (L1 := [(0, .ref (G.2.2.1 149)), (2, .int (pI p2)), (3, .int (pI (w32 (y24.1 + 1)))), (4, .int (pI (w32 (y24.2 + 1))))]) X [2, 3, 1, 0] rfl <|
ok_some o ⟨(w32_rg _), (w32_rg _)⟩) fun o =>
z_iconst X dX3_value_57 <|
z_iret X Y dX3_value_58 (ok_ret (ok_some o)) kc_0) fun o =>
z_if_ge (tgt := 48) X dX3_value_34 (by decide) h6 o (fun o =>
z_sub (L1 := [(0, .ref (G.2.2.1 149)), (2, .int (pI p2)), (3, .int (pI x1.1)), (4, .int (pI x1.2)), (5, .int (pI r4)), (6, .int (pI v7))]) X [2, 3, 4, 5, 1, 0] rfl <|
ok_some o ⟨r3.1, r3.2⟩) fun o =>
z_iload X 0 dX3_value_37 rfl <|
z_iconst X dX3_value_39 <|
z_bipush X dX3_value_40 bi_9 <|
z_callsIN X dX3_value_42 q_832 wX11_within  (by decide) [.int (pI v7), .int (pI 0), .int (pI 9)] [] rfl rfl (Nat.le_of_ble_eq_true rfl) (fun r σ1 e => ct_X11_within v7 0 9 r8 kc_0 kc_9 G _ r σ1 e) o fun r9 s10 h11 o =>
z_if_eq (tgt := 88) X dX3_value_45 (by decide) (r01_rg h11) o (fun o =>
z_iload X 1 dX3_value_88 rfl <|
z_sipush X dX3_value_90 si_m266 <|
z_icmp_ne (tgt := 130) X dX3_value_93 (by decide) h6 kc_m266 o (fun o =>
z_iload_n X 4 dX3_value_130 rfl <|
z_iconst X dX3_value_131 <|
z_icmp_ge (tgt := 137) X dX3_value_132 (by decide) r3.1 kc_2 o (fun o =>
z_iinc (L1 := [(3, .int (pI (w32 (x1.1 + (-1))))), (6, .int (pI v7)), (5, .int (pI r4)), (0, .ref (G.2.2.1 149)), (2, .int (pI p2)), (4, .int (pI x1.2))]) X 4 dX3_value_137 rfl (by decide) rfl <|
z_aload_n X 3 dX3_value_140 rfl <|
z_getR (q := 151) X dX3_value_141 fl_X3_13 sx_149 rfl <|
z_iload_n X 0 dX3_value_144 rfl <|
z_iconst X dX3_value_145 <|
z_isub X dX3_value_146 <|
z_iload X 2 dX3_value_147 rfl <|
z_ineg X dX3_value_149 <|
z_aload_n X 3 dX3_value_150 rfl <|
z_getR (q := 151) X dX3_value_151 fl_X3_13 sx_149 rfl <|
z_iload_n X 0 dX3_value_154 rfl <|
z_iconst X dX3_value_155 <|
z_isub X dX3_value_156 <|
z_iald X dX3_value_157 sx_151 (w32_rg _) o fun v12 r13 o =>
z_aload_n X 3 dX3_value_158 rfl <|
z_getR (q := 151) X dX3_value_159 fl_X3_13 sx_149 rfl <|
z_iload_n X 0 dX3_value_162 rfl <|
z_iald X dX3_value_163 sx_151 (w32_rg _) o fun v14 r15 o =>
z_callsI X dX3_value_164 q_833 wX3_joined  (by decide) [.int (pI (w32 (-r4))), .int (pI v12), .int (pI v14)] [.int (pI (w32 (w32 (x1.1 + (-1)) - 1))), .ref (G.2.2.1 151)] rfl rfl (Nat.le_of_ble_eq_true rfl) (fun r σ1 e => ct_X3_joined (w32 (-r4)) v12 v14 (w32_rg _) r13 r15 G _ r σ1 e) o fun r16 s17 h18 o =>
z_iast X dX3_value_167 sx_151 (w32_rg _) h18 o fun s19 o =>
z_iinc (L1 := [(4, .int (pI (w32 (x1.2 + 1)))), (3, .int (pI (w32 (x1.1 + (-1))))), (6, .int (pI v7)), (5, .int (pI r4)), (0, .ref (G.2.2.1 149)), (2, .int (pI p2))]) X 5 dX3_value_168 rfl (by decide) rfl <|
z_goto (tgt := 5) X dX3_value_171 (by decide) <|
z_sub (L1 := [(0, .ref (G.2.2.1 149)), (2, .int (pI p2)), (3, .int (pI (w32 (x1.1 + (-1))))), (4, .int (pI (w32 (x1.2 + 1))))]) X [4, 5, 1, 0] rfl <|
ok_some o ⟨(w32_rg _), (w32_rg _)⟩) fun o =>
z_iconst X dX3_value_135 <|
z_iret X Y dX3_value_136 (ok_ret (ok_some o)) kc_0) fun o =>
z_iload_n X 4 dX3_value_96 rfl <|
z_iconst X dX3_value_97 <|
z_icmp_ge (tgt := 103) X dX3_value_98 (by decide) r3.1 kc_1 o (fun o =>
z_aload_n X 2 dX3_value_103 rfl <|
z_getR (q := 151) X dX3_value_104 fl_X3_13 sx_149 rfl <|
z_iload_n X 4 dX3_value_107 rfl <|
z_iconst X dX3_value_108 <|
z_isub X dX3_value_109 <|
z_aload_n X 2 dX3_value_110 rfl <|
z_getR (q := 151) X dX3_value_111 fl_X3_13 sx_149 rfl <|
z_iload_n X 4 dX3_value_114 rfl <|
z_iconst X dX3_value_115 <|
z_isub X dX3_value_116 <|
z_iald X dX3_value_117 sx_151 (w32_rg _) o fun v20 r21 o =>
z_if_ne (tgt := 125) X dX3_value_118 (by decide) r21 o (fun o =>
z_iconst X dX3_value_125 <|
z_iast X dX3_value_126 sx_151 (w32_rg _) kc_0 o fun s22 o =>
z_goto (tgt := 168) X dX3_value_127 (by decide) <|
z_iinc (L1 := [(4, .int (pI (w32 (x1.2 + 1)))), (6, .int (pI v7)), (5, .int (pI r4)), (0, .ref (G.2.2.1 149)), (2, .int (pI p2)), (3, .int (pI x1.1))]) X 5 dX3_value_168 rfl (by decide) rfl <|
z_goto (tgt := 5) X dX3_value_171 (by decide) <|
z_sub (L1 := [(0, .ref (G.2.2.1 149)), (2, .int (pI p2)), (3, .int (pI x1.1)), (4, .int (pI (w32 (x1.2 + 1))))]) X [3, 4, 5, 0] rfl <|
ok_some o ⟨r3.1, (w32_rg _)⟩) fun o =>
z_iconst X dX3_value_121 <|
z_goto (tgt := 126) X dX3_value_122 (by decide) <|
z_iast X dX3_value_126 sx_151 (w32_rg _) kc_1 o fun s23 o =>
z_goto (tgt := 168) X dX3_value_127 (by decide) <|
z_iinc (L1 := [(4, .int (pI (w32 (x1.2 + 1)))), (6, .int (pI v7)), (5, .int (pI r4)), (0, .ref (G.2.2.1 149)), (2, .int (pI p2)), (3, .int (pI x1.1))]) X 5 dX3_value_168 rfl (by decide) rfl <|
z_goto (tgt := 5) X dX3_value_171 (by decide) <|
z_sub (L1 := [(0, .ref (G.2.2.1 149)), (2, .int (pI p2)), (3, .int (pI x1.1)), (4, .int (pI (w32 (x1.2 + 1))))]) X [3, 4, 5, 0] rfl <|
ok_some o ⟨r3.1, (w32_rg _)⟩) fun o =>
z_iconst X dX3_value_101 <|
z_iret X Y dX3_value_102 (ok_ret (ok_some o)) kc_0) fun o =>
z_sub (L1 := [(0, .ref (G.2.2.1 149)), (2, .int (pI p2)), (3, .int (pI x1.1)), (4, .int (pI x1.2)), (5, .int (pI r4)), (6, .int (pI v7))]) X [2, 3, 4, 5, 1, 0] rfl <|
ok_some o ⟨r3.1, r3.2⟩) ⟨kc_0, hp1⟩ : At E s0 0 [(0, .ref (G.2.2.1 149)), (1, .int (pI p1)), (2, .int (pI p2))] [])
