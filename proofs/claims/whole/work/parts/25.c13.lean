set_option maxHeartbeats 4000000 in
set_option maxRecDepth 100000 in
theorem ct_X12_readCalls   (G : Gw) (s0 : St) (r : Int) (σ1 : St) (e : fX12_readCalls s0 = some (r, σ1)) : Ct yX12_readCalls cX12_readCalls 2 (some .int) 6 132 SM G [.ref (G.2.2.1 0)] s0 (QI SM G r rg σ1) :=
  Ct.of (by decide +kernel) (Nat.le_of_ble_eq_true rfl) fun E X Y => by
    have o : Ok (fX12_readCalls s0) (fun x σ' => x = r ∧ σ' = σ1) := ⟨r, σ1, e, rfl, rfl⟩
    unfold fX12_readCalls at o
    exact (
z_iconst X dX12_readCalls_0 <|
z_istore_n (L1 := [(1, .int (pI 0)), (0, .ref (G.2.2.1 0))]) X dX12_readCalls_1 rfl (by decide) rfl <|
z_joix o (fun (y15 : Int) s16 => rg y15 → At E s16 46 [(0, .ref (G.2.2.1 0)), (1, .int (pI y15))] []) (fun y15 s16 o r17 =>
z_aload_n X 0 dX12_readCalls_46 rfl <|
z_getI X dX12_readCalls_47 fl_X12_236 sm_0 rfl o fun v18 r19 o =>
z_if_ne (tgt := 57) X dX12_readCalls_50 (by decide) r19 o (fun o =>
z_aload_n X 0 dX12_readCalls_57 rfl <|
z_iconst X dX12_readCalls_58 <|
z_callvI X dX12_readCalls_59 q_1898 wX12_errs sm_0 rfl (by decide) [.int (pI 1)] [] rfl rfl (Nat.le_of_ble_eq_true rfl) (fun r σ1 e => ct_X12_errs 1 kc_1 G _ r σ1 e) o fun r20 s21 h22 o =>
z_iret X Y dX12_readCalls_62 o h22) fun o =>
z_iload_n X 1 dX12_readCalls_53 rfl <|
z_goto (tgt := 62) X dX12_readCalls_54 (by decide) <|
z_iret X Y dX12_readCalls_62 o r17) fun o =>
z_sub (L1 := [(0, .ref (G.2.2.1 0)), (1, .int (pI 0))]) X [1, 0] rfl <|
z_iter (fun (x1 : Int) s2 => rg x1 → At E s2 2 [(0, .ref (G.2.2.1 0)), (1, .int (pI x1))] []) o (fun x1 s2 o r3 =>
z_aload_n X 0 dX12_readCalls_2 rfl <|
z_bipush X dX12_readCalls_3 bi_17 <|
z_callvI X dX12_readCalls_5 q_1894 wX12_isWord sm_0 rfl (by decide) [.int (pI 17)] [] rfl rfl (Nat.le_of_ble_eq_true rfl) (fun r σ1 e => ct_X12_isWord 17 kc_17 G _ r σ1 e) o fun r4 s5 h6 o =>
z_if_eq (tgt := 46) X dX12_readCalls_8 (by decide) (r01_rg h6) o (fun o =>
ok_some o r3) fun o =>
z_iload_n X 1 dX12_readCalls_11 rfl <|
z_bipush X dX12_readCalls_12 bi_16 <|
z_icmp_ne (tgt := 23) X dX12_readCalls_14 (by decide) r3 kc_16 o (fun o =>
z_aload_n X 0 dX12_readCalls_23 rfl <|
z_bipush X dX12_readCalls_24 bi_64 <|
z_iconst X dX12_readCalls_26 <|
z_iload_n X 1 dX12_readCalls_27 rfl <|
z_imul X dX12_readCalls_28 <|
z_iadd X dX12_readCalls_29 <|
z_callvI X dX12_readCalls_30 q_1902 wX12_readCall sm_0 rfl (by decide) [.int (pI (w32 (64 + w32 (4 * x1))))] [] rfl rfl (Nat.le_of_ble_eq_true rfl) (fun r σ1 e => ct_X12_readCall (w32 (64 + w32 (4 * x1))) (w32_rg _) G _ r σ1 e) o fun r7 s8 h9 o =>
z_iconst X dX12_readCalls_33 <|
z_icmp_ne (tgt := 39) X dX12_readCalls_34 (by decide) h9 kc_m1 o (fun o =>
z_iload_n X 1 dX12_readCalls_39 rfl <|
z_iconst X dX12_readCalls_40 <|
z_iadd X dX12_readCalls_41 <|
z_istoreL_n (L1 := fun v10 => [(1, .int (pI v10)), (0, .ref (G.2.2.1 0))]) (R := rg) X dX12_readCalls_42 rfl (by decide) (fun _ => rfl) o (w32_rg _) fun v10 r11 o =>
z_goto (tgt := 2) X dX12_readCalls_43 (by decide) <|
z_sub (L1 := [(0, .ref (G.2.2.1 0)), (1, .int (pI v10))]) X [1, 0] rfl <|
ok_some o r11) fun o =>
z_iconst X dX12_readCalls_37 <|
z_iret X Y dX12_readCalls_38 (ok_ret (ok_some o)) kc_m1) fun o =>
z_aload_n X 0 dX12_readCalls_17 rfl <|
z_iconst X dX12_readCalls_18 <|
z_callvI X dX12_readCalls_19 q_1898 wX12_errs sm_0 rfl (by decide) [.int (pI 3)] [] rfl rfl (Nat.le_of_ble_eq_true rfl) (fun r σ1 e => ct_X12_errs 3 kc_3 G _ r σ1 e) o fun r12 s13 h14 o =>
z_iret X Y dX12_readCalls_22 (ok_ret (ok_some o)) h14) kc_0 : At E s0 0 [(0, .ref (G.2.2.1 0))] [])
set_option maxHeartbeats 4000000 in
set_option maxRecDepth 100000 in
theorem ct_X12_readDeed (p1 : Int) (hp1 : rg p1) (G : Gw) (s0 : St) (r : Int) (σ1 : St) (e : fX12_readDeed p1 s0 = some (r, σ1)) : Ct yX12_readDeed cX12_readDeed 3 (some .int) 5 111 SM G [.ref (G.2.2.1 0), .int (pI p1)] s0 (QI SM G r rg σ1) :=
  Ct.of (by decide +kernel) (Nat.le_of_ble_eq_true rfl) fun E X Y => by
    have o : Ok (fX12_readDeed p1 s0) (fun x σ' => x = r ∧ σ' = σ1) := ⟨r, σ1, e, rfl, rfl⟩
    unfold fX12_readDeed at o
    exact (
z_aload_n X 0 dX12_readDeed_0 rfl <|
z_getR (q := 19) X dX12_readDeed_1 fl_X12_68 sm_0 rfl <|
z_iload_n X 1 dX12_readDeed_4 rfl <|
z_aload_n X 0 dX12_readDeed_5 rfl <|
z_bipush X dX12_readDeed_6 bi_21 <|
z_iconst X dX12_readDeed_8 <|
z_sipush X dX12_readDeed_9 si_999 <|
z_callvI X dX12_readDeed_12 q_1906 wX12_readTold sm_0 rfl (by decide) [.int (pI 21), .int (pI 0), .int (pI 999)] [.int (pI p1), .ref (G.2.2.1 19)] rfl rfl (Nat.le_of_ble_eq_true rfl) (fun r σ1 e => ct_X12_readTold 21 0 999 kc_21 kc_0 kc_999 G _ r σ1 e) o fun r1 s2 h3 o =>
z_iast X dX12_readDeed_15 sm_19 hp1 h3 o fun s4 o =>
z_aload_n X 0 dX12_readDeed_16 rfl <|
z_getR (q := 19) X dX12_readDeed_17 fl_X12_68 sm_0 rfl <|
z_iload_n X 1 dX12_readDeed_20 rfl <|
z_iald X dX12_readDeed_21 sm_19 hp1 o fun v5 r6 o =>
z_iconst X dX12_readDeed_22 <|
z_icmp_ne (tgt := 28) X dX12_readDeed_23 (by decide) r6 kc_m1 o (fun o =>
z_aload_n X 0 dX12_readDeed_28 rfl <|
z_getI X dX12_readDeed_29 fl_X12_236 sm_0 rfl o fun v7 r8 o =>
z_iconst X dX12_readDeed_32 <|
z_joix o (fun (y50 : Unit) s51 => True → At E s51 51 [(0, .ref (G.2.2.1 0))] []) (fun y50 s51 o r52 =>
z_aload_n X 0 dX12_readDeed_51 rfl <|
z_iconst X dX12_readDeed_52 <|
z_callvI X dX12_readDeed_53 q_1898 wX12_errs sm_0 rfl (by decide) [.int (pI 1)] [] rfl rfl (Nat.le_of_ble_eq_true rfl) (fun r σ1 e => ct_X12_errs 1 kc_1 G _ r σ1 e) o fun r53 s54 h55 o =>
z_iret X Y dX12_readDeed_56 o h55) fun o =>
z_icmp_ne (tgt := 51) X dX12_readDeed_33 (by decide) r8 kc_2 o (fun o =>
z_sub (L1 := [(0, .ref (G.2.2.1 0))]) X [0] rfl <|
ok_some o trivial) fun o =>
z_aload_n X 0 dX12_readDeed_36 rfl <|
z_aload_n X 0 dX12_readDeed_37 rfl <|
z_getI X dX12_readDeed_38 fl_X12_239 sm_0 rfl o fun v9 r10 o =>
z_bipush X dX12_readDeed_41 bi_22 <|
z_bipush X dX12_readDeed_43 bi_25 <|
z_callvI X dX12_readDeed_45 q_1822 wX12_isIn sm_0 rfl (by decide) [.int (pI v9), .int (pI 22), .int (pI 25)] [] rfl rfl (Nat.le_of_ble_eq_true rfl) (fun r σ1 e => ct_X12_isIn v9 22 25 r10 kc_22 kc_25 G _ r σ1 e) o fun r11 s12 h13 o =>
z_if_ne (tgt := 57) X dX12_readDeed_48 (by decide) (r01_rg h13) o (fun o =>
z_aload_n X 0 dX12_readDeed_57 rfl <|
z_getI X dX12_readDeed_58 fl_X12_239 sm_0 rfl o fun v14 r15 o =>
z_bipush X dX12_readDeed_61 bi_22 <|
z_isub X dX12_readDeed_63 <|
z_istoreL_n (L1 := fun v16 => [(2, .int (pI v16)), (0, .ref (G.2.2.1 0)), (1, .int (pI p1))]) (R := rg) X dX12_readDeed_64 rfl (by decide) (fun _ => rfl) o (w32_rg _) fun v16 r17 o =>
z_aload_n X 1 dX12_readDeed_65 rfl <|
z_callvV X dX12_readDeed_66 q_1866 wX12_reads sm_0 rfl (by decide) [] [] rfl rfl (Nat.le_of_ble_eq_true rfl) (fun r σ1 e => ct_X12_reads G _ r σ1 e) o fun r18 s19 o =>
z_aload_n X 1 dX12_readDeed_69 rfl <|
z_getR (q := 19) X dX12_readDeed_70 fl_X12_68 sm_0 rfl <|
z_iload_n X 2 dX12_readDeed_73 rfl <|
z_iconst X dX12_readDeed_74 <|
z_iadd X dX12_readDeed_75 <|
z_iload_n X 0 dX12_readDeed_76 rfl <|
z_iast X dX12_readDeed_77 sm_19 (w32_rg _) r17 o fun s21 o =>
z_aload_n X 1 dX12_readDeed_78 rfl <|
z_getR (q := 19) X dX12_readDeed_79 fl_X12_68 sm_0 rfl <|
z_iload_n X 2 dX12_readDeed_82 rfl <|
z_iconst X dX12_readDeed_83 <|
z_iadd X dX12_readDeed_84 <|
z_aload_n X 1 dX12_readDeed_85 rfl <|
z_iconst X dX12_readDeed_86 <|
z_iload_n X 0 dX12_readDeed_87 rfl <|
z_iconst X dX12_readDeed_88 <|
z_join o (fun (y24 : Int) s25 => rg y24 → At E s25 103 [(0, .ref (G.2.2.1 0)), (1, .int (pI p1)), (2, .int (pI v16))] [.int (pI y24), .int (pI 0), .ref (G.2.2.1 0), .int (pI (w32 (p1 + 2))), .ref (G.2.2.1 19)]) (fun y24 s25 o r26 =>
z_callvI X dX12_readDeed_103 q_1910 wX12_readNumber sm_0 rfl (by decide) [.int (pI 0), .int (pI y24)] [.int (pI (w32 (p1 + 2))), .ref (G.2.2.1 19)] rfl rfl (Nat.le_of_ble_eq_true rfl) (fun r σ1 e => ct_X12_readNumber 0 y24 kc_0 r26 G _ r σ1 e) o fun r27 s28 h29 o =>
z_iast X dX12_readDeed_106 sm_19 (w32_rg _) h29 o fun s30 o =>
z_aload_n X 0 dX12_readDeed_107 rfl <|
z_getR (q := 19) X dX12_readDeed_108 fl_X12_68 sm_0 rfl <|
z_iload_n X 1 dX12_readDeed_111 rfl <|
z_iconst X dX12_readDeed_112 <|
z_iadd X dX12_readDeed_113 <|
z_iald X dX12_readDeed_114 sm_19 (w32_rg _) o fun v31 r32 o =>
z_iconst X dX12_readDeed_115 <|
z_icmp_ne (tgt := 121) X dX12_readDeed_116 (by decide) r32 kc_m1 o (fun o =>
z_aload_n X 0 dX12_readDeed_121 rfl <|
z_getR (q := 19) X dX12_readDeed_122 fl_X12_68 sm_0 rfl <|
z_iload_n X 1 dX12_readDeed_125 rfl <|
z_iconst X dX12_readDeed_126 <|
z_iadd X dX12_readDeed_127 <|
z_iload_n X 2 dX12_readDeed_128 rfl <|
z_join o (fun (y41 : Int) s42 => rg y41 → At E s42 162 [(0, .ref (G.2.2.1 0)), (1, .int (pI p1))] [.int (pI y41), .int (pI (w32 (p1 + 3))), .ref (G.2.2.1 19)]) (fun y41 s42 o r43 =>
z_iast X dX12_readDeed_162 sm_19 (w32_rg _) r43 o fun s44 o =>
z_aload_n X 0 dX12_readDeed_163 rfl <|
z_getR (q := 19) X dX12_readDeed_164 fl_X12_68 sm_0 rfl <|
z_iload_n X 1 dX12_readDeed_167 rfl <|
z_iconst X dX12_readDeed_168 <|
z_iadd X dX12_readDeed_169 <|
z_iald X dX12_readDeed_170 sm_19 (w32_rg _) o fun v45 r46 o =>
z_iconst X dX12_readDeed_171 <|
z_icmp_ne (tgt := 179) X dX12_readDeed_172 (by decide) r46 kc_m1 o (fun o =>
z_aload_n X 0 dX12_readDeed_179 rfl <|
z_bipush X dX12_readDeed_180 bi_59 <|
z_callvI X dX12_readDeed_182 q_1914 wX12_readMark sm_0 rfl (by decide) [.int (pI 59)] [] rfl rfl (Nat.le_of_ble_eq_true rfl) (fun r σ1 e => ct_X12_readMark 59 kc_59 G _ r σ1 e) o fun r47 s48 h49 o =>
z_iret X Y dX12_readDeed_185 (ok_ret (ok_some o)) h49) fun o =>
z_iconst X dX12_readDeed_175 <|
z_goto (tgt := 185) X dX12_readDeed_176 (by decide) <|
z_iret X Y dX12_readDeed_185 (ok_ret (ok_some o)) kc_m1) fun o =>
z_if_ne (tgt := 142) X dX12_readDeed_129 (by decide) r17 o (fun o =>
z_iload_n X 2 dX12_readDeed_142 rfl <|
z_iconst X dX12_readDeed_143 <|
z_icmp_ne (tgt := 161) X dX12_readDeed_144 (by decide) r17 kc_3 o (fun o =>
z_iconst X dX12_readDeed_161 <|
z_sub (L1 := [(0, .ref (G.2.2.1 0)), (1, .int (pI p1))]) X [0, 1] rfl <|
ok_some o kc_0) fun o =>
z_aload_n X 0 dX12_readDeed_147 rfl <|
z_iconst X dX12_readDeed_148 <|
z_aload_n X 0 dX12_readDeed_149 rfl <|
z_getI X dX12_readDeed_150 fl_X12_199 sm_0 rfl o fun v33 r34 o =>
z_iconst X dX12_readDeed_153 <|
z_isub X dX12_readDeed_154 <|
z_callvI X dX12_readDeed_155 q_1910 wX12_readNumber sm_0 rfl (by decide) [.int (pI 0), .int (pI (w32 (v33 - 1)))] [.int (pI (w32 (p1 + 3))), .ref (G.2.2.1 19)] rfl rfl (Nat.le_of_ble_eq_true rfl) (fun r σ1 e => ct_X12_readNumber 0 (w32 (v33 - 1)) kc_0 (w32_rg _) G _ r σ1 e) o fun r35 s36 h37 o =>
z_goto (tgt := 162) X dX12_readDeed_158 (by decide) <|
z_sub (L1 := [(0, .ref (G.2.2.1 0)), (1, .int (pI p1))]) X [0, 1] rfl <|
ok_some o h37) fun o =>
z_aload_n X 0 dX12_readDeed_132 rfl <|
z_iconst X dX12_readDeed_133 <|
z_bipush X dX12_readDeed_134 bi_99 <|
z_callvI X dX12_readDeed_136 q_1910 wX12_readNumber sm_0 rfl (by decide) [.int (pI 0), .int (pI 99)] [.int (pI (w32 (p1 + 3))), .ref (G.2.2.1 19)] rfl rfl (Nat.le_of_ble_eq_true rfl) (fun r σ1 e => ct_X12_readNumber 0 99 kc_0 kc_99 G _ r σ1 e) o fun r38 s39 h40 o =>
z_goto (tgt := 162) X dX12_readDeed_139 (by decide) <|
z_sub (L1 := [(0, .ref (G.2.2.1 0)), (1, .int (pI p1))]) X [0, 1] rfl <|
ok_some o h40) fun o =>
z_iconst X dX12_readDeed_119 <|
z_iret X Y dX12_readDeed_120 (ok_ret (ok_some o)) kc_m1) fun o =>
z_icmp_ne (tgt := 97) X dX12_readDeed_89 (by decide) r17 kc_2 o (fun o =>
z_aload_n X 1 dX12_readDeed_97 rfl <|
z_getI X dX12_readDeed_98 fl_X12_196 sm_0 rfl o fun v22 r23 o =>
z_iconst X dX12_readDeed_101 <|
z_isub X dX12_readDeed_102 <|
z_sub (L1 := [(0, .ref (G.2.2.1 0)), (1, .int (pI p1)), (2, .int (pI v16))]) X [1, 2, 0] rfl <|
ok_some o (w32_rg _)) fun o =>
z_bipush X dX12_readDeed_92 bi_59 <|
z_goto (tgt := 103) X dX12_readDeed_94 (by decide) <|
z_sub (L1 := [(0, .ref (G.2.2.1 0)), (1, .int (pI p1)), (2, .int (pI v16))]) X [1, 2, 0] rfl <|
ok_some o kc_59) fun o =>
z_sub (L1 := [(0, .ref (G.2.2.1 0))]) X [0] rfl <|
ok_some o trivial) fun o =>
z_iconst X dX12_readDeed_26 <|
z_iret X Y dX12_readDeed_27 o kc_m1 : At E s0 0 [(0, .ref (G.2.2.1 0)), (1, .int (pI p1))] [])
set_option maxHeartbeats 4000000 in
set_option maxRecDepth 100000 in
theorem ct_X12_readEvenings   (G : Gw) (s0 : St) (r : Int) (σ1 : St) (e : fX12_readEvenings s0 = some (r, σ1)) : Ct yX12_readEvenings cX12_readEvenings 2 (some .int) 6 133 SM G [.ref (G.2.2.1 0)] s0 (QI SM G r rg σ1) :=
  Ct.of (by decide +kernel) (Nat.le_of_ble_eq_true rfl) fun E X Y => by
    have o : Ok (fX12_readEvenings s0) (fun x σ' => x = r ∧ σ' = σ1) := ⟨r, σ1, e, rfl, rfl⟩
    unfold fX12_readEvenings at o
    exact (
z_iconst X dX12_readEvenings_0 <|
z_istore_n (L1 := [(1, .int (pI 0)), (0, .ref (G.2.2.1 0))]) X dX12_readEvenings_1 rfl (by decide) rfl <|
z_joix o (fun (y15 : Int) s16 => rg y15 → At E s16 46 [(0, .ref (G.2.2.1 0)), (1, .int (pI y15))] []) (fun y15 s16 o r17 =>
z_aload_n X 0 dX12_readEvenings_46 rfl <|
z_getI X dX12_readEvenings_47 fl_X12_236 sm_0 rfl o fun v18 r19 o =>
z_if_ne (tgt := 57) X dX12_readEvenings_50 (by decide) r19 o (fun o =>
z_aload_n X 0 dX12_readEvenings_57 rfl <|
z_iconst X dX12_readEvenings_58 <|
z_callvI X dX12_readEvenings_59 q_1898 wX12_errs sm_0 rfl (by decide) [.int (pI 1)] [] rfl rfl (Nat.le_of_ble_eq_true rfl) (fun r σ1 e => ct_X12_errs 1 kc_1 G _ r σ1 e) o fun r20 s21 h22 o =>
z_iret X Y dX12_readEvenings_62 o h22) fun o =>
z_iload_n X 1 dX12_readEvenings_53 rfl <|
z_goto (tgt := 62) X dX12_readEvenings_54 (by decide) <|
z_iret X Y dX12_readEvenings_62 o r17) fun o =>
z_sub (L1 := [(0, .ref (G.2.2.1 0)), (1, .int (pI 0))]) X [1, 0] rfl <|
z_iter (fun (x1 : Int) s2 => rg x1 → At E s2 2 [(0, .ref (G.2.2.1 0)), (1, .int (pI x1))] []) o (fun x1 s2 o r3 =>
z_aload_n X 0 dX12_readEvenings_2 rfl <|
z_bipush X dX12_readEvenings_3 bi_21 <|
z_callvI X dX12_readEvenings_5 q_1894 wX12_isWord sm_0 rfl (by decide) [.int (pI 21)] [] rfl rfl (Nat.le_of_ble_eq_true rfl) (fun r σ1 e => ct_X12_isWord 21 kc_21 G _ r σ1 e) o fun r4 s5 h6 o =>
z_if_eq (tgt := 46) X dX12_readEvenings_8 (by decide) (r01_rg h6) o (fun o =>
ok_some o r3) fun o =>
z_iload_n X 1 dX12_readEvenings_11 rfl <|
z_bipush X dX12_readEvenings_12 bi_16 <|
z_icmp_ne (tgt := 23) X dX12_readEvenings_14 (by decide) r3 kc_16 o (fun o =>
z_aload_n X 0 dX12_readEvenings_23 rfl <|
z_bipush X dX12_readEvenings_24 bi_64 <|
z_iconst X dX12_readEvenings_26 <|
z_iload_n X 1 dX12_readEvenings_27 rfl <|
z_imul X dX12_readEvenings_28 <|
z_iadd X dX12_readEvenings_29 <|
z_callvI X dX12_readEvenings_30 q_1926 wX12_readDeed sm_0 rfl (by decide) [.int (pI (w32 (64 + w32 (4 * x1))))] [] rfl rfl (Nat.le_of_ble_eq_true rfl) (fun r σ1 e => ct_X12_readDeed (w32 (64 + w32 (4 * x1))) (w32_rg _) G _ r σ1 e) o fun r7 s8 h9 o =>
z_iconst X dX12_readEvenings_33 <|
z_icmp_ne (tgt := 39) X dX12_readEvenings_34 (by decide) h9 kc_m1 o (fun o =>
z_iload_n X 1 dX12_readEvenings_39 rfl <|
z_iconst X dX12_readEvenings_40 <|
z_iadd X dX12_readEvenings_41 <|
z_istoreL_n (L1 := fun v10 => [(1, .int (pI v10)), (0, .ref (G.2.2.1 0))]) (R := rg) X dX12_readEvenings_42 rfl (by decide) (fun _ => rfl) o (w32_rg _) fun v10 r11 o =>
z_goto (tgt := 2) X dX12_readEvenings_43 (by decide) <|
z_sub (L1 := [(0, .ref (G.2.2.1 0)), (1, .int (pI v10))]) X [1, 0] rfl <|
ok_some o r11) fun o =>
z_iconst X dX12_readEvenings_37 <|
z_iret X Y dX12_readEvenings_38 (ok_ret (ok_some o)) kc_m1) fun o =>
z_aload_n X 0 dX12_readEvenings_17 rfl <|
z_iconst X dX12_readEvenings_18 <|
z_callvI X dX12_readEvenings_19 q_1898 wX12_errs sm_0 rfl (by decide) [.int (pI 3)] [] rfl rfl (Nat.le_of_ble_eq_true rfl) (fun r σ1 e => ct_X12_errs 3 kc_3 G _ r σ1 e) o fun r12 s13 h14 o =>
z_iret X Y dX12_readEvenings_22 (ok_ret (ok_some o)) h14) kc_0 : At E s0 0 [(0, .ref (G.2.2.1 0))] [])
set_option maxHeartbeats 4000000 in
set_option maxRecDepth 100000 in
theorem ct_X12_readLaw   (G : Gw) (s0 : St) (r : Int) (σ1 : St) (e : fX12_readLaw s0 = some (r, σ1)) : Ct yX12_readLaw cX12_readLaw 3 (some .int) 8 172 SM G [.ref (G.2.2.1 0)] s0 (QI SM G r rg σ1) :=
  Ct.of (by decide +kernel) (Nat.le_of_ble_eq_true rfl) fun E X Y => by
    have o : Ok (fX12_readLaw s0) (fun x σ' => x = r ∧ σ' = σ1) := ⟨r, σ1, e, rfl, rfl⟩
    unfold fX12_readLaw at o
    exact (
z_iconst X dX12_readLaw_0 <|
z_istore_n (L1 := [(1, .int (pI 0)), (0, .ref (G.2.2.1 0))]) X dX12_readLaw_1 rfl (by decide) rfl <|
z_joix o (fun (y53 : Int) s54 => rg y53 → At E s54 128 [(0, .ref (G.2.2.1 0)), (1, .int (pI y53))] []) (fun y53 s54 o r55 =>
z_aload_n X 0 dX12_readLaw_128 rfl <|
z_getI X dX12_readLaw_129 fl_X12_236 sm_0 rfl o fun v56 r57 o =>
z_if_ne (tgt := 139) X dX12_readLaw_132 (by decide) r57 o (fun o =>
z_aload_n X 0 dX12_readLaw_139 rfl <|
z_iconst X dX12_readLaw_140 <|
z_callvI X dX12_readLaw_141 q_1898 wX12_errs sm_0 rfl (by decide) [.int (pI 1)] [] rfl rfl (Nat.le_of_ble_eq_true rfl) (fun r σ1 e => ct_X12_errs 1 kc_1 G _ r σ1 e) o fun r58 s59 h60 o =>
z_iret X Y dX12_readLaw_144 o h60) fun o =>
z_iload_n X 1 dX12_readLaw_135 rfl <|
z_goto (tgt := 144) X dX12_readLaw_136 (by decide) <|
z_iret X Y dX12_readLaw_144 o r55) fun o =>
z_sub (L1 := [(0, .ref (G.2.2.1 0)), (1, .int (pI 0))]) X [1, 0] rfl <|
z_iter (fun (x1 : Int) s2 => rg x1 → At E s2 2 [(0, .ref (G.2.2.1 0)), (1, .int (pI x1))] []) o (fun x1 s2 o r3 =>
z_aload_n X 0 dX12_readLaw_2 rfl <|
z_callvI X dX12_readLaw_3 q_1946 wX12_isLineWord sm_0 rfl (by decide) [] [] rfl rfl (Nat.le_of_ble_eq_true rfl) (fun r σ1 e => ct_X12_isLineWord G _ r σ1 e) o fun r4 s5 h6 o =>
z_if_eq (tgt := 128) X dX12_readLaw_6 (by decide) (r01_rg h6) o (fun o =>
ok_some o r3) fun o =>
z_iload_n X 1 dX12_readLaw_9 rfl <|
z_bipush X dX12_readLaw_10 bi_16 <|
z_icmp_ne (tgt := 21) X dX12_readLaw_12 (by decide) r3 kc_16 o (fun o =>
z_bipush X dX12_readLaw_21 bi_32 <|
z_iload_n X 1 dX12_readLaw_23 rfl <|
z_iadd X dX12_readLaw_24 <|
z_istoreL_n (L1 := fun v7 => [(2, .int (pI v7)), (0, .ref (G.2.2.1 0)), (1, .int (pI x1))]) (R := rg) X dX12_readLaw_25 rfl (by decide) (fun _ => rfl) o (w32_rg _) fun v7 r8 o =>
z_aload_n X 1 dX12_readLaw_26 rfl <|
z_getR (q := 11) X dX12_readLaw_27 fl_X12_40 sm_0 rfl <|
z_iload_n X 0 dX12_readLaw_30 rfl <|
z_aload_n X 1 dX12_readLaw_31 rfl <|
z_getI X dX12_readLaw_32 fl_X12_239 sm_0 rfl o fun v9 r10 o =>
z_iast X dX12_readLaw_35 sm_11 r8 r10 o fun s11 o =>
z_aload_n X 1 dX12_readLaw_36 rfl <|
z_callvV X dX12_readLaw_37 q_1866 wX12_reads sm_0 rfl (by decide) [] [] rfl rfl (Nat.le_of_ble_eq_true rfl) (fun r σ1 e => ct_X12_reads G _ r σ1 e) o fun r12 s13 o =>
z_aload_n X 1 dX12_readLaw_40 rfl <|
z_getR (q := 12) X dX12_readLaw_41 fl_X12_43 sm_0 rfl <|
z_iload_n X 0 dX12_readLaw_44 rfl <|
z_aload_n X 1 dX12_readLaw_45 rfl <|
z_getI X dX12_readLaw_46 fl_X12_261 sm_0 rfl o fun v15 r16 o =>
z_iast X dX12_readLaw_49 sm_12 r8 r16 o fun s17 o =>
z_aload_n X 1 dX12_readLaw_50 rfl <|
z_callvI X dX12_readLaw_51 q_1950 wX12_readSum sm_0 rfl (by decide) [] [] rfl rfl (Nat.le_of_ble_eq_true rfl) (fun r σ1 e => ct_X12_readSum G _ r σ1 e) o fun r18 s19 h20 o =>
z_iconst X dX12_readLaw_54 <|
z_icmp_ne (tgt := 60) X dX12_readLaw_55 (by decide) h20 kc_m1 o (fun o =>
z_aload_n X 1 dX12_readLaw_60 rfl <|
z_getR (q := 13) X dX12_readLaw_61 fl_X12_46 sm_0 rfl <|
z_iload_n X 0 dX12_readLaw_64 rfl <|
z_aload_n X 1 dX12_readLaw_65 rfl <|
z_getI X dX12_readLaw_66 fl_X12_261 sm_0 rfl o fun v21 r22 o =>
z_iast X dX12_readLaw_69 sm_13 r8 r22 o fun s23 o =>
z_aload_n X 1 dX12_readLaw_70 rfl <|
z_iconst X dX12_readLaw_71 <|
z_callvI X dX12_readLaw_72 q_1894 wX12_isWord sm_0 rfl (by decide) [.int (pI 3)] [] rfl rfl (Nat.le_of_ble_eq_true rfl) (fun r σ1 e => ct_X12_isWord 3 kc_3 G _ r σ1 e) o fun r24 s25 h26 o =>
z_joix o (fun (y33 : Unit) s34 => True → At E s34 92 [(0, .ref (G.2.2.1 0)), (1, .int (pI x1)), (2, .int (pI v7))] []) (fun y33 s34 o r35 =>
z_aload_n X 0 dX12_readLaw_92 rfl <|
z_getR (q := 14) X dX12_readLaw_93 fl_X12_49 sm_0 rfl <|
z_iload_n X 2 dX12_readLaw_96 rfl <|
z_aload_n X 0 dX12_readLaw_97 rfl <|
z_getI X dX12_readLaw_98 fl_X12_261 sm_0 rfl o fun v36 r37 o =>
z_iast X dX12_readLaw_101 sm_14 r8 r37 o fun s38 o =>
z_aload_n X 0 dX12_readLaw_102 rfl <|
z_bipush X dX12_readLaw_103 bi_59 <|
z_callvI X dX12_readLaw_105 q_1918 wX12_isSign sm_0 rfl (by decide) [.int (pI 59)] [] rfl rfl (Nat.le_of_ble_eq_true rfl) (fun r σ1 e => ct_X12_isSign 59 kc_59 G _ r σ1 e) o fun r39 s40 h41 o =>
z_if_ne (tgt := 117) X dX12_readLaw_108 (by decide) (r01_rg h41) o (fun o =>
z_aload_n X 0 dX12_readLaw_117 rfl <|
z_callvV X dX12_readLaw_118 q_1866 wX12_reads sm_0 rfl (by decide) [] [] rfl rfl (Nat.le_of_ble_eq_true rfl) (fun r σ1 e => ct_X12_reads G _ r σ1 e) o fun r42 s43 o =>
z_iload_n X 1 dX12_readLaw_121 rfl <|
z_iconst X dX12_readLaw_122 <|
z_iadd X dX12_readLaw_123 <|
z_istoreL_n (L1 := fun v45 => [(1, .int (pI v45)), (0, .ref (G.2.2.1 0)), (2, .int (pI v7))]) (R := rg) X dX12_readLaw_124 rfl (by decide) (fun _ => rfl) o (w32_rg _) fun v45 r46 o =>
z_goto (tgt := 2) X dX12_readLaw_125 (by decide) <|
z_sub (L1 := [(0, .ref (G.2.2.1 0)), (1, .int (pI v45))]) X [1, 0] rfl <|
ok_some o r46) fun o =>
z_aload_n X 0 dX12_readLaw_111 rfl <|
z_iconst X dX12_readLaw_112 <|
z_callvI X dX12_readLaw_113 q_1898 wX12_errs sm_0 rfl (by decide) [.int (pI 1)] [] rfl rfl (Nat.le_of_ble_eq_true rfl) (fun r σ1 e => ct_X12_errs 1 kc_1 G _ r σ1 e) o fun r47 s48 h49 o =>
z_iret X Y dX12_readLaw_116 (ok_ret (ok_some o)) h49) fun o =>
z_if_eq (tgt := 92) X dX12_readLaw_75 (by decide) (r01_rg h26) o (fun o =>
z_sub (L1 := [(0, .ref (G.2.2.1 0)), (1, .int (pI x1)), (2, .int (pI v7))]) X [1, 2, 0] rfl <|
ok_some o trivial) fun o =>
z_aload_n X 1 dX12_readLaw_78 rfl <|
z_callvV X dX12_readLaw_79 q_1866 wX12_reads sm_0 rfl (by decide) [] [] rfl rfl (Nat.le_of_ble_eq_true rfl) (fun r σ1 e => ct_X12_reads G _ r σ1 e) o fun r27 s28 o =>
z_aload_n X 1 dX12_readLaw_82 rfl <|
z_callvI X dX12_readLaw_83 q_1970 wX12_readAny sm_0 rfl (by decide) [] [] rfl rfl (Nat.le_of_ble_eq_true rfl) (fun r σ1 e => ct_X12_readAny G _ r σ1 e) o fun r30 s31 h32 o =>
z_iconst X dX12_readLaw_86 <|
z_icmp_ne (tgt := 92) X dX12_readLaw_87 (by decide) h32 kc_m1 o (fun o =>
z_sub (L1 := [(0, .ref (G.2.2.1 0)), (1, .int (pI x1)), (2, .int (pI v7))]) X [1, 2, 0] rfl <|
ok_some o trivial) fun o =>
z_iconst X dX12_readLaw_90 <|
z_iret X Y dX12_readLaw_91 (ok_ret (ok_some o)) kc_m1) fun o =>
z_iconst X dX12_readLaw_58 <|
z_iret X Y dX12_readLaw_59 (ok_ret (ok_some o)) kc_m1) fun o =>
z_aload_n X 0 dX12_readLaw_15 rfl <|
z_iconst X dX12_readLaw_16 <|
z_callvI X dX12_readLaw_17 q_1898 wX12_errs sm_0 rfl (by decide) [.int (pI 3)] [] rfl rfl (Nat.le_of_ble_eq_true rfl) (fun r σ1 e => ct_X12_errs 3 kc_3 G _ r σ1 e) o fun r50 s51 h52 o =>
z_iret X Y dX12_readLaw_20 (ok_ret (ok_some o)) h52) kc_0 : At E s0 0 [(0, .ref (G.2.2.1 0))] [])
set_option maxHeartbeats 4000000 in
set_option maxRecDepth 100000 in
theorem ct_X12_takesFeet (p1 : Int) (p2 : Int) (hp1 : rg p1) (hp2 : rg p2) (G : Gw) (s0 : St) (r : Int) (σ1 : St) (e : fX12_takesFeet p1 p2 s0 = some (r, σ1)) : Ct yX12_takesFeet cX12_takesFeet 3 none 0 0 SM G [.ref (G.2.2.1 0), .int (pI p1), .int (pI p2)] s0 (QV SM G σ1) :=
  Ct.of (by decide +kernel) (Nat.le_of_ble_eq_true rfl) fun E X Y => by
    have o : Ok (fX12_takesFeet p1 p2 s0) (fun x σ' => x = r ∧ σ' = σ1) := ⟨r, σ1, e, rfl, rfl⟩
    unfold fX12_takesFeet at o
    exact (
z_aload_n X 0 dX12_takesFeet_0 rfl <|
z_getR (q := 20) X dX12_takesFeet_1 fl_X12_71 sm_0 rfl <|
z_iload_n X 1 dX12_takesFeet_4 rfl <|
z_iald X dX12_takesFeet_5 sm_20 hp1 o fun v1 r2 o =>
z_if_eq (tgt := 19) X dX12_takesFeet_6 (by decide) r2 o (fun o =>
z_aload_n X 0 dX12_takesFeet_19 rfl <|
z_getR (q := 20) X dX12_takesFeet_20 fl_X12_71 sm_0 rfl <|
z_iload_n X 1 dX12_takesFeet_23 rfl <|
z_iload_n X 2 dX12_takesFeet_24 rfl <|
z_iast X dX12_takesFeet_25 sm_20 hp1 hp2 o fun s3 o =>
z_vret (v := 0) X Y dX12_takesFeet_26 o) fun o =>
z_iload_n X 2 dX12_takesFeet_9 rfl <|
z_aload_n X 0 dX12_takesFeet_10 rfl <|
z_getR (q := 20) X dX12_takesFeet_11 fl_X12_71 sm_0 rfl <|
z_iload_n X 1 dX12_takesFeet_14 rfl <|
z_iald X dX12_takesFeet_15 sm_20 hp1 o fun v4 r5 o =>
z_icmp_ge (tgt := 26) X dX12_takesFeet_16 (by decide) hp2 r5 o (fun o =>
z_vret (v := 0) X Y dX12_takesFeet_26 o) fun o =>
z_aload_n X 0 dX12_takesFeet_19 rfl <|
z_getR (q := 20) X dX12_takesFeet_20 fl_X12_71 sm_0 rfl <|
z_iload_n X 1 dX12_takesFeet_23 rfl <|
z_iload_n X 2 dX12_takesFeet_24 rfl <|
z_iast X dX12_takesFeet_25 sm_20 hp1 hp2 o fun s6 o =>
z_vret (v := 0) X Y dX12_takesFeet_26 o : At E s0 0 [(0, .ref (G.2.2.1 0)), (1, .int (pI p1)), (2, .int (pI p2))] [])
set_option maxHeartbeats 4000000 in
set_option maxRecDepth 100000 in
theorem ct_X12_readRoad   (G : Gw) (s0 : St) (r : Int) (σ1 : St) (e : fX12_readRoad s0 = some (r, σ1)) : Ct yX12_readRoad cX12_readRoad 4 (some .int) 5 111 SM G [.ref (G.2.2.1 0)] s0 (QI SM G r rg σ1) :=
  Ct.of (by decide +kernel) (Nat.le_of_ble_eq_true rfl) fun E X Y => by
    have o : Ok (fX12_readRoad s0) (fun x σ' => x = r ∧ σ' = σ1) := ⟨r, σ1, e, rfl, rfl⟩
    unfold fX12_readRoad at o
    exact (
z_aload_n X 0 dX12_readRoad_0 rfl <|
z_bipush X dX12_readRoad_1 bi_26 <|
z_iconst X dX12_readRoad_3 <|
z_aload_n X 0 dX12_readRoad_4 rfl <|
z_getI X dX12_readRoad_5 fl_X12_196 sm_0 rfl o fun v1 r2 o =>
z_iconst X dX12_readRoad_8 <|
z_isub X dX12_readRoad_9 <|
z_callvI X dX12_readRoad_10 q_1906 wX12_readTold sm_0 rfl (by decide) [.int (pI 26), .int (pI 0), .int (pI (w32 (v1 - 1)))] [] rfl rfl (Nat.le_of_ble_eq_true rfl) (fun r σ1 e => ct_X12_readTold 26 0 (w32 (v1 - 1)) kc_26 kc_0 (w32_rg _) G _ r σ1 e) o fun r3 s4 h5 o =>
z_istore_n (L1 := [(1, .int (pI r3)), (0, .ref (G.2.2.1 0))]) X dX12_readRoad_13 rfl (by decide) rfl <|
z_iload_n X 0 dX12_readRoad_14 rfl <|
z_iconst X dX12_readRoad_15 <|
z_icmp_ne (tgt := 21) X dX12_readRoad_16 (by decide) h5 kc_m1 o (fun o =>
z_aload_n X 1 dX12_readRoad_21 rfl <|
z_bipush X dX12_readRoad_22 bi_27 <|
z_callvI X dX12_readRoad_24 q_1894 wX12_isWord sm_0 rfl (by decide) [.int (pI 27)] [] rfl rfl (Nat.le_of_ble_eq_true rfl) (fun r σ1 e => ct_X12_isWord 27 kc_27 G _ r σ1 e) o fun r6 s7 h8 o =>
z_if_ne (tgt := 36) X dX12_readRoad_27 (by decide) (r01_rg h8) o (fun o =>
z_aload_n X 1 dX12_readRoad_36 rfl <|
z_callvV X dX12_readRoad_37 q_1866 wX12_reads sm_0 rfl (by decide) [] [] rfl rfl (Nat.le_of_ble_eq_true rfl) (fun r σ1 e => ct_X12_reads G _ r σ1 e) o fun r9 s10 o =>
z_aload_n X 1 dX12_readRoad_40 rfl <|
z_getI X dX12_readRoad_41 fl_X12_236 sm_0 rfl o fun v12 r13 o =>
z_iconst X dX12_readRoad_44 <|
z_joix o (fun (y19 : Unit) s20 => True → At E s20 62 [(0, .ref (G.2.2.1 0)), (1, .int (pI r3))] []) (fun y19 s20 o r21 =>
z_aload_n X 0 dX12_readRoad_62 rfl <|
z_iconst X dX12_readRoad_63 <|
z_aload_n X 0 dX12_readRoad_64 rfl <|
z_getI X dX12_readRoad_65 fl_X12_196 sm_0 rfl o fun v22 r23 o =>
z_iconst X dX12_readRoad_68 <|
z_isub X dX12_readRoad_69 <|
z_callvI X dX12_readRoad_70 q_1910 wX12_readNumber sm_0 rfl (by decide) [.int (pI 0), .int (pI (w32 (v22 - 1)))] [] rfl rfl (Nat.le_of_ble_eq_true rfl) (fun r σ1 e => ct_X12_readNumber 0 (w32 (v22 - 1)) kc_0 (w32_rg _) G _ r σ1 e) o fun r24 s25 h26 o =>
z_istore_n (L1 := [(2, .int (pI r24)), (0, .ref (G.2.2.1 0)), (1, .int (pI r3))]) X dX12_readRoad_73 rfl (by decide) rfl <|
z_iload_n X 0 dX12_readRoad_74 rfl <|
z_iconst X dX12_readRoad_75 <|
z_icmp_ne (tgt := 81) X dX12_readRoad_76 (by decide) h26 kc_m1 o (fun o =>
z_aload_n X 1 dX12_readRoad_81 rfl <|
z_iconst X dX12_readRoad_82 <|
z_bipush X dX12_readRoad_83 bi_99 <|
z_callvI X dX12_readRoad_85 q_1910 wX12_readNumber sm_0 rfl (by decide) [.int (pI 1), .int (pI 99)] [] rfl rfl (Nat.le_of_ble_eq_true rfl) (fun r σ1 e => ct_X12_readNumber 1 99 kc_1 kc_99 G _ r σ1 e) o fun r27 s28 h29 o =>
z_istore_n (L1 := [(3, .int (pI r27)), (2, .int (pI r24)), (0, .ref (G.2.2.1 0)), (1, .int (pI r3))]) X dX12_readRoad_88 rfl (by decide) rfl <|
z_iload_n X 0 dX12_readRoad_89 rfl <|
z_iconst X dX12_readRoad_90 <|
z_icmp_ne (tgt := 96) X dX12_readRoad_91 (by decide) h29 kc_m1 o (fun o =>
z_aload_n X 2 dX12_readRoad_96 rfl <|
z_sipush X dX12_readRoad_97 si_144 <|
z_bipush X dX12_readRoad_100 bi_12 <|
z_iload_n X 3 dX12_readRoad_102 rfl <|
z_imul X dX12_readRoad_103 <|
z_iadd X dX12_readRoad_104 <|
z_iload_n X 1 dX12_readRoad_105 rfl <|
z_iadd X dX12_readRoad_106 <|
z_iload_n X 0 dX12_readRoad_107 rfl <|
z_callvV X dX12_readRoad_108 q_1938 wX12_takesFeet sm_0 rfl (by decide) [.int (pI (w32 (w32 (144 + w32 (12 * r3)) + r24))), .int (pI r27)] [] rfl rfl (Nat.le_of_ble_eq_true rfl) (fun r σ1 e => ct_X12_takesFeet (w32 (w32 (144 + w32 (12 * r3)) + r24)) r27 (w32_rg _) h29 G _ r σ1 e) o fun r30 s31 o =>
z_aload_n X 2 dX12_readRoad_111 rfl <|
z_sipush X dX12_readRoad_112 si_144 <|
z_bipush X dX12_readRoad_115 bi_12 <|
z_iload_n X 1 dX12_readRoad_117 rfl <|
z_imul X dX12_readRoad_118 <|
z_iadd X dX12_readRoad_119 <|
z_iload_n X 3 dX12_readRoad_120 rfl <|
z_iadd X dX12_readRoad_121 <|
z_iload_n X 0 dX12_readRoad_122 rfl <|
z_callvV X dX12_readRoad_123 q_1938 wX12_takesFeet sm_0 rfl (by decide) [.int (pI (w32 (w32 (144 + w32 (12 * r24)) + r3))), .int (pI r27)] [] rfl rfl (Nat.le_of_ble_eq_true rfl) (fun r σ1 e => ct_X12_takesFeet (w32 (w32 (144 + w32 (12 * r24)) + r3)) r27 (w32_rg _) h29 G _ r σ1 e) o fun r33 s34 o =>
z_aload_n X 2 dX12_readRoad_126 rfl <|
z_bipush X dX12_readRoad_127 bi_59 <|
z_callvI X dX12_readRoad_129 q_1914 wX12_readMark sm_0 rfl (by decide) [.int (pI 59)] [] rfl rfl (Nat.le_of_ble_eq_true rfl) (fun r σ1 e => ct_X12_readMark 59 kc_59 G _ r σ1 e) o fun r36 s37 h38 o =>
z_iret X Y dX12_readRoad_132 o h38) fun o =>
z_iconst X dX12_readRoad_94 <|
z_iret X Y dX12_readRoad_95 o kc_m1) fun o =>
z_iconst X dX12_readRoad_79 <|
z_iret X Y dX12_readRoad_80 o kc_m1) fun o =>
z_icmp_ne (tgt := 62) X dX12_readRoad_45 (by decide) r13 kc_3 o (fun o =>
z_sub (L1 := [(0, .ref (G.2.2.1 0)), (1, .int (pI r3))]) X [1, 0] rfl <|
ok_some o trivial) fun o =>
z_aload_n X 1 dX12_readRoad_48 rfl <|
z_getI X dX12_readRoad_49 fl_X12_239 sm_0 rfl o fun v14 r15 o =>
z_iload_n X 0 dX12_readRoad_52 rfl <|
z_icmp_ne (tgt := 62) X dX12_readRoad_53 (by decide) r15 h5 o (fun o =>
z_sub (L1 := [(0, .ref (G.2.2.1 0)), (1, .int (pI r3))]) X [1, 0] rfl <|
ok_some o trivial) fun o =>
z_aload_n X 1 dX12_readRoad_56 rfl <|
z_iconst X dX12_readRoad_57 <|
z_callvI X dX12_readRoad_58 q_1898 wX12_errs sm_0 rfl (by decide) [.int (pI 2)] [] rfl rfl (Nat.le_of_ble_eq_true rfl) (fun r σ1 e => ct_X12_errs 2 kc_2 G _ r σ1 e) o fun r16 s17 h18 o =>
z_iret X Y dX12_readRoad_61 (ok_ret (ok_some o)) h18) fun o =>
z_aload_n X 1 dX12_readRoad_30 rfl <|
z_iconst X dX12_readRoad_31 <|
z_callvI X dX12_readRoad_32 q_1898 wX12_errs sm_0 rfl (by decide) [.int (pI 1)] [] rfl rfl (Nat.le_of_ble_eq_true rfl) (fun r σ1 e => ct_X12_errs 1 kc_1 G _ r σ1 e) o fun r39 s40 h41 o =>
z_iret X Y dX12_readRoad_35 o h41) fun o =>
z_iconst X dX12_readRoad_19 <|
z_iret X Y dX12_readRoad_20 o kc_m1 : At E s0 0 [(0, .ref (G.2.2.1 0))] [])
set_option maxHeartbeats 4000000 in
set_option maxRecDepth 100000 in
theorem ct_X12_readStreet   (G : Gw) (s0 : St) (r : Int) (σ1 : St) (e : fX12_readStreet s0 = some (r, σ1)) : Ct yX12_readStreet cX12_readStreet 2 (some .int) 6 134 SM G [.ref (G.2.2.1 0)] s0 (QI SM G r rg σ1) :=
  Ct.of (by decide +kernel) (Nat.le_of_ble_eq_true rfl) fun E X Y => by
    have o : Ok (fX12_readStreet s0) (fun x σ' => x = r ∧ σ' = σ1) := ⟨r, σ1, e, rfl, rfl⟩
    unfold fX12_readStreet at o
    exact (
z_iconst X dX12_readStreet_0 <|
z_istore_n (L1 := [(1, .int (pI 0)), (0, .ref (G.2.2.1 0))]) X dX12_readStreet_1 rfl (by decide) rfl <|
z_join o (fun (y5 : Unit) s6 => True → At E s6 26 [(0, .ref (G.2.2.1 0))] []) (fun y5 s6 o r7 =>
z_iconst X dX12_readStreet_26 <|
z_istore_n (L1 := [(1, .int (pI 0)), (0, .ref (G.2.2.1 0))]) X dX12_readStreet_27 rfl (by decide) rfl <|
z_joix o (fun (y22 : Int) s23 => rg y22 → At E s23 66 [(0, .ref (G.2.2.1 0)), (1, .int (pI y22))] []) (fun y22 s23 o r24 =>
z_aload_n X 0 dX12_readStreet_66 rfl <|
z_getI X dX12_readStreet_67 fl_X12_236 sm_0 rfl o fun v25 r26 o =>
z_if_ne (tgt := 77) X dX12_readStreet_70 (by decide) r26 o (fun o =>
z_aload_n X 0 dX12_readStreet_77 rfl <|
z_iconst X dX12_readStreet_78 <|
z_callvI X dX12_readStreet_79 q_1898 wX12_errs sm_0 rfl (by decide) [.int (pI 1)] [] rfl rfl (Nat.le_of_ble_eq_true rfl) (fun r σ1 e => ct_X12_errs 1 kc_1 G _ r σ1 e) o fun r27 s28 h29 o =>
z_iret X Y dX12_readStreet_82 o h29) fun o =>
z_iload_n X 1 dX12_readStreet_73 rfl <|
z_goto (tgt := 82) X dX12_readStreet_74 (by decide) <|
z_iret X Y dX12_readStreet_82 o r24) fun o =>
z_sub (L1 := [(0, .ref (G.2.2.1 0)), (1, .int (pI 0))]) X [1, 0] rfl <|
z_iter (fun (x8 : Int) s9 => rg x8 → At E s9 28 [(0, .ref (G.2.2.1 0)), (1, .int (pI x8))] []) o (fun x8 s9 o r10 =>
z_aload_n X 0 dX12_readStreet_28 rfl <|
z_bipush X dX12_readStreet_29 bi_26 <|
z_callvI X dX12_readStreet_31 q_1894 wX12_isWord sm_0 rfl (by decide) [.int (pI 26)] [] rfl rfl (Nat.le_of_ble_eq_true rfl) (fun r σ1 e => ct_X12_isWord 26 kc_26 G _ r σ1 e) o fun r11 s12 h13 o =>
z_if_eq (tgt := 66) X dX12_readStreet_34 (by decide) (r01_rg h13) o (fun o =>
ok_some o r10) fun o =>
z_iload_n X 1 dX12_readStreet_37 rfl <|
z_bipush X dX12_readStreet_38 bi_16 <|
z_icmp_ne (tgt := 49) X dX12_readStreet_40 (by decide) r10 kc_16 o (fun o =>
z_aload_n X 0 dX12_readStreet_49 rfl <|
z_callvI X dX12_readStreet_50 q_1934 wX12_readRoad sm_0 rfl (by decide) [] [] rfl rfl (Nat.le_of_ble_eq_true rfl) (fun r σ1 e => ct_X12_readRoad G _ r σ1 e) o fun r14 s15 h16 o =>
z_iconst X dX12_readStreet_53 <|
z_icmp_ne (tgt := 59) X dX12_readStreet_54 (by decide) h16 kc_m1 o (fun o =>
z_iload_n X 1 dX12_readStreet_59 rfl <|
z_iconst X dX12_readStreet_60 <|
z_iadd X dX12_readStreet_61 <|
z_istoreL_n (L1 := fun v17 => [(1, .int (pI v17)), (0, .ref (G.2.2.1 0))]) (R := rg) X dX12_readStreet_62 rfl (by decide) (fun _ => rfl) o (w32_rg _) fun v17 r18 o =>
z_goto (tgt := 28) X dX12_readStreet_63 (by decide) <|
z_sub (L1 := [(0, .ref (G.2.2.1 0)), (1, .int (pI v17))]) X [1, 0] rfl <|
ok_some o r18) fun o =>
z_iconst X dX12_readStreet_57 <|
z_iret X Y dX12_readStreet_58 (ok_ret (ok_some o)) kc_m1) fun o =>
z_aload_n X 0 dX12_readStreet_43 rfl <|
z_iconst X dX12_readStreet_44 <|
z_callvI X dX12_readStreet_45 q_1898 wX12_errs sm_0 rfl (by decide) [.int (pI 3)] [] rfl rfl (Nat.le_of_ble_eq_true rfl) (fun r σ1 e => ct_X12_errs 3 kc_3 G _ r σ1 e) o fun r19 s20 h21 o =>
z_iret X Y dX12_readStreet_48 (ok_ret (ok_some o)) h21) kc_0) fun o =>
z_sub (L1 := [(0, .ref (G.2.2.1 0)), (1, .int (pI 0))]) X [1, 0] rfl <|
z_iter (fun (x1 : Int) s2 => rg x1 → At E s2 2 [(0, .ref (G.2.2.1 0)), (1, .int (pI x1))] []) o (fun x1 s2 o r3 =>
z_iload_n X 1 dX12_readStreet_2 rfl <|
z_sipush X dX12_readStreet_3 si_144 <|
z_icmp_ge (tgt := 26) X dX12_readStreet_6 (by decide) r3 kc_144 o (fun o =>
z_sub (L1 := [(0, .ref (G.2.2.1 0))]) X [0] rfl <|
ok_some o trivial) fun o =>
z_aload_n X 0 dX12_readStreet_9 rfl <|
z_getR (q := 20) X dX12_readStreet_10 fl_X12_71 sm_0 rfl <|
z_sipush X dX12_readStreet_13 si_144 <|
z_iload_n X 1 dX12_readStreet_16 rfl <|
z_iadd X dX12_readStreet_17 <|
z_iconst X dX12_readStreet_18 <|
z_iast X dX12_readStreet_19 sm_20 (w32_rg _) kc_0 o fun s4 o =>
z_iinc (L1 := [(1, .int (pI (w32 (x1 + 1)))), (0, .ref (G.2.2.1 0))]) X 1 dX12_readStreet_20 rfl (by decide) rfl <|
z_goto (tgt := 2) X dX12_readStreet_23 (by decide) <|
z_sub (L1 := [(0, .ref (G.2.2.1 0)), (1, .int (pI (w32 (x1 + 1))))]) X [1, 0] rfl <|
ok_some o (w32_rg _)) kc_0 : At E s0 0 [(0, .ref (G.2.2.1 0))] [])
set_option maxHeartbeats 4000000 in
set_option maxRecDepth 100000 in
theorem ct_X12_readsText (p1 : Int) (hp1 : rg p1) (G : Gw) (s0 : St) (r : Int) (σ1 : St) (e : fX12_readsText p1 s0 = some (r, σ1)) : Ct yX12_readsText cX12_readsText 2 (some .int) 9 194 SM G [.ref (G.2.2.1 0), .int (pI p1)] s0 (QI SM G r rg σ1) :=
  Ct.of (by decide +kernel) (Nat.le_of_ble_eq_true rfl) fun E X Y => by
    have o : Ok (fX12_readsText p1 s0) (fun x σ' => x = r ∧ σ' = σ1) := ⟨r, σ1, e, rfl, rfl⟩
    unfold fX12_readsText at o
    exact (
z_aload_n X 0 dX12_readsText_0 rfl <|
z_iconst X dX12_readsText_1 <|
z_putI X dX12_readsText_2 fl_X12_315 sm_0 ft_X12_26 rfl kc_0 o fun s1 o =>
z_aload_n X 0 dX12_readsText_5 rfl <|
z_callvV X dX12_readsText_6 q_1866 wX12_reads sm_0 rfl (by decide) [] [] rfl rfl (Nat.le_of_ble_eq_true rfl) (fun r σ1 e => ct_X12_reads G _ r σ1 e) o fun r2 s3 o =>
z_iload_n X 1 dX12_readsText_9 rfl <|
z_iconst X dX12_readsText_10 <|
z_icmp_ne (tgt := 19) X dX12_readsText_11 (by decide) hp1 kc_1 o (fun o =>
z_iload_n X 1 dX12_readsText_19 rfl <|
z_iconst X dX12_readsText_20 <|
z_icmp_ne (tgt := 29) X dX12_readsText_21 (by decide) hp1 kc_2 o (fun o =>
z_iload_n X 1 dX12_readsText_29 rfl <|
z_iconst X dX12_readsText_30 <|
z_icmp_ne (tgt := 41) X dX12_readsText_31 (by decide) hp1 kc_3 o (fun o =>
z_aload_n X 0 dX12_readsText_41 rfl <|
z_callvI X dX12_readsText_42 q_1942 wX12_readLaw sm_0 rfl (by decide) [] [] rfl rfl (Nat.le_of_ble_eq_true rfl) (fun r σ1 e => ct_X12_readLaw G _ r σ1 e) o fun r5 s6 h7 o =>
z_iret X Y dX12_readsText_45 o h7) fun o =>
z_aload_n X 0 dX12_readsText_34 rfl <|
z_callvI X dX12_readsText_35 q_1930 wX12_readStreet sm_0 rfl (by decide) [] [] rfl rfl (Nat.le_of_ble_eq_true rfl) (fun r σ1 e => ct_X12_readStreet G _ r σ1 e) o fun r8 s9 h10 o =>
z_goto (tgt := 45) X dX12_readsText_38 (by decide) <|
z_iret X Y dX12_readsText_45 o h10) fun o =>
z_aload_n X 0 dX12_readsText_24 rfl <|
z_callvI X dX12_readsText_25 q_1922 wX12_readEvenings sm_0 rfl (by decide) [] [] rfl rfl (Nat.le_of_ble_eq_true rfl) (fun r σ1 e => ct_X12_readEvenings G _ r σ1 e) o fun r11 s12 h13 o =>
z_iret X Y dX12_readsText_28 o h13) fun o =>
z_aload_n X 0 dX12_readsText_14 rfl <|
z_callvI X dX12_readsText_15 q_1890 wX12_readCalls sm_0 rfl (by decide) [] [] rfl rfl (Nat.le_of_ble_eq_true rfl) (fun r σ1 e => ct_X12_readCalls G _ r σ1 e) o fun r14 s15 h16 o =>
z_iret X Y dX12_readsText_18 o h16 : At E s0 0 [(0, .ref (G.2.2.1 0)), (1, .int (pI p1))] [])
set_option maxHeartbeats 4000000 in
set_option maxRecDepth 100000 in
theorem ct_X12_reply (p1 : Int) (p2 : Int) (p3 : Int) (hp1 : rg p1) (hp2 : rg p2) (hp3 : rg p3) (G : Gw) (s0 : St) (r : Int) (σ1 : St) (e : fX12_reply p1 p2 p3 s0 = some (r, σ1)) : Ct yX12_reply cX12_reply 6 (some .int) 1 23 SM G [.ref (G.2.2.1 0), .int (pI p1), .int (pI p2), .int (pI p3)] s0 (QI SM G r rg σ1) :=
  Ct.of (by decide +kernel) (Nat.le_of_ble_eq_true rfl) fun E X Y => by
    have o : Ok (fX12_reply p1 p2 p3 s0) (fun x σ' => x = r ∧ σ' = σ1) := ⟨r, σ1, e, rfl, rfl⟩
    unfold fX12_reply at o
    exact (
z_aload_n X 0 dX12_reply_0 rfl <|
z_iconst X dX12_reply_1 <|
z_putI X dX12_reply_2 fl_X12_183 sm_0 ft_X12_0 rfl kc_0 o fun s1 o =>
z_aload_n X 0 dX12_reply_5 rfl <|
z_iload_n X 1 dX12_reply_6 rfl <|
z_iconst X dX12_reply_7 <|
z_bipush X dX12_reply_8 bi_7 <|
z_callvI X dX12_reply_10 q_1822 wX12_isIn sm_0 rfl (by decide) [.int (pI p1), .int (pI 0), .int (pI 7)] [] rfl rfl (Nat.le_of_ble_eq_true rfl) (fun r σ1 e => ct_X12_isIn p1 0 7 hp1 kc_0 kc_7 G _ r σ1 e) o fun r2 s3 h4 o =>
z_if_eq (tgt := 38) X dX12_reply_13 (by decide) (r01_rg h4) o (fun o =>
z_iconst X dX12_reply_38 <|
z_iret X Y dX12_reply_39 o kc_m1) fun o =>
z_aload_n X 0 dX12_reply_16 rfl <|
z_iload_n X 2 dX12_reply_17 rfl <|
z_iconst X dX12_reply_18 <|
z_bipush X dX12_reply_19 bi_99 <|
z_callvI X dX12_reply_21 q_1822 wX12_isIn sm_0 rfl (by decide) [.int (pI p2), .int (pI 0), .int (pI 99)] [] rfl rfl (Nat.le_of_ble_eq_true rfl) (fun r σ1 e => ct_X12_isIn p2 0 99 hp2 kc_0 kc_99 G _ r σ1 e) o fun r5 s6 h7 o =>
z_if_eq (tgt := 38) X dX12_reply_24 (by decide) (r01_rg h7) o (fun o =>
z_iconst X dX12_reply_38 <|
z_iret X Y dX12_reply_39 o kc_m1) fun o =>
z_aload_n X 0 dX12_reply_27 rfl <|
z_iload_n X 3 dX12_reply_28 rfl <|
z_iconst X dX12_reply_29 <|
z_bipush X dX12_reply_30 bi_7 <|
z_callvI X dX12_reply_32 q_1822 wX12_isIn sm_0 rfl (by decide) [.int (pI p3), .int (pI 0), .int (pI 7)] [] rfl rfl (Nat.le_of_ble_eq_true rfl) (fun r σ1 e => ct_X12_isIn p3 0 7 hp3 kc_0 kc_7 G _ r σ1 e) o fun r8 s9 h10 o =>
z_if_ne (tgt := 40) X dX12_reply_35 (by decide) (r01_rg h10) o (fun o =>
z_iconst X dX12_reply_40 <|
z_istore (L1 := [(4, .int (pI 0)), (0, .ref (G.2.2.1 0)), (1, .int (pI p1)), (2, .int (pI p2)), (3, .int (pI p3))]) X dX12_reply_41 (by decide) rfl <|
z_join o (fun (y16 : Unit) s17 => True → At E s17 76 [(0, .ref (G.2.2.1 0)), (3, .int (pI p3))] []) (fun y16 s17 o r18 =>
z_iconst X dX12_reply_76 <|
z_istore (L1 := [(4, .int (pI 0)), (0, .ref (G.2.2.1 0)), (3, .int (pI p3))]) X dX12_reply_77 (by decide) rfl <|
z_join o (fun (y50 : Unit) s51 => True → At E s51 169 [(0, .ref (G.2.2.1 0)), (3, .int (pI p3))] []) (fun y50 s51 o r52 =>
z_aload_n X 0 dX12_reply_169 rfl <|
z_getR (q := 35) X dX12_reply_170 fl_X12_116 sm_0 rfl <|
z_iload_n X 1 dX12_reply_173 rfl <|
z_iald X dX12_reply_174 sm_35 hp3 o fun v53 r54 o =>
z_ldcw X dX12_reply_175 q_2217 ki_100000000 <|
z_icmp_ne (tgt := 185) X dX12_reply_178 (by decide) r54 kc_100000000 o (fun o =>
z_aload_n X 0 dX12_reply_185 rfl <|
z_getR (q := 35) X dX12_reply_186 fl_X12_116 sm_0 rfl <|
z_iload_n X 1 dX12_reply_189 rfl <|
z_iald X dX12_reply_190 sm_35 hp3 o fun v55 r56 o =>
z_iret X Y dX12_reply_191 o r56) fun o =>
z_iconst X dX12_reply_181 <|
z_goto (tgt := 191) X dX12_reply_182 (by decide) <|
z_iret X Y dX12_reply_191 o kc_m1) fun o =>
z_sub (L1 := [(0, .ref (G.2.2.1 0)), (3, .int (pI p3)), (4, .int (pI 0))]) X [1, 2, 0] rfl <|
z_iter (fun (x19 : Int) s20 => rg x19 → At E s20 79 [(0, .ref (G.2.2.1 0)), (3, .int (pI p3)), (4, .int (pI x19))] []) o (fun x19 s20 o r21 =>
z_iload X 2 dX12_reply_79 rfl <|
z_aload_n X 0 dX12_reply_81 rfl <|
z_getI X dX12_reply_82 fl_X12_496 sm_0 rfl o fun v22 r23 o =>
z_icmp_ge (tgt := 169) X dX12_reply_85 (by decide) r21 r23 o (fun o =>
z_sub (L1 := [(0, .ref (G.2.2.1 0)), (3, .int (pI p3))]) X [0, 1] rfl <|
ok_some o trivial) fun o =>
z_iconst X dX12_reply_88 <|
z_istore (L1 := [(5, .int (pI 0)), (0, .ref (G.2.2.1 0)), (3, .int (pI p3)), (4, .int (pI x19))]) X dX12_reply_89 (by decide) rfl <|
z_join o (fun (y47 : Unit) s48 => True → At E s48 163 [(0, .ref (G.2.2.1 0)), (3, .int (pI p3)), (4, .int (pI x19))] []) (fun y47 s48 o r49 =>
z_iinc (L1 := [(4, .int (pI (w32 (x19 + 1)))), (0, .ref (G.2.2.1 0)), (3, .int (pI p3))]) X 2 dX12_reply_163 rfl (by decide) rfl <|
z_goto (tgt := 79) X dX12_reply_166 (by decide) <|
z_sub (L1 := [(0, .ref (G.2.2.1 0)), (3, .int (pI p3)), (4, .int (pI (w32 (x19 + 1))))]) X [1, 2, 0] rfl <|
ok_some o (w32_rg _)) fun o =>
z_sub (L1 := [(0, .ref (G.2.2.1 0)), (3, .int (pI p3)), (4, .int (pI x19)), (5, .int (pI 0))]) X [1, 2, 3, 0] rfl <|
z_iter (fun (x24 : Int) s25 => rg x24 → At E s25 91 [(0, .ref (G.2.2.1 0)), (3, .int (pI p3)), (4, .int (pI x19)), (5, .int (pI x24))] []) o (fun x24 s25 o r26 =>
z_iload X 3 dX12_reply_91 rfl <|
z_aload_n X 0 dX12_reply_93 rfl <|
z_getI X dX12_reply_94 fl_X12_496 sm_0 rfl o fun v27 r28 o =>
z_icmp_ge (tgt := 163) X dX12_reply_97 (by decide) r26 r28 o (fun o =>
z_sub (L1 := [(0, .ref (G.2.2.1 0)), (3, .int (pI p3)), (4, .int (pI x19))]) X [0, 1, 2] rfl <|
ok_some o trivial) fun o =>
z_aload_n X 0 dX12_reply_100 rfl <|
z_getR (q := 35) X dX12_reply_101 fl_X12_116 sm_0 rfl <|
z_aload_n X 0 dX12_reply_104 rfl <|
z_getR (q := 31) X dX12_reply_105 fl_X12_104 sm_0 rfl <|
z_iload X 3 dX12_reply_108 rfl <|
z_iald X dX12_reply_110 sm_31 r26 o fun v29 r30 o =>
z_iald X dX12_reply_111 sm_35 r30 o fun v31 r32 o =>
z_aload_n X 0 dX12_reply_112 rfl <|
z_getR (q := 33) X dX12_reply_113 fl_X12_110 sm_0 rfl <|
z_iload X 3 dX12_reply_116 rfl <|
z_iald X dX12_reply_118 sm_33 r26 o fun v33 r34 o =>
z_icmp_gt (tgt := 157) X dX12_reply_119 (by decide) r32 r34 o (fun o =>
z_iinc (L1 := [(5, .int (pI (w32 (x24 + 1)))), (0, .ref (G.2.2.1 0)), (3, .int (pI p3)), (4, .int (pI x19))]) X 3 dX12_reply_157 rfl (by decide) rfl <|
z_goto (tgt := 91) X dX12_reply_160 (by decide) <|
z_sub (L1 := [(0, .ref (G.2.2.1 0)), (3, .int (pI p3)), (4, .int (pI x19)), (5, .int (pI (w32 (x24 + 1))))]) X [1, 2, 3, 0] rfl <|
ok_some o (w32_rg _)) fun o =>
z_aload_n X 0 dX12_reply_122 rfl <|
z_getR (q := 35) X dX12_reply_123 fl_X12_116 sm_0 rfl <|
z_aload_n X 0 dX12_reply_126 rfl <|
z_getR (q := 32) X dX12_reply_127 fl_X12_107 sm_0 rfl <|
z_iload X 3 dX12_reply_130 rfl <|
z_iald X dX12_reply_132 sm_32 r26 o fun v35 r36 o =>
z_aload_n X 0 dX12_reply_133 rfl <|
z_aload_n X 0 dX12_reply_134 rfl <|
z_getR (q := 35) X dX12_reply_135 fl_X12_116 sm_0 rfl <|
z_aload_n X 0 dX12_reply_138 rfl <|
z_getR (q := 32) X dX12_reply_139 fl_X12_107 sm_0 rfl <|
z_iload X 3 dX12_reply_142 rfl <|
z_iald X dX12_reply_144 sm_32 r26 o fun v37 r38 o =>
z_iald X dX12_reply_145 sm_35 r38 o fun v39 r40 o =>
z_aload_n X 0 dX12_reply_146 rfl <|
z_getR (q := 34) X dX12_reply_147 fl_X12_113 sm_0 rfl <|
z_iload X 3 dX12_reply_150 rfl <|
z_iald X dX12_reply_152 sm_34 r26 o fun v41 r42 o =>
z_callvI X dX12_reply_153 q_2120 wX12_lesser sm_0 rfl (by decide) [.int (pI v39), .int (pI v41)] [.int (pI v35), .ref (G.2.2.1 35)] rfl rfl (Nat.le_of_ble_eq_true rfl) (fun r σ1 e => ct_X12_lesser v39 v41 r40 r42 G _ r σ1 e) o fun r43 s44 h45 o =>
z_iast X dX12_reply_156 sm_35 r36 h45 o fun s46 o =>
z_iinc (L1 := [(5, .int (pI (w32 (x24 + 1)))), (0, .ref (G.2.2.1 0)), (3, .int (pI p3)), (4, .int (pI x19))]) X 3 dX12_reply_157 rfl (by decide) rfl <|
z_goto (tgt := 91) X dX12_reply_160 (by decide) <|
z_sub (L1 := [(0, .ref (G.2.2.1 0)), (3, .int (pI p3)), (4, .int (pI x19)), (5, .int (pI (w32 (x24 + 1))))]) X [1, 2, 3, 0] rfl <|
ok_some o (w32_rg _)) kc_0) kc_0) fun o =>
z_sub (L1 := [(0, .ref (G.2.2.1 0)), (1, .int (pI p1)), (2, .int (pI p2)), (3, .int (pI p3)), (4, .int (pI 0))]) X [1, 2, 3, 4, 0] rfl <|
z_iter (fun (x11 : Int) s12 => rg x11 → At E s12 43 [(0, .ref (G.2.2.1 0)), (1, .int (pI p1)), (2, .int (pI p2)), (3, .int (pI p3)), (4, .int (pI x11))] []) o (fun x11 s12 o r13 =>
z_iload X 4 dX12_reply_43 rfl <|
z_bipush X dX12_reply_45 bi_8 <|
z_icmp_ge (tgt := 76) X dX12_reply_47 (by decide) r13 kc_8 o (fun o =>
z_sub (L1 := [(0, .ref (G.2.2.1 0)), (3, .int (pI p3))]) X [0, 3] rfl <|
ok_some o trivial) fun o =>
z_aload_n X 0 dX12_reply_50 rfl <|
z_getR (q := 35) X dX12_reply_51 fl_X12_116 sm_0 rfl <|
z_iload X 4 dX12_reply_54 rfl <|
z_iload X 4 dX12_reply_56 rfl <|
z_iload_n X 1 dX12_reply_58 rfl <|
z_icmp_ne (tgt := 66) X dX12_reply_59 (by decide) r13 hp1 o (fun o =>
z_ldcw X dX12_reply_66 q_2217 ki_100000000 <|
z_iast X dX12_reply_69 sm_35 r13 kc_100000000 o fun s14 o =>
z_iinc (L1 := [(4, .int (pI (w32 (x11 + 1)))), (0, .ref (G.2.2.1 0)), (1, .int (pI p1)), (2, .int (pI p2)), (3, .int (pI p3))]) X 4 dX12_reply_70 rfl (by decide) rfl <|
z_goto (tgt := 43) X dX12_reply_73 (by decide) <|
z_sub (L1 := [(0, .ref (G.2.2.1 0)), (1, .int (pI p1)), (2, .int (pI p2)), (3, .int (pI p3)), (4, .int (pI (w32 (x11 + 1))))]) X [1, 2, 3, 4, 0] rfl <|
ok_some o (w32_rg _)) fun o =>
z_iload_n X 2 dX12_reply_62 rfl <|
z_goto (tgt := 69) X dX12_reply_63 (by decide) <|
z_iast X dX12_reply_69 sm_35 r13 hp2 o fun s15 o =>
z_iinc (L1 := [(4, .int (pI (w32 (x11 + 1)))), (0, .ref (G.2.2.1 0)), (1, .int (pI p1)), (2, .int (pI p2)), (3, .int (pI p3))]) X 4 dX12_reply_70 rfl (by decide) rfl <|
z_goto (tgt := 43) X dX12_reply_73 (by decide) <|
z_sub (L1 := [(0, .ref (G.2.2.1 0)), (1, .int (pI p1)), (2, .int (pI p2)), (3, .int (pI p3)), (4, .int (pI (w32 (x11 + 1))))]) X [1, 2, 3, 4, 0] rfl <|
ok_some o (w32_rg _)) kc_0) fun o =>
z_iconst X dX12_reply_38 <|
z_iret X Y dX12_reply_39 o kc_m1 : At E s0 0 [(0, .ref (G.2.2.1 0)), (1, .int (pI p1)), (2, .int (pI p2)), (3, .int (pI p3))] [])
set_option maxHeartbeats 4000000 in
set_option maxRecDepth 100000 in
theorem ct_X12_rocks (p1 : Int) (hp1 : rg p1) (G : Gw) (s0 : St) (r : Int) (σ1 : St) (e : fX12_rocks p1 s0 = some (r, σ1)) : Ct yX12_rocks cX12_rocks 4 (some .int) 1 23 SM G [.ref (G.2.2.1 0), .int (pI p1)] s0 (QI SM G r rg σ1) :=
  Ct.of (by decide +kernel) (Nat.le_of_ble_eq_true rfl) fun E X Y => by
    have o : Ok (fX12_rocks p1 s0) (fun x σ' => x = r ∧ σ' = σ1) := ⟨r, σ1, e, rfl, rfl⟩
    unfold fX12_rocks at o
    exact (
z_aload_n X 0 dX12_rocks_0 rfl <|
z_iconst X dX12_rocks_1 <|
z_putI X dX12_rocks_2 fl_X12_183 sm_0 ft_X12_0 rfl kc_0 o fun s1 o =>
z_aload_n X 0 dX12_rocks_5 rfl <|
z_iload_n X 1 dX12_rocks_6 rfl <|
z_iconst X dX12_rocks_7 <|
z_iconst X dX12_rocks_8 <|
z_callvI X dX12_rocks_9 q_1822 wX12_isIn sm_0 rfl (by decide) [.int (pI p1), .int (pI 0), .int (pI 1)] [] rfl rfl (Nat.le_of_ble_eq_true rfl) (fun r σ1 e => ct_X12_isIn p1 0 1 hp1 kc_0 kc_1 G _ r σ1 e) o fun r2 s3 h4 o =>
z_if_ne (tgt := 17) X dX12_rocks_12 (by decide) (r01_rg h4) o (fun o =>
z_iload_n X 1 dX12_rocks_17 rfl <|
z_if_ne (tgt := 52) X dX12_rocks_18 (by decide) hp1 o (fun o =>
z_iconst X dX12_rocks_52 <|
z_istore_n (L1 := [(2, .int (pI 0)), (0, .ref (G.2.2.1 0)), (1, .int (pI p1))]) X dX12_rocks_53 rfl (by decide) rfl <|
z_iconst X dX12_rocks_54 <|
z_istore_n (L1 := [(3, .int (pI 0)), (2, .int (pI 0)), (0, .ref (G.2.2.1 0)), (1, .int (pI p1))]) X dX12_rocks_55 rfl (by decide) rfl <|
z_join o (fun (y14 : Int) s15 => rg y14 → At E s15 79 [(2, .int (pI y14))] []) (fun y14 s15 o r16 =>
z_iload_n X 0 dX12_rocks_79 rfl <|
z_iret X Y dX12_rocks_80 o r16) fun o =>
z_sub (L1 := [(0, .ref (G.2.2.1 0)), (2, .int (pI 0)), (3, .int (pI 0))]) X [2, 1, 0] rfl <|
z_iter (fun (x5 : Int × Int) s6 => rg x5.1 ∧ rg x5.2 → At E s6 56 [(0, .ref (G.2.2.1 0)), (2, .int (pI x5.1)), (3, .int (pI x5.2))] []) o (fun x5 s6 o r7 =>
z_iload_n X 2 dX12_rocks_56 rfl <|
z_bipush X dX12_rocks_57 bi_99 <|
z_icmp_gt (tgt := 79) X dX12_rocks_59 (by decide) r7.2 kc_99 o (fun o =>
z_sub (L1 := [(2, .int (pI x5.1))]) X [1] rfl <|
ok_some o r7.1) fun o =>
z_aload_n X 0 dX12_rocks_62 rfl <|
z_iload_n X 1 dX12_rocks_63 rfl <|
z_aload_n X 0 dX12_rocks_64 rfl <|
z_iload_n X 2 dX12_rocks_65 rfl <|
z_callvI X dX12_rocks_66 q_2201 wX12_forwardAt sm_0 rfl (by decide) [.int (pI x5.2)] [.int (pI x5.1), .ref (G.2.2.1 0)] rfl rfl (Nat.le_of_ble_eq_true rfl) (fun r σ1 e => ct_X12_forwardAt x5.2 r7.2 G _ r σ1 e) o fun r8 s9 h10 o =>
z_callvI X dX12_rocks_69 q_2205 wX12_greater sm_0 rfl (by decide) [.int (pI x5.1), .int (pI r8)] [] rfl rfl (Nat.le_of_ble_eq_true rfl) (fun r σ1 e => ct_X12_greater x5.1 r8 r7.1 h10 G _ r σ1 e) o fun r11 s12 h13 o =>
z_istore_n (L1 := [(2, .int (pI r11)), (0, .ref (G.2.2.1 0)), (3, .int (pI x5.2))]) X dX12_rocks_72 rfl (by decide) rfl <|
z_iinc (L1 := [(3, .int (pI (w32 (x5.2 + 1)))), (2, .int (pI r11)), (0, .ref (G.2.2.1 0))]) X 2 dX12_rocks_73 rfl (by decide) rfl <|
z_goto (tgt := 56) X dX12_rocks_76 (by decide) <|
z_sub (L1 := [(0, .ref (G.2.2.1 0)), (2, .int (pI r11)), (3, .int (pI (w32 (x5.2 + 1))))]) X [2, 1, 0] rfl <|
ok_some o ⟨h13, (w32_rg _)⟩) ⟨kc_0, kc_0⟩) fun o =>
z_iconst X dX12_rocks_21 <|
z_istore_n (L1 := [(2, .int (pI 0)), (0, .ref (G.2.2.1 0)), (1, .int (pI p1))]) X dX12_rocks_22 rfl (by decide) rfl <|
z_joix o (fun (y25 : Int) s26 => rg y25 → At E s26 42 [(2, .int (pI y25))] []) (fun y25 s26 o r27 =>
z_iload_n X 0 dX12_rocks_42 rfl <|
z_iret X Y dX12_rocks_43 o r27) fun o =>
z_sub (L1 := [(0, .ref (G.2.2.1 0)), (2, .int (pI 0))]) X [1, 0] rfl <|
z_iter (fun (x17 : Int) s18 => rg x17 → At E s18 23 [(0, .ref (G.2.2.1 0)), (2, .int (pI x17))] []) o (fun x17 s18 o r19 =>
z_iload_n X 1 dX12_rocks_23 rfl <|
z_sipush X dX12_rocks_24 si_9999 <|
z_icmp_gt (tgt := 50) X dX12_rocks_27 (by decide) r19 kc_9999 o (fun o =>
z_iconst X dX12_rocks_50 <|
z_iret X Y dX12_rocks_51 (ok_ret (ok_some o)) kc_m1) fun o =>
z_aload_n X 0 dX12_rocks_30 rfl <|
z_iload_n X 1 dX12_rocks_31 rfl <|
z_callvI X dX12_rocks_32 q_2201 wX12_forwardAt sm_0 rfl (by decide) [.int (pI x17)] [] rfl rfl (Nat.le_of_ble_eq_true rfl) (fun r σ1 e => ct_X12_forwardAt x17 r19 G _ r σ1 e) o fun r20 s21 h22 o =>
z_aload_n X 0 dX12_rocks_35 rfl <|
z_getI X dX12_rocks_36 fl_X12_487 sm_0 rfl o fun v23 r24 o =>
z_icmp_ne (tgt := 44) X dX12_rocks_39 (by decide) h22 r24 o (fun o =>
z_iinc (L1 := [(2, .int (pI (w32 (x17 + 1)))), (0, .ref (G.2.2.1 0))]) X 1 dX12_rocks_44 rfl (by decide) rfl <|
z_goto (tgt := 23) X dX12_rocks_47 (by decide) <|
z_sub (L1 := [(0, .ref (G.2.2.1 0)), (2, .int (pI (w32 (x17 + 1))))]) X [1, 0] rfl <|
ok_some o (w32_rg _)) fun o =>
z_sub (L1 := [(2, .int (pI x17))]) X [1] rfl <|
ok_some o r19) kc_0) fun o =>
z_iconst X dX12_rocks_15 <|
z_iret X Y dX12_rocks_16 o kc_m1 : At E s0 0 [(0, .ref (G.2.2.1 0)), (1, .int (pI p1))] [])
set_option maxHeartbeats 4000000 in
set_option maxRecDepth 100000 in
theorem ct_X12_seated (p1 : Int) (p2 : Int) (hp1 : rg p1) (hp2 : rg p2) (G : Gw) (s0 : St) (r : Int) (σ1 : St) (e : fX12_seated p1 p2 s0 = some (r, σ1)) : Ct yX12_seated cX12_seated 6 (some .int) 1 23 SM G [.ref (G.2.2.1 0), .int (pI p1), .int (pI p2)] s0 (QI SM G r rg σ1) :=
  Ct.of (by decide +kernel) (Nat.le_of_ble_eq_true rfl) fun E X Y => by
    have o : Ok (fX12_seated p1 p2 s0) (fun x σ' => x = r ∧ σ' = σ1) := ⟨r, σ1, e, rfl, rfl⟩
    unfold fX12_seated at o
    exact (
z_aload_n X 0 dX12_seated_0 rfl <|
z_iconst X dX12_seated_1 <|
z_putI X dX12_seated_2 fl_X12_183 sm_0 ft_X12_0 rfl kc_0 o fun s1 o =>
z_aload_n X 0 dX12_seated_5 rfl <|
z_iload_n X 1 dX12_seated_6 rfl <|
z_iconst X dX12_seated_7 <|
z_bipush X dX12_seated_8 bi_8 <|
z_callvI X dX12_seated_10 q_1822 wX12_isIn sm_0 rfl (by decide) [.int (pI p1), .int (pI 1), .int (pI 8)] [] rfl rfl (Nat.le_of_ble_eq_true rfl) (fun r σ1 e => ct_X12_isIn p1 1 8 hp1 kc_1 kc_8 G _ r σ1 e) o fun r2 s3 h4 o =>
z_if_eq (tgt := 26) X dX12_seated_13 (by decide) (r01_rg h4) o (fun o =>
z_iconst X dX12_seated_26 <|
z_iret X Y dX12_seated_27 o kc_m1) fun o =>
z_aload_n X 0 dX12_seated_16 rfl <|
z_iload_n X 2 dX12_seated_17 rfl <|
z_iconst X dX12_seated_18 <|
z_iconst X dX12_seated_19 <|
z_callvI X dX12_seated_20 q_1822 wX12_isIn sm_0 rfl (by decide) [.int (pI p2), .int (pI 0), .int (pI 1)] [] rfl rfl (Nat.le_of_ble_eq_true rfl) (fun r σ1 e => ct_X12_isIn p2 0 1 hp2 kc_0 kc_1 G _ r σ1 e) o fun r5 s6 h7 o =>
z_if_ne (tgt := 28) X dX12_seated_23 (by decide) (r01_rg h7) o (fun o =>
z_iconst X dX12_seated_28 <|
z_istore_n (L1 := [(3, .int (pI 0)), (0, .ref (G.2.2.1 0)), (1, .int (pI p1)), (2, .int (pI p2))]) X dX12_seated_29 rfl (by decide) rfl <|
z_join o (fun (y12 : Unit) s13 => True → At E s13 50 [(0, .ref (G.2.2.1 0)), (1, .int (pI p1)), (2, .int (pI p2))] []) (fun y12 s13 o r14 =>
z_iconst X dX12_seated_50 <|
z_istore_n (L1 := [(3, .int (pI 0)), (0, .ref (G.2.2.1 0)), (1, .int (pI p1)), (2, .int (pI p2))]) X dX12_seated_51 rfl (by decide) rfl <|
z_join o (fun (y22 : Unit) s23 => True → At E s23 85 [(0, .ref (G.2.2.1 0)), (1, .int (pI p1)), (2, .int (pI p2))] []) (fun y22 s23 o r24 =>
z_iconst X dX12_seated_85 <|
z_istore_n (L1 := [(3, .int (pI 1)), (0, .ref (G.2.2.1 0)), (1, .int (pI p1)), (2, .int (pI p2))]) X dX12_seated_86 rfl (by decide) rfl <|
z_join o (fun (y53 : Unit) s54 => True → At E s54 203 [(0, .ref (G.2.2.1 0)), (1, .int (pI p1)), (2, .int (pI p2))] []) (fun y53 s54 o r55 =>
z_iconst X dX12_seated_203 <|
z_istore_n (L1 := [(3, .int (pI 0)), (0, .ref (G.2.2.1 0)), (1, .int (pI p1)), (2, .int (pI p2))]) X dX12_seated_204 rfl (by decide) rfl <|
z_iconst X dX12_seated_205 <|
z_istore (L1 := [(4, .int (pI 0)), (3, .int (pI 0)), (0, .ref (G.2.2.1 0)), (1, .int (pI p1)), (2, .int (pI p2))]) X dX12_seated_206 (by decide) rfl <|
z_join o (fun (y71 : Int) s72 => rg y71 → At E s72 258 [(3, .int (pI y71))] []) (fun y71 s72 o r73 =>
z_iload_n X 0 dX12_seated_258 rfl <|
z_iret X Y dX12_seated_259 o r73) fun o =>
z_sub (L1 := [(0, .ref (G.2.2.1 0)), (1, .int (pI p1)), (2, .int (pI p2)), (3, .int (pI 0)), (4, .int (pI 0))]) X [2, 3, 4, 1, 0] rfl <|
z_iter (fun (x56 : Int × Int) s57 => rg x56.1 ∧ rg x56.2 → At E s57 208 [(0, .ref (G.2.2.1 0)), (1, .int (pI p1)), (2, .int (pI p2)), (3, .int (pI x56.1)), (4, .int (pI x56.2))] []) o (fun x56 s57 o r58 =>
z_iload X 4 dX12_seated_208 rfl <|
z_iload_n X 1 dX12_seated_210 rfl <|
z_icmp_ge (tgt := 258) X dX12_seated_211 (by decide) r58.2 hp1 o (fun o =>
z_sub (L1 := [(3, .int (pI x56.1))]) X [3] rfl <|
ok_some o r58.1) fun o =>
z_iload_n X 2 dX12_seated_214 rfl <|
z_joix o (fun (y64 : Int) s65 => rg y64 → At E s65 233 [(0, .ref (G.2.2.1 0)), (1, .int (pI p1)), (2, .int (pI p2)), (3, .int (pI x56.1)), (4, .int (pI y64))] []) (fun y64 s65 o r66 =>
z_iload_n X 3 dX12_seated_233 rfl <|
z_aload_n X 0 dX12_seated_234 rfl <|
z_getR (q := 47) X dX12_seated_235 fl_X12_152 sm_0 rfl <|
z_bipush X dX12_seated_238 bi_8 <|
z_iconst X dX12_seated_240 <|
z_iload_n X 1 dX12_seated_241 rfl <|
z_ishl X dX12_seated_242 <|
z_iconst X dX12_seated_243 <|
z_isub X dX12_seated_244 <|
z_imul X dX12_seated_245 <|
z_iload X 4 dX12_seated_246 rfl <|
z_iadd X dX12_seated_248 <|
z_iald X dX12_seated_249 sm_47 (w32_rg _) o fun v67 r68 o =>
z_iadd X dX12_seated_250 <|
z_istoreL_n (L1 := fun v69 => [(3, .int (pI v69)), (0, .ref (G.2.2.1 0)), (1, .int (pI p1)), (2, .int (pI p2)), (4, .int (pI y64))]) (R := rg) X dX12_seated_251 rfl (by decide) (fun _ => rfl) o (w32_rg _) fun v69 r70 o =>
z_iinc (L1 := [(4, .int (pI (w32 (y64 + 1)))), (3, .int (pI v69)), (0, .ref (G.2.2.1 0)), (1, .int (pI p1)), (2, .int (pI p2))]) X 4 dX12_seated_252 rfl (by decide) rfl <|
z_goto (tgt := 208) X dX12_seated_255 (by decide) <|
z_sub (L1 := [(0, .ref (G.2.2.1 0)), (1, .int (pI p1)), (2, .int (pI p2)), (3, .int (pI v69)), (4, .int (pI (w32 (y64 + 1))))]) X [2, 3, 4, 1, 0] rfl <|
ok_some o ⟨r70, (w32_rg _)⟩) fun o =>
z_if_eq (tgt := 233) X dX12_seated_215 (by decide) hp2 o (fun o =>
ok_some o r58.2) fun o =>
z_aload_n X 0 dX12_seated_218 rfl <|
z_aload_n X 0 dX12_seated_219 rfl <|
z_getR (q := 46) X dX12_seated_220 fl_X12_149 sm_0 rfl <|
z_iload X 4 dX12_seated_223 rfl <|
z_iald X dX12_seated_225 sm_46 r58.2 o fun v59 r60 o =>
z_iconst X dX12_seated_226 <|
z_callvI X dX12_seated_227 q_2189 wX12_has sm_0 rfl (by decide) [.int (pI v59), .int (pI 0)] [] rfl rfl (Nat.le_of_ble_eq_true rfl) (fun r σ1 e => ct_X12_has v59 0 r60 kc_0 G _ r σ1 e) o fun r61 s62 h63 o =>
z_if_ne (tgt := 252) X dX12_seated_230 (by decide) (r01_rg h63) o (fun o =>
z_iinc (L1 := [(4, .int (pI (w32 (x56.2 + 1)))), (0, .ref (G.2.2.1 0)), (1, .int (pI p1)), (2, .int (pI p2)), (3, .int (pI x56.1))]) X 4 dX12_seated_252 rfl (by decide) rfl <|
z_goto (tgt := 208) X dX12_seated_255 (by decide) <|
z_sub (L1 := [(0, .ref (G.2.2.1 0)), (1, .int (pI p1)), (2, .int (pI p2)), (3, .int (pI x56.1)), (4, .int (pI (w32 (x56.2 + 1))))]) X [1, 2, 3, 4, 0] rfl <|
ok_some o ⟨r58.1, (w32_rg _)⟩) fun o =>
ok_some o r58.2) ⟨kc_0, kc_0⟩) fun o =>
z_sub (L1 := [(0, .ref (G.2.2.1 0)), (1, .int (pI p1)), (2, .int (pI p2)), (3, .int (pI 1))]) X [1, 2, 3, 0] rfl <|
z_iter (fun (x25 : Int) s26 => rg x25 → At E s26 87 [(0, .ref (G.2.2.1 0)), (1, .int (pI p1)), (2, .int (pI p2)), (3, .int (pI x25))] []) o (fun x25 s26 o r27 =>
z_iload_n X 3 dX12_seated_87 rfl <|
z_iconst X dX12_seated_88 <|
z_iload_n X 1 dX12_seated_89 rfl <|
z_ishl X dX12_seated_90 <|
z_icmp_ge (tgt := 203) X dX12_seated_91 (by decide) r27 (int_rg _) o (fun o =>
z_sub (L1 := [(0, .ref (G.2.2.1 0)), (1, .int (pI p1)), (2, .int (pI p2))]) X [0, 1, 2] rfl <|
ok_some o trivial) fun o =>
z_iconst X dX12_seated_94 <|
z_istore (L1 := [(4, .int (pI 0)), (0, .ref (G.2.2.1 0)), (1, .int (pI p1)), (2, .int (pI p2)), (3, .int (pI x25))]) X dX12_seated_95 (by decide) rfl <|
z_join o (fun (y50 : Unit) s51 => True → At E s51 197 [(0, .ref (G.2.2.1 0)), (1, .int (pI p1)), (2, .int (pI p2)), (3, .int (pI x25))] []) (fun y50 s51 o r52 =>
z_iinc (L1 := [(3, .int (pI (w32 (x25 + 1)))), (0, .ref (G.2.2.1 0)), (1, .int (pI p1)), (2, .int (pI p2))]) X 3 dX12_seated_197 rfl (by decide) rfl <|
z_goto (tgt := 87) X dX12_seated_200 (by decide) <|
z_sub (L1 := [(0, .ref (G.2.2.1 0)), (1, .int (pI p1)), (2, .int (pI p2)), (3, .int (pI (w32 (x25 + 1))))]) X [1, 2, 3, 0] rfl <|
ok_some o (w32_rg _)) fun o =>
z_sub (L1 := [(0, .ref (G.2.2.1 0)), (1, .int (pI p1)), (2, .int (pI p2)), (3, .int (pI x25)), (4, .int (pI 0))]) X [1, 2, 3, 4, 0] rfl <|
z_iter (fun (x28 : Int) s29 => rg x28 → At E s29 97 [(0, .ref (G.2.2.1 0)), (1, .int (pI p1)), (2, .int (pI p2)), (3, .int (pI x25)), (4, .int (pI x28))] []) o (fun x28 s29 o r30 =>
z_iload X 4 dX12_seated_97 rfl <|
z_iload_n X 1 dX12_seated_99 rfl <|
z_icmp_ge (tgt := 197) X dX12_seated_100 (by decide) r30 hp1 o (fun o =>
z_sub (L1 := [(0, .ref (G.2.2.1 0)), (1, .int (pI p1)), (2, .int (pI p2)), (3, .int (pI x25))]) X [0, 1, 2, 3] rfl <|
ok_some o trivial) fun o =>
z_iconst X dX12_seated_103 <|
z_istore (L1 := [(5, .int (pI 0)), (0, .ref (G.2.2.1 0)), (1, .int (pI p1)), (2, .int (pI p2)), (3, .int (pI x25)), (4, .int (pI x28))]) X dX12_seated_104 (by decide) rfl <|
z_join o (fun (y47 : Unit) s48 => True → At E s48 191 [(0, .ref (G.2.2.1 0)), (1, .int (pI p1)), (2, .int (pI p2)), (3, .int (pI x25)), (4, .int (pI x28))] []) (fun y47 s48 o r49 =>
z_iinc (L1 := [(4, .int (pI (w32 (x28 + 1)))), (0, .ref (G.2.2.1 0)), (1, .int (pI p1)), (2, .int (pI p2)), (3, .int (pI x25))]) X 4 dX12_seated_191 rfl (by decide) rfl <|
z_goto (tgt := 97) X dX12_seated_194 (by decide) <|
z_sub (L1 := [(0, .ref (G.2.2.1 0)), (1, .int (pI p1)), (2, .int (pI p2)), (3, .int (pI x25)), (4, .int (pI (w32 (x28 + 1))))]) X [1, 2, 3, 4, 0] rfl <|
ok_some o (w32_rg _)) fun o =>
z_sub (L1 := [(0, .ref (G.2.2.1 0)), (1, .int (pI p1)), (2, .int (pI p2)), (3, .int (pI x25)), (4, .int (pI x28)), (5, .int (pI 0))]) X [1, 2, 3, 4, 5, 0] rfl <|
z_iter (fun (x31 : Int) s32 => rg x31 → At E s32 106 [(0, .ref (G.2.2.1 0)), (1, .int (pI p1)), (2, .int (pI p2)), (3, .int (pI x25)), (4, .int (pI x28)), (5, .int (pI x31))] []) o (fun x31 s32 o r33 =>
z_iload X 5 dX12_seated_106 rfl <|
z_iload_n X 1 dX12_seated_108 rfl <|
z_icmp_ge (tgt := 191) X dX12_seated_109 (by decide) r33 hp1 o (fun o =>
z_sub (L1 := [(0, .ref (G.2.2.1 0)), (1, .int (pI p1)), (2, .int (pI p2)), (3, .int (pI x25)), (4, .int (pI x28))]) X [0, 1, 2, 3, 4] rfl <|
ok_some o trivial) fun o =>
z_aload_n X 0 dX12_seated_112 rfl <|
z_iload_n X 3 dX12_seated_113 rfl <|
z_iload X 5 dX12_seated_114 rfl <|
z_callvI X dX12_seated_116 q_2189 wX12_has sm_0 rfl (by decide) [.int (pI x25), .int (pI x31)] [] rfl rfl (Nat.le_of_ble_eq_true rfl) (fun r σ1 e => ct_X12_has x25 x31 r27 r33 G _ r σ1 e) o fun r34 s35 h36 o =>
z_if_ne (tgt := 185) X dX12_seated_119 (by decide) (r01_rg h36) o (fun o =>
z_iinc (L1 := [(5, .int (pI (w32 (x31 + 1)))), (0, .ref (G.2.2.1 0)), (1, .int (pI p1)), (2, .int (pI p2)), (3, .int (pI x25)), (4, .int (pI x28))]) X 5 dX12_seated_185 rfl (by decide) rfl <|
z_goto (tgt := 106) X dX12_seated_188 (by decide) <|
z_sub (L1 := [(0, .ref (G.2.2.1 0)), (1, .int (pI p1)), (2, .int (pI p2)), (3, .int (pI x25)), (4, .int (pI x28)), (5, .int (pI (w32 (x31 + 1))))]) X [1, 2, 3, 4, 5, 0] rfl <|
ok_some o (w32_rg _)) fun o =>
z_aload_n X 0 dX12_seated_122 rfl <|
z_aload_n X 0 dX12_seated_123 rfl <|
z_getR (q := 46) X dX12_seated_124 fl_X12_149 sm_0 rfl <|
z_iload X 4 dX12_seated_127 rfl <|
z_iald X dX12_seated_129 sm_46 r30 o fun v37 r38 o =>
z_iload X 5 dX12_seated_130 rfl <|
z_callvI X dX12_seated_132 q_2189 wX12_has sm_0 rfl (by decide) [.int (pI v37), .int (pI x31)] [] rfl rfl (Nat.le_of_ble_eq_true rfl) (fun r σ1 e => ct_X12_has v37 x31 r38 r33 G _ r σ1 e) o fun r39 s40 h41 o =>
z_if_ne (tgt := 185) X dX12_seated_135 (by decide) (r01_rg h41) o (fun o =>
z_iinc (L1 := [(5, .int (pI (w32 (x31 + 1)))), (0, .ref (G.2.2.1 0)), (1, .int (pI p1)), (2, .int (pI p2)), (3, .int (pI x25)), (4, .int (pI x28))]) X 5 dX12_seated_185 rfl (by decide) rfl <|
z_goto (tgt := 106) X dX12_seated_188 (by decide) <|
z_sub (L1 := [(0, .ref (G.2.2.1 0)), (1, .int (pI p1)), (2, .int (pI p2)), (3, .int (pI x25)), (4, .int (pI x28)), (5, .int (pI (w32 (x31 + 1))))]) X [1, 2, 3, 4, 5, 0] rfl <|
ok_some o (w32_rg _)) fun o =>
z_aload_n X 0 dX12_seated_138 rfl <|
z_getR (q := 47) X dX12_seated_139 fl_X12_152 sm_0 rfl <|
z_bipush X dX12_seated_142 bi_8 <|
z_iload_n X 3 dX12_seated_144 rfl <|
z_iconst X dX12_seated_145 <|
z_iload X 5 dX12_seated_146 rfl <|
z_ishl X dX12_seated_148 <|
z_ior X dX12_seated_149 <|
z_imul X dX12_seated_150 <|
z_iload X 5 dX12_seated_151 rfl <|
z_iadd X dX12_seated_153 <|
z_aload_n X 0 dX12_seated_154 rfl <|
z_getR (q := 47) X dX12_seated_155 fl_X12_152 sm_0 rfl <|
z_bipush X dX12_seated_158 bi_8 <|
z_iload_n X 3 dX12_seated_160 rfl <|
z_iconst X dX12_seated_161 <|
z_iload X 5 dX12_seated_162 rfl <|
z_ishl X dX12_seated_164 <|
z_ior X dX12_seated_165 <|
z_imul X dX12_seated_166 <|
z_iload X 5 dX12_seated_167 rfl <|
z_iadd X dX12_seated_169 <|
z_iald X dX12_seated_170 sm_47 (w32_rg _) o fun v42 r43 o =>
z_aload_n X 0 dX12_seated_171 rfl <|
z_getR (q := 47) X dX12_seated_172 fl_X12_152 sm_0 rfl <|
z_bipush X dX12_seated_175 bi_8 <|
z_iload_n X 3 dX12_seated_177 rfl <|
z_imul X dX12_seated_178 <|
z_iload X 4 dX12_seated_179 rfl <|
z_iadd X dX12_seated_181 <|
z_iald X dX12_seated_182 sm_47 (w32_rg _) o fun v44 r45 o =>
z_iadd X dX12_seated_183 <|
z_iast X dX12_seated_184 sm_47 (w32_rg _) (w32_rg _) o fun s46 o =>
z_iinc (L1 := [(5, .int (pI (w32 (x31 + 1)))), (0, .ref (G.2.2.1 0)), (1, .int (pI p1)), (2, .int (pI p2)), (3, .int (pI x25)), (4, .int (pI x28))]) X 5 dX12_seated_185 rfl (by decide) rfl <|
z_goto (tgt := 106) X dX12_seated_188 (by decide) <|
z_sub (L1 := [(0, .ref (G.2.2.1 0)), (1, .int (pI p1)), (2, .int (pI p2)), (3, .int (pI x25)), (4, .int (pI x28)), (5, .int (pI (w32 (x31 + 1))))]) X [1, 2, 3, 4, 5, 0] rfl <|
ok_some o (w32_rg _)) kc_0) kc_0) kc_1) fun o =>
z_sub (L1 := [(0, .ref (G.2.2.1 0)), (1, .int (pI p1)), (2, .int (pI p2)), (3, .int (pI 0))]) X [1, 2, 3, 0] rfl <|
z_iter (fun (x15 : Int) s16 => rg x15 → At E s16 52 [(0, .ref (G.2.2.1 0)), (1, .int (pI p1)), (2, .int (pI p2)), (3, .int (pI x15))] []) o (fun x15 s16 o r17 =>
z_iload_n X 3 dX12_seated_52 rfl <|
z_iload_n X 1 dX12_seated_53 rfl <|
z_icmp_ge (tgt := 85) X dX12_seated_54 (by decide) r17 hp1 o (fun o =>
z_sub (L1 := [(0, .ref (G.2.2.1 0)), (1, .int (pI p1)), (2, .int (pI p2))]) X [0, 1, 2] rfl <|
ok_some o trivial) fun o =>
z_iload_n X 2 dX12_seated_57 rfl <|
z_joix o (fun (y18 : Int) s19 => rg y18 → At E s19 65 [(0, .ref (G.2.2.1 0)), (1, .int (pI p1)), (2, .int (pI p2)), (3, .int (pI y18))] []) (fun y18 s19 o r20 =>
z_aload_n X 0 dX12_seated_65 rfl <|
z_getR (q := 47) X dX12_seated_66 fl_X12_152 sm_0 rfl <|
z_bipush X dX12_seated_69 bi_8 <|
z_iconst X dX12_seated_71 <|
z_iload_n X 3 dX12_seated_72 rfl <|
z_ishl X dX12_seated_73 <|
z_imul X dX12_seated_74 <|
z_iload_n X 3 dX12_seated_75 rfl <|
z_iadd X dX12_seated_76 <|
z_iconst X dX12_seated_77 <|
z_iast X dX12_seated_78 sm_47 (w32_rg _) kc_1 o fun s21 o =>
z_iinc (L1 := [(3, .int (pI (w32 (y18 + 1)))), (0, .ref (G.2.2.1 0)), (1, .int (pI p1)), (2, .int (pI p2))]) X 3 dX12_seated_79 rfl (by decide) rfl <|
z_goto (tgt := 52) X dX12_seated_82 (by decide) <|
z_sub (L1 := [(0, .ref (G.2.2.1 0)), (1, .int (pI p1)), (2, .int (pI p2)), (3, .int (pI (w32 (y18 + 1))))]) X [1, 2, 3, 0] rfl <|
ok_some o (w32_rg _)) fun o =>
z_if_eq (tgt := 65) X dX12_seated_58 (by decide) hp2 o (fun o =>
ok_some o r17) fun o =>
z_iload_n X 3 dX12_seated_61 rfl <|
z_if_ne (tgt := 79) X dX12_seated_62 (by decide) r17 o (fun o =>
z_iinc (L1 := [(3, .int (pI (w32 (x15 + 1)))), (0, .ref (G.2.2.1 0)), (1, .int (pI p1)), (2, .int (pI p2))]) X 3 dX12_seated_79 rfl (by decide) rfl <|
z_goto (tgt := 52) X dX12_seated_82 (by decide) <|
z_sub (L1 := [(0, .ref (G.2.2.1 0)), (1, .int (pI p1)), (2, .int (pI p2)), (3, .int (pI (w32 (x15 + 1))))]) X [1, 2, 3, 0] rfl <|
ok_some o (w32_rg _)) fun o =>
ok_some o r17) kc_0) fun o =>
z_sub (L1 := [(0, .ref (G.2.2.1 0)), (1, .int (pI p1)), (2, .int (pI p2)), (3, .int (pI 0))]) X [1, 2, 3, 0] rfl <|
z_iter (fun (x8 : Int) s9 => rg x8 → At E s9 30 [(0, .ref (G.2.2.1 0)), (1, .int (pI p1)), (2, .int (pI p2)), (3, .int (pI x8))] []) o (fun x8 s9 o r10 =>
z_iload_n X 3 dX12_seated_30 rfl <|
z_sipush X dX12_seated_31 si_2048 <|
z_icmp_ge (tgt := 50) X dX12_seated_34 (by decide) r10 kc_2048 o (fun o =>
z_sub (L1 := [(0, .ref (G.2.2.1 0)), (1, .int (pI p1)), (2, .int (pI p2))]) X [0, 1, 2] rfl <|
ok_some o trivial) fun o =>
z_aload_n X 0 dX12_seated_37 rfl <|
z_getR (q := 47) X dX12_seated_38 fl_X12_152 sm_0 rfl <|
z_iload_n X 3 dX12_seated_41 rfl <|
z_iconst X dX12_seated_42 <|
z_iast X dX12_seated_43 sm_47 r10 kc_0 o fun s11 o =>
z_iinc (L1 := [(3, .int (pI (w32 (x8 + 1)))), (0, .ref (G.2.2.1 0)), (1, .int (pI p1)), (2, .int (pI p2))]) X 3 dX12_seated_44 rfl (by decide) rfl <|
z_goto (tgt := 30) X dX12_seated_47 (by decide) <|
z_sub (L1 := [(0, .ref (G.2.2.1 0)), (1, .int (pI p1)), (2, .int (pI p2)), (3, .int (pI (w32 (x8 + 1))))]) X [1, 2, 3, 0] rfl <|
ok_some o (w32_rg _)) kc_0) fun o =>
z_iconst X dX12_seated_26 <|
z_iret X Y dX12_seated_27 o kc_m1 : At E s0 0 [(0, .ref (G.2.2.1 0)), (1, .int (pI p1)), (2, .int (pI p2))] [])
set_option maxHeartbeats 4000000 in
set_option maxRecDepth 100000 in
theorem ct_X12_set (p1 : Int) (p2 : Int) (p3 : Int) (hp1 : rg p1) (hp2 : rg p2) (hp3 : rg p3) (G : Gw) (s0 : St) (r : Int) (σ1 : St) (e : fX12_set p1 p2 p3 s0 = some (r, σ1)) : Ct yX12_set cX12_set 4 (some .boolean) 2 46 SM G [.ref (G.2.2.1 0), .int (pI p1), .int (pI p2), .int (pI p3)] s0 (QI SM G r r01 σ1) :=
  Ct.of (by decide +kernel) (Nat.le_of_ble_eq_true rfl) fun E X Y => by
    have o : Ok (fX12_set p1 p2 p3 s0) (fun x σ' => x = r ∧ σ' = σ1) := ⟨r, σ1, e, rfl, rfl⟩
    unfold fX12_set at o
    exact (
z_aload_n X 0 dX12_set_0 rfl <|
z_iconst X dX12_set_1 <|
z_putI X dX12_set_2 fl_X12_183 sm_0 ft_X12_0 rfl kc_0 o fun s1 o =>
z_aload_n X 0 dX12_set_5 rfl <|
z_iload_n X 1 dX12_set_6 rfl <|
z_iload_n X 2 dX12_set_7 rfl <|
z_iload_n X 3 dX12_set_8 rfl <|
z_callvI X dX12_set_9 q_1834 wX12_canSet sm_0 rfl (by decide) [.int (pI p1), .int (pI p2), .int (pI p3)] [] rfl rfl (Nat.le_of_ble_eq_true rfl) (fun r σ1 e => ct_X12_canSet p1 p2 p3 hp1 hp2 hp3 G _ r σ1 e) o fun r2 s3 h4 o =>
z_if_ne (tgt := 17) X dX12_set_12 (by decide) (r01_rg h4) o (fun o =>
z_iload_n X 1 dX12_set_17 rfl <|
z_join o (fun (y6 : Unit) s7 => True → At E s7 31 [(0, .ref (G.2.2.1 0)), (1, .int (pI p1)), (2, .int (pI p2)), (3, .int (pI p3))] []) (fun y6 s7 o r8 =>
z_iload_n X 1 dX12_set_31 rfl <|
z_iconst X dX12_set_32 <|
z_join o (fun (y10 : Unit) s11 => True → At E s11 48 [(0, .ref (G.2.2.1 0)), (1, .int (pI p1)), (2, .int (pI p2)), (3, .int (pI p3))] []) (fun y10 s11 o r12 =>
z_iload_n X 1 dX12_set_48 rfl <|
z_iconst X dX12_set_49 <|
z_join o (fun (y14 : Unit) s15 => True → At E s15 60 [(0, .ref (G.2.2.1 0)), (1, .int (pI p1)), (2, .int (pI p2)), (3, .int (pI p3))] []) (fun y14 s15 o r16 =>
z_iload_n X 1 dX12_set_60 rfl <|
z_iconst X dX12_set_61 <|
z_icmp_ne (tgt := 72) X dX12_set_62 (by decide) hp1 kc_3 o (fun o =>
z_aload_n X 0 dX12_set_72 rfl <|
z_iconst X dX12_set_73 <|
z_putI X dX12_set_74 fl_X12_187 sm_0 ft_X12_3 rfl kc_0 o fun s17 o =>
z_iconst X dX12_set_77 <|
z_zret X Y dX12_set_78 o kb_1 kb_1) fun o =>
z_aload_n X 0 dX12_set_65 rfl <|
z_getR (q := 6) X dX12_set_66 fl_X12_25 sm_0 rfl <|
z_iload_n X 2 dX12_set_69 rfl <|
z_iload_n X 3 dX12_set_70 rfl <|
z_iast X dX12_set_71 sm_6 hp2 hp3 o fun s18 o =>
z_aload_n X 0 dX12_set_72 rfl <|
z_iconst X dX12_set_73 <|
z_putI X dX12_set_74 fl_X12_187 sm_0 ft_X12_3 rfl kc_0 o fun s19 o =>
z_iconst X dX12_set_77 <|
z_zret X Y dX12_set_78 o kb_1 kb_1) fun o =>
z_icmp_ne (tgt := 60) X dX12_set_50 (by decide) hp1 kc_2 o (fun o =>
ok_some o trivial) fun o =>
z_aload_n X 0 dX12_set_53 rfl <|
z_getR (q := 5) X dX12_set_54 fl_X12_22 sm_0 rfl <|
z_iload_n X 2 dX12_set_57 rfl <|
z_iload_n X 3 dX12_set_58 rfl <|
z_iast X dX12_set_59 sm_5 hp2 hp3 o fun s13 o =>
ok_some o trivial) fun o =>
z_icmp_ne (tgt := 48) X dX12_set_33 (by decide) hp1 kc_1 o (fun o =>
ok_some o trivial) fun o =>
z_aload_n X 0 dX12_set_36 rfl <|
z_getR (q := 1) X dX12_set_37 fl_X12_7 sm_0 rfl <|
z_bipush X dX12_set_40 bi_29 <|
z_iload_n X 2 dX12_set_42 rfl <|
z_iadd X dX12_set_43 <|
z_iload_n X 3 dX12_set_44 rfl <|
z_iconst X dX12_set_45 <|
z_iadd X dX12_set_46 <|
z_iast X dX12_set_47 sm_1 (w32_rg _) (w32_rg _) o fun s9 o =>
ok_some o trivial) fun o =>
z_if_ne (tgt := 31) X dX12_set_18 (by decide) hp1 o (fun o =>
ok_some o trivial) fun o =>
z_aload_n X 0 dX12_set_21 rfl <|
z_getR (q := 1) X dX12_set_22 fl_X12_7 sm_0 rfl <|
z_bipush X dX12_set_25 bi_17 <|
z_iload_n X 2 dX12_set_27 rfl <|
z_iadd X dX12_set_28 <|
z_iload_n X 3 dX12_set_29 rfl <|
z_iast X dX12_set_30 sm_1 (w32_rg _) hp3 o fun s5 o =>
ok_some o trivial) fun o =>
z_iconst X dX12_set_15 <|
z_zret X Y dX12_set_16 o kb_0 kb_0 : At E s0 0 [(0, .ref (G.2.2.1 0)), (1, .int (pI p1)), (2, .int (pI p2)), (3, .int (pI p3))] [])
set_option maxHeartbeats 4000000 in
set_option maxRecDepth 100000 in
theorem ct_X12_soonest (p1 : Int) (hp1 : rg p1) (G : Gw) (s0 : St) (r : Int) (σ1 : St) (e : fX12_soonest p1 s0 = some (r, σ1)) : Ct yX12_soonest cX12_soonest 3 (some .int) 7 163 SM G [.ref (G.2.2.1 0), .int (pI p1)] s0 (QI SM G r rg σ1) :=
  Ct.of (by decide +kernel) (Nat.le_of_ble_eq_true rfl) fun E X Y => by
    have o : Ok (fX12_soonest p1 s0) (fun x σ' => x = r ∧ σ' = σ1) := ⟨r, σ1, e, rfl, rfl⟩
    unfold fX12_soonest at o
    exact (
z_aload_n X 0 dX12_soonest_0 rfl <|
z_iconst X dX12_soonest_1 <|
z_putI X dX12_soonest_2 fl_X12_183 sm_0 ft_X12_0 rfl kc_0 o fun s1 o =>
z_aload_n X 0 dX12_soonest_5 rfl <|
z_iload_n X 1 dX12_soonest_6 rfl <|
z_callvI X dX12_soonest_7 q_1842 wX12_isPerson sm_0 rfl (by decide) [.int (pI p1)] [] rfl rfl (Nat.le_of_ble_eq_true rfl) (fun r σ1 e => ct_X12_isPerson p1 hp1 G _ r σ1 e) o fun r2 s3 h4 o =>
z_if_ne (tgt := 15) X dX12_soonest_10 (by decide) (r01_rg h4) o (fun o =>
z_aload_n X 0 dX12_soonest_15 rfl <|
z_callvV X dX12_soonest_16 q_2144 wX12_thinks sm_0 rfl (by decide) [] [] rfl rfl (Nat.le_of_ble_eq_true rfl) (fun r σ1 e => ct_X12_thinks G _ r σ1 e) o fun r5 s6 o =>
z_iconst X dX12_soonest_19 <|
z_istore_n (L1 := [(2, .int (pI 0)), (0, .ref (G.2.2.1 0)), (1, .int (pI p1))]) X dX12_soonest_20 rfl (by decide) rfl <|
z_join o (fun (y18 : Int) s19 => rg y18 → At E s19 52 [(0, .ref (G.2.2.1 0)), (2, .int (pI y18))] []) (fun y18 s19 o r20 =>
z_aload_n X 0 dX12_soonest_52 rfl <|
z_callvV X dX12_soonest_53 q_2152 wX12_endsThought sm_0 rfl (by decide) [] [] rfl rfl (Nat.le_of_ble_eq_true rfl) (fun r σ1 e => ct_X12_endsThought G _ r σ1 e) o fun r21 s22 o =>
z_iload_n X 1 dX12_soonest_56 rfl <|
z_bipush X dX12_soonest_57 bi_60 <|
z_icmp_le (tgt := 66) X dX12_soonest_59 (by decide) r20 kc_60 o (fun o =>
z_iload_n X 1 dX12_soonest_66 rfl <|
z_iret X Y dX12_soonest_67 o r20) fun o =>
z_iconst X dX12_soonest_62 <|
z_goto (tgt := 67) X dX12_soonest_63 (by decide) <|
z_iret X Y dX12_soonest_67 o kc_m1) fun o =>
z_sub (L1 := [(0, .ref (G.2.2.1 0)), (1, .int (pI p1)), (2, .int (pI 0))]) X [1, 2, 0] rfl <|
z_iter (fun (x8 : Int) s9 => rg x8 → At E s9 21 [(0, .ref (G.2.2.1 0)), (1, .int (pI p1)), (2, .int (pI x8))] []) o (fun x8 s9 o r10 =>
z_iload_n X 2 dX12_soonest_21 rfl <|
z_bipush X dX12_soonest_22 bi_60 <|
z_icmp_gt (tgt := 52) X dX12_soonest_24 (by decide) r10 kc_60 o (fun o =>
z_sub (L1 := [(0, .ref (G.2.2.1 0)), (2, .int (pI x8))]) X [0, 2] rfl <|
ok_some o r10) fun o =>
z_aload_n X 0 dX12_soonest_27 rfl <|
z_getR (q := 1) X dX12_soonest_28 fl_X12_7 sm_0 rfl <|
z_sipush X dX12_soonest_31 si_141 <|
z_iload_n X 1 dX12_soonest_34 rfl <|
z_iadd X dX12_soonest_35 <|
z_iald X dX12_soonest_36 sm_1 (w32_rg _) o fun v11 r12 o =>
z_if_ne (tgt := 52) X dX12_soonest_37 (by decide) r12 o (fun o =>
z_sub (L1 := [(0, .ref (G.2.2.1 0)), (2, .int (pI x8))]) X [0, 2] rfl <|
ok_some o r10) fun o =>
z_aload_n X 0 dX12_soonest_40 rfl <|
z_callvI X dX12_soonest_41 q_2050 wX12_goesBy sm_0 rfl (by decide) [] [] rfl rfl (Nat.le_of_ble_eq_true rfl) (fun r σ1 e => ct_X12_goesBy G _ r σ1 e) o fun r13 s14 h15 o =>
z_pop X dX12_soonest_44 rfl <|
z_iload_n X 2 dX12_soonest_45 rfl <|
z_iconst X dX12_soonest_46 <|
z_iadd X dX12_soonest_47 <|
z_istoreL_n (L1 := fun v16 => [(2, .int (pI v16)), (0, .ref (G.2.2.1 0)), (1, .int (pI p1))]) (R := rg) X dX12_soonest_48 rfl (by decide) (fun _ => rfl) o (w32_rg _) fun v16 r17 o =>
z_goto (tgt := 21) X dX12_soonest_49 (by decide) <|
z_sub (L1 := [(0, .ref (G.2.2.1 0)), (1, .int (pI p1)), (2, .int (pI v16))]) X [1, 2, 0] rfl <|
ok_some o r17) kc_0) fun o =>
z_iconst X dX12_soonest_13 <|
z_iret X Y dX12_soonest_14 o kc_m1 : At E s0 0 [(0, .ref (G.2.2.1 0)), (1, .int (pI p1))] [])
set_option maxHeartbeats 4000000 in
set_option maxRecDepth 100000 in
theorem ct_X12_state (p1 : Int) (hp1 : rg p1) (G : Gw) (s0 : St) (r : Int) (σ1 : St) (e : fX12_state p1 s0 = some (r, σ1)) : Ct yX12_state cX12_state 3 (some .int) 0 0 SM G [.ref (G.2.2.1 0), .int (pI p1)] s0 (QI SM G r rg σ1) :=
  Ct.of (by decide +kernel) (Nat.le_of_ble_eq_true rfl) fun E X Y => by
    have o : Ok (fX12_state p1 s0) (fun x σ' => x = r ∧ σ' = σ1) := ⟨r, σ1, e, rfl, rfl⟩
    unfold fX12_state at o
    exact (
z_aload_n X 0 dX12_state_0 rfl <|
z_iconst X dX12_state_1 <|
z_putI X dX12_state_2 fl_X12_183 sm_0 ft_X12_0 rfl kc_0 o fun s1 o =>
z_aload_n X 0 dX12_state_5 rfl <|
z_getR (q := 1) X dX12_state_6 fl_X12_7 sm_0 rfl <|
z_iconst X dX12_state_9 <|
z_iald X dX12_state_10 sm_1 kc_2 o fun v2 r3 o =>
z_istore_n (L1 := [(2, .int (pI v2)), (0, .ref (G.2.2.1 0)), (1, .int (pI p1))]) X dX12_state_11 rfl (by decide) rfl <|
z_aload_n X 1 dX12_state_12 rfl <|
z_getR (q := 1) X dX12_state_13 fl_X12_7 sm_0 rfl <|
z_iconst X dX12_state_16 <|
z_iload_n X 2 dX12_state_17 rfl <|
z_iast X dX12_state_18 sm_1 kc_2 hp1 o fun s4 o =>
z_aload_n X 1 dX12_state_19 rfl <|
z_iconst X dX12_state_20 <|
z_putI X dX12_state_21 fl_X12_187 sm_0 ft_X12_3 rfl kc_0 o fun s5 o =>
z_iload_n X 0 dX12_state_24 rfl <|
z_iret X Y dX12_state_25 o r3 : At E s0 0 [(0, .ref (G.2.2.1 0)), (1, .int (pI p1))] [])
set_option maxHeartbeats 4000000 in
set_option maxRecDepth 100000 in
theorem ct_X12_waysUp (p1 : Int) (p2 : Int) (hp1 : rg p1) (hp2 : rg p2) (G : Gw) (s0 : St) (r : Int) (σ1 : St) (e : fX12_waysUp p1 p2 s0 = some (r, σ1)) : Ct yX12_waysUp cX12_waysUp 5 (some .int) 1 22 SM G [.ref (G.2.2.1 0), .int (pI p1), .int (pI p2)] s0 (QI SM G r rg σ1) :=
  Ct.of (by decide +kernel) (Nat.le_of_ble_eq_true rfl) fun E X Y => by
    have o : Ok (fX12_waysUp p1 p2 s0) (fun x σ' => x = r ∧ σ' = σ1) := ⟨r, σ1, e, rfl, rfl⟩
    unfold fX12_waysUp at o
    exact (
z_iconst X dX12_waysUp_0 <|
z_istore_n (L1 := [(3, .int (pI 0)), (0, .ref (G.2.2.1 0)), (1, .int (pI p1)), (2, .int (pI p2))]) X dX12_waysUp_1 rfl (by decide) rfl <|
z_join o (fun (y25 : Unit) s26 => True → At E s26 87 [(0, .ref (G.2.2.1 0)), (1, .int (pI p1))] []) (fun y25 s26 o r27 =>
z_aload_n X 0 dX12_waysUp_87 rfl <|
z_getR (q := 49) X dX12_waysUp_88 fl_X12_158 sm_0 rfl <|
z_iload_n X 1 dX12_waysUp_91 rfl <|
z_iald X dX12_waysUp_92 sm_49 hp1 o fun v28 r29 o =>
z_iret X Y dX12_waysUp_93 o r29) fun o =>
z_sub (L1 := [(0, .ref (G.2.2.1 0)), (1, .int (pI p1)), (2, .int (pI p2)), (3, .int (pI 0))]) X [1, 2, 3, 0] rfl <|
z_iter (fun (x1 : Int) s2 => rg x1 → At E s2 2 [(0, .ref (G.2.2.1 0)), (1, .int (pI p1)), (2, .int (pI p2)), (3, .int (pI x1))] []) o (fun x1 s2 o r3 =>
z_iload_n X 3 dX12_waysUp_2 rfl <|
z_iload_n X 1 dX12_waysUp_3 rfl <|
z_icmp_gt (tgt := 87) X dX12_waysUp_4 (by decide) r3 hp1 o (fun o =>
z_sub (L1 := [(0, .ref (G.2.2.1 0)), (1, .int (pI p1))]) X [0, 1] rfl <|
ok_some o trivial) fun o =>
z_aload_n X 0 dX12_waysUp_7 rfl <|
z_getR (q := 49) X dX12_waysUp_8 fl_X12_158 sm_0 rfl <|
z_iload_n X 3 dX12_waysUp_11 rfl <|
z_iload_n X 3 dX12_waysUp_12 rfl <|
z_join o (fun (y4 : Int) s5 => r01 y4 → At E s5 21 [(0, .ref (G.2.2.1 0)), (1, .int (pI p1)), (2, .int (pI p2)), (3, .int (pI x1))] [.int (pI y4), .int (pI x1), .ref (G.2.2.1 49)]) (fun y4 s5 o r6 =>
z_iast X dX12_waysUp_21 sm_49 r3 (r01_rg r6) o fun s7 o =>
z_iconst X dX12_waysUp_22 <|
z_istore (L1 := [(4, .int (pI 1)), (0, .ref (G.2.2.1 0)), (1, .int (pI p1)), (2, .int (pI p2)), (3, .int (pI x1))]) X dX12_waysUp_23 (by decide) rfl <|
z_join o (fun (y22 : Unit) s23 => True → At E s23 81 [(0, .ref (G.2.2.1 0)), (1, .int (pI p1)), (2, .int (pI p2)), (3, .int (pI x1))] []) (fun y22 s23 o r24 =>
z_iinc (L1 := [(3, .int (pI (w32 (x1 + 1)))), (0, .ref (G.2.2.1 0)), (1, .int (pI p1)), (2, .int (pI p2))]) X 3 dX12_waysUp_81 rfl (by decide) rfl <|
z_goto (tgt := 2) X dX12_waysUp_84 (by decide) <|
z_sub (L1 := [(0, .ref (G.2.2.1 0)), (1, .int (pI p1)), (2, .int (pI p2)), (3, .int (pI (w32 (x1 + 1))))]) X [1, 2, 3, 0] rfl <|
ok_some o (w32_rg _)) fun o =>
z_sub (L1 := [(0, .ref (G.2.2.1 0)), (1, .int (pI p1)), (2, .int (pI p2)), (3, .int (pI x1)), (4, .int (pI 1))]) X [1, 2, 3, 4, 0] rfl <|
z_iter (fun (x8 : Int) s9 => rg x8 → At E s9 25 [(0, .ref (G.2.2.1 0)), (1, .int (pI p1)), (2, .int (pI p2)), (3, .int (pI x1)), (4, .int (pI x8))] []) o (fun x8 s9 o r10 =>
z_iload X 4 dX12_waysUp_25 rfl <|
z_bipush X dX12_waysUp_27 bi_6 <|
z_icmp_ge (tgt := 81) X dX12_waysUp_29 (by decide) r10 kc_6 o (fun o =>
z_sub (L1 := [(0, .ref (G.2.2.1 0)), (1, .int (pI p1)), (2, .int (pI p2)), (3, .int (pI x1))]) X [0, 1, 2, 3] rfl <|
ok_some o trivial) fun o =>
z_iload X 4 dX12_waysUp_32 rfl <|
z_iload_n X 3 dX12_waysUp_34 rfl <|
z_icmp_gt (tgt := 81) X dX12_waysUp_35 (by decide) r10 r3 o (fun o =>
z_sub (L1 := [(0, .ref (G.2.2.1 0)), (1, .int (pI p1)), (2, .int (pI p2)), (3, .int (pI x1))]) X [0, 1, 2, 3] rfl <|
ok_some o trivial) fun o =>
z_aload_n X 0 dX12_waysUp_38 rfl <|
z_iload_n X 2 dX12_waysUp_39 rfl <|
z_iload X 4 dX12_waysUp_40 rfl <|
z_iconst X dX12_waysUp_42 <|
z_isub X dX12_waysUp_43 <|
z_callvI X dX12_waysUp_44 q_2189 wX12_has sm_0 rfl (by decide) [.int (pI p2), .int (pI (w32 (x8 - 1)))] [] rfl rfl (Nat.le_of_ble_eq_true rfl) (fun r σ1 e => ct_X12_has p2 (w32 (x8 - 1)) hp2 (w32_rg _) G _ r σ1 e) o fun r11 s12 h13 o =>
z_if_eq (tgt := 75) X dX12_waysUp_47 (by decide) (r01_rg h13) o (fun o =>
z_iinc (L1 := [(4, .int (pI (w32 (x8 + 1)))), (0, .ref (G.2.2.1 0)), (1, .int (pI p1)), (2, .int (pI p2)), (3, .int (pI x1))]) X 4 dX12_waysUp_75 rfl (by decide) rfl <|
z_goto (tgt := 25) X dX12_waysUp_78 (by decide) <|
z_sub (L1 := [(0, .ref (G.2.2.1 0)), (1, .int (pI p1)), (2, .int (pI p2)), (3, .int (pI x1)), (4, .int (pI (w32 (x8 + 1))))]) X [1, 2, 3, 4, 0] rfl <|
ok_some o (w32_rg _)) fun o =>
z_aload_n X 0 dX12_waysUp_50 rfl <|
z_getR (q := 49) X dX12_waysUp_51 fl_X12_158 sm_0 rfl <|
z_iload_n X 3 dX12_waysUp_54 rfl <|
z_aload_n X 0 dX12_waysUp_55 rfl <|
z_aload_n X 0 dX12_waysUp_56 rfl <|
z_getR (q := 49) X dX12_waysUp_57 fl_X12_158 sm_0 rfl <|
z_iload_n X 3 dX12_waysUp_60 rfl <|
z_iald X dX12_waysUp_61 sm_49 r3 o fun v14 r15 o =>
z_aload_n X 0 dX12_waysUp_62 rfl <|
z_getR (q := 49) X dX12_waysUp_63 fl_X12_158 sm_0 rfl <|
z_iload_n X 3 dX12_waysUp_66 rfl <|
z_iload X 4 dX12_waysUp_67 rfl <|
z_isub X dX12_waysUp_69 <|
z_iald X dX12_waysUp_70 sm_49 (w32_rg _) o fun v16 r17 o =>
z_callvI X dX12_waysUp_71 q_2282 wX12_added sm_0 rfl (by decide) [.int (pI v14), .int (pI v16)] [.int (pI x1), .ref (G.2.2.1 49)] rfl rfl (Nat.le_of_ble_eq_true rfl) (fun r σ1 e => ct_X12_added v14 v16 r15 r17 G _ r σ1 e) o fun r18 s19 h20 o =>
z_iast X dX12_waysUp_74 sm_49 r3 h20 o fun s21 o =>
z_iinc (L1 := [(4, .int (pI (w32 (x8 + 1)))), (0, .ref (G.2.2.1 0)), (1, .int (pI p1)), (2, .int (pI p2)), (3, .int (pI x1))]) X 4 dX12_waysUp_75 rfl (by decide) rfl <|
z_goto (tgt := 25) X dX12_waysUp_78 (by decide) <|
z_sub (L1 := [(0, .ref (G.2.2.1 0)), (1, .int (pI p1)), (2, .int (pI p2)), (3, .int (pI x1)), (4, .int (pI (w32 (x8 + 1))))]) X [1, 2, 3, 4, 0] rfl <|
ok_some o (w32_rg _)) kc_1) fun o =>
z_if_ne (tgt := 20) X dX12_waysUp_13 (by decide) r3 o (fun o =>
z_iconst X dX12_waysUp_20 <|
ok_some o kb_0) fun o =>
z_iconst X dX12_waysUp_16 <|
z_goto (tgt := 21) X dX12_waysUp_17 (by decide) <|
ok_some o kb_1) kc_0 : At E s0 0 [(0, .ref (G.2.2.1 0)), (1, .int (pI p1)), (2, .int (pI p2))] [])
set_option maxHeartbeats 4000000 in
set_option maxRecDepth 100000 in
theorem ct_X12_steps (p1 : Int) (p2 : Int) (p3 : Int) (hp1 : rg p1) (hp2 : rg p2) (hp3 : rg p3) (G : Gw) (s0 : St) (r : Int) (σ1 : St) (e : fX12_steps p1 p2 p3 s0 = some (r, σ1)) : Ct yX12_steps cX12_steps 7 (some .int) 2 46 SM G [.ref (G.2.2.1 0), .int (pI p1), .int (pI p2), .int (pI p3)] s0 (QI SM G r rg σ1) :=
  Ct.of (by decide +kernel) (Nat.le_of_ble_eq_true rfl) fun E X Y => by
    have o : Ok (fX12_steps p1 p2 p3 s0) (fun x σ' => x = r ∧ σ' = σ1) := ⟨r, σ1, e, rfl, rfl⟩
    unfold fX12_steps at o
    exact (
z_aload_n X 0 dX12_steps_0 rfl <|
z_iconst X dX12_steps_1 <|
z_putI X dX12_steps_2 fl_X12_183 sm_0 ft_X12_0 rfl kc_0 o fun s1 o =>
z_aload_n X 0 dX12_steps_5 rfl <|
z_iload_n X 1 dX12_steps_6 rfl <|
z_iconst X dX12_steps_7 <|
z_bipush X dX12_steps_8 bi_40 <|
z_callvI X dX12_steps_10 q_1822 wX12_isIn sm_0 rfl (by decide) [.int (pI p1), .int (pI 0), .int (pI 40)] [] rfl rfl (Nat.le_of_ble_eq_true rfl) (fun r σ1 e => ct_X12_isIn p1 0 40 hp1 kc_0 kc_40 G _ r σ1 e) o fun r2 s3 h4 o =>
z_if_eq (tgt := 37) X dX12_steps_13 (by decide) (r01_rg h4) o (fun o =>
z_iconst X dX12_steps_37 <|
z_iret X Y dX12_steps_38 o kc_m1) fun o =>
z_aload_n X 0 dX12_steps_16 rfl <|
z_iload_n X 2 dX12_steps_17 rfl <|
z_iconst X dX12_steps_18 <|
z_bipush X dX12_steps_19 bi_31 <|
z_callvI X dX12_steps_21 q_1822 wX12_isIn sm_0 rfl (by decide) [.int (pI p2), .int (pI 0), .int (pI 31)] [] rfl rfl (Nat.le_of_ble_eq_true rfl) (fun r σ1 e => ct_X12_isIn p2 0 31 hp2 kc_0 kc_31 G _ r σ1 e) o fun r5 s6 h7 o =>
z_if_eq (tgt := 37) X dX12_steps_24 (by decide) (r01_rg h7) o (fun o =>
z_iconst X dX12_steps_37 <|
z_iret X Y dX12_steps_38 o kc_m1) fun o =>
z_aload_n X 0 dX12_steps_27 rfl <|
z_iload_n X 3 dX12_steps_28 rfl <|
z_iconst X dX12_steps_29 <|
z_iconst X dX12_steps_30 <|
z_callvI X dX12_steps_31 q_1822 wX12_isIn sm_0 rfl (by decide) [.int (pI p3), .int (pI 0), .int (pI 1)] [] rfl rfl (Nat.le_of_ble_eq_true rfl) (fun r σ1 e => ct_X12_isIn p3 0 1 hp3 kc_0 kc_1 G _ r σ1 e) o fun r8 s9 h10 o =>
z_if_ne (tgt := 39) X dX12_steps_34 (by decide) (r01_rg h10) o (fun o =>
z_aload_n X 0 dX12_steps_39 rfl <|
z_iload_n X 1 dX12_steps_40 rfl <|
z_iload_n X 2 dX12_steps_41 rfl <|
z_callvI X dX12_steps_42 q_2315 wX12_waysUp sm_0 rfl (by decide) [.int (pI p1), .int (pI p2)] [] rfl rfl (Nat.le_of_ble_eq_true rfl) (fun r σ1 e => ct_X12_waysUp p1 p2 hp1 hp2 G _ r σ1 e) o fun r11 s12 h13 o =>
z_istore (L1 := [(4, .int (pI r11)), (0, .ref (G.2.2.1 0)), (1, .int (pI p1)), (2, .int (pI p2)), (3, .int (pI p3))]) X dX12_steps_45 (by decide) rfl <|
z_iload_n X 4 dX12_steps_47 rfl <|
z_if_eq (tgt := 55) X dX12_steps_48 (by decide) hp3 o (fun o =>
z_iload X 0 dX12_steps_55 rfl <|
z_iret X Y dX12_steps_57 o h13) fun o =>
z_iload_n X 2 dX12_steps_51 rfl <|
z_if_ne (tgt := 58) X dX12_steps_52 (by decide) hp1 o (fun o =>
z_iconst X dX12_steps_58 <|
z_istore (L1 := [(5, .int (pI 0)), (4, .int (pI r11)), (0, .ref (G.2.2.1 0)), (1, .int (pI p1)), (2, .int (pI p2)), (3, .int (pI p3))]) X dX12_steps_59 (by decide) rfl <|
z_iconst X dX12_steps_61 <|
z_istore (L1 := [(6, .int (pI 1)), (5, .int (pI 0)), (4, .int (pI r11)), (0, .ref (G.2.2.1 0)), (1, .int (pI p1)), (2, .int (pI p2)), (3, .int (pI p3))]) X dX12_steps_62 (by decide) rfl <|
z_join o (fun (y31 : Int) s32 => rg y31 → At E s32 134 [(5, .int (pI y31))] []) (fun y31 s32 o r33 =>
z_iload X 0 dX12_steps_134 rfl <|
z_iret X Y dX12_steps_136 o r33) fun o =>
z_sub (L1 := [(0, .ref (G.2.2.1 0)), (1, .int (pI p1)), (2, .int (pI p2)), (5, .int (pI 0)), (6, .int (pI 1))]) X [3, 4, 5, 1, 0] rfl <|
z_iter (fun (x14 : Int × Int) s15 => rg x14.1 ∧ rg x14.2 → At E s15 64 [(0, .ref (G.2.2.1 0)), (1, .int (pI p1)), (2, .int (pI p2)), (5, .int (pI x14.1)), (6, .int (pI x14.2))] []) o (fun x14 s15 o r16 =>
z_iload X 4 dX12_steps_64 rfl <|
z_bipush X dX12_steps_66 bi_6 <|
z_icmp_ge (tgt := 134) X dX12_steps_68 (by decide) r16.2 kc_6 o (fun o =>
z_sub (L1 := [(5, .int (pI x14.1))]) X [3] rfl <|
ok_some o r16.1) fun o =>
z_aload_n X 0 dX12_steps_71 rfl <|
z_iload_n X 2 dX12_steps_72 rfl <|
z_iload X 4 dX12_steps_73 rfl <|
z_iconst X dX12_steps_75 <|
z_isub X dX12_steps_76 <|
z_callvI X dX12_steps_77 q_2189 wX12_has sm_0 rfl (by decide) [.int (pI p2), .int (pI (w32 (x14.2 - 1)))] [] rfl rfl (Nat.le_of_ble_eq_true rfl) (fun r σ1 e => ct_X12_has p2 (w32 (x14.2 - 1)) hp2 (w32_rg _) G _ r σ1 e) o fun r17 s18 h19 o =>
z_if_ne (tgt := 86) X dX12_steps_80 (by decide) (r01_rg h19) o (fun o =>
z_iload_n X 1 dX12_steps_86 rfl <|
z_iload X 4 dX12_steps_87 rfl <|
z_join o (fun (y23 : Int) s24 => rg y23 → At E s24 101 [(0, .ref (G.2.2.1 0)), (1, .int (pI p1)), (2, .int (pI p2)), (5, .int (pI y23)), (6, .int (pI x14.2))] []) (fun y23 s24 o r25 =>
z_iload_n X 1 dX12_steps_101 rfl <|
z_iconst X dX12_steps_102 <|
z_iload X 4 dX12_steps_103 rfl <|
z_imul X dX12_steps_105 <|
z_icmp_lt (tgt := 128) X dX12_steps_106 (by decide) hp1 (w32_rg _) o (fun o =>
z_iinc (L1 := [(6, .int (pI (w32 (x14.2 + 1)))), (0, .ref (G.2.2.1 0)), (1, .int (pI p1)), (2, .int (pI p2)), (5, .int (pI y23))]) X 4 dX12_steps_128 rfl (by decide) rfl <|
z_goto (tgt := 64) X dX12_steps_131 (by decide) <|
z_sub (L1 := [(0, .ref (G.2.2.1 0)), (1, .int (pI p1)), (2, .int (pI p2)), (5, .int (pI y23)), (6, .int (pI (w32 (x14.2 + 1))))]) X [1, 2, 3, 4, 0] rfl <|
ok_some o ⟨r25, (w32_rg _)⟩) fun o =>
z_aload_n X 0 dX12_steps_109 rfl <|
z_iload X 3 dX12_steps_110 rfl <|
z_aload_n X 0 dX12_steps_112 rfl <|
z_getR (q := 49) X dX12_steps_113 fl_X12_158 sm_0 rfl <|
z_iload_n X 1 dX12_steps_116 rfl <|
z_iconst X dX12_steps_117 <|
z_iload X 4 dX12_steps_118 rfl <|
z_imul X dX12_steps_120 <|
z_isub X dX12_steps_121 <|
z_iald X dX12_steps_122 sm_49 (w32_rg _) o fun v26 r27 o =>
z_callvI X dX12_steps_123 q_2282 wX12_added sm_0 rfl (by decide) [.int (pI y23), .int (pI v26)] [] rfl rfl (Nat.le_of_ble_eq_true rfl) (fun r σ1 e => ct_X12_added y23 v26 r25 r27 G _ r σ1 e) o fun r28 s29 h30 o =>
z_istore (L1 := [(5, .int (pI r28)), (0, .ref (G.2.2.1 0)), (1, .int (pI p1)), (2, .int (pI p2)), (6, .int (pI x14.2))]) X dX12_steps_126 (by decide) rfl <|
z_iinc (L1 := [(6, .int (pI (w32 (x14.2 + 1)))), (5, .int (pI r28)), (0, .ref (G.2.2.1 0)), (1, .int (pI p1)), (2, .int (pI p2))]) X 4 dX12_steps_128 rfl (by decide) rfl <|
z_goto (tgt := 64) X dX12_steps_131 (by decide) <|
z_sub (L1 := [(0, .ref (G.2.2.1 0)), (1, .int (pI p1)), (2, .int (pI p2)), (5, .int (pI r28)), (6, .int (pI (w32 (x14.2 + 1))))]) X [2, 3, 4, 1, 0] rfl <|
ok_some o ⟨h30, (w32_rg _)⟩) fun o =>
z_icmp_ne (tgt := 101) X dX12_steps_89 (by decide) hp1 r16.2 o (fun o =>
ok_some o r16.1) fun o =>
z_aload_n X 0 dX12_steps_92 rfl <|
z_iload X 3 dX12_steps_93 rfl <|
z_iconst X dX12_steps_95 <|
z_callvI X dX12_steps_96 q_2282 wX12_added sm_0 rfl (by decide) [.int (pI x14.1), .int (pI 1)] [] rfl rfl (Nat.le_of_ble_eq_true rfl) (fun r σ1 e => ct_X12_added x14.1 1 r16.1 kc_1 G _ r σ1 e) o fun r20 s21 h22 o =>
z_istore (L1 := [(5, .int (pI r20)), (0, .ref (G.2.2.1 0)), (1, .int (pI p1)), (2, .int (pI p2)), (6, .int (pI x14.2))]) X dX12_steps_99 (by decide) rfl <|
z_sub (L1 := [(0, .ref (G.2.2.1 0)), (1, .int (pI p1)), (2, .int (pI p2)), (5, .int (pI r20)), (6, .int (pI x14.2))]) X [1, 2, 3, 0, 4] rfl <|
ok_some o h22) fun o =>
z_goto (tgt := 128) X dX12_steps_83 (by decide) <|
z_iinc (L1 := [(6, .int (pI (w32 (x14.2 + 1)))), (0, .ref (G.2.2.1 0)), (1, .int (pI p1)), (2, .int (pI p2)), (5, .int (pI x14.1))]) X 4 dX12_steps_128 rfl (by decide) rfl <|
z_goto (tgt := 64) X dX12_steps_131 (by decide) <|
z_sub (L1 := [(0, .ref (G.2.2.1 0)), (1, .int (pI p1)), (2, .int (pI p2)), (5, .int (pI x14.1)), (6, .int (pI (w32 (x14.2 + 1))))]) X [1, 2, 3, 4, 0] rfl <|
ok_some o ⟨r16.1, (w32_rg _)⟩) ⟨kc_0, kc_1⟩) fun o =>
z_iload X 0 dX12_steps_55 rfl <|
z_iret X Y dX12_steps_57 o h13) fun o =>
z_iconst X dX12_steps_37 <|
z_iret X Y dX12_steps_38 o kc_m1 : At E s0 0 [(0, .ref (G.2.2.1 0)), (1, .int (pI p1)), (2, .int (pI p2)), (3, .int (pI p3))] [])
