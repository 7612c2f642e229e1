def sX8 (σ : St) (n0 o : Nat)  : St := (up (up σ o 4 0) o 5 0)
set_option maxHeartbeats 8000000 in
set_option maxRecDepth 200000 in
theorem ck_X8_init (D : va_G) (cA : Nat → ClassId) (ks : (Nat → Nat) × (Nat → Nat)) (S : List Kd) (as : List Nat) (σ : St) (n0 o a : Nat) (i1 v1 : Nat) (hS0 : S.length = n0) (ho : S[o]? = some (.inr (.inl (8, [1, 1, 1, 1, 0, 0])))) (ha : as[o]? = some a) (h1 : as[i1]? = some v1) : CtK yX8_init cX8_init 2 1 20 3 (1203) S D cA ks as [.ref a, .ref v1] σ (S.set o (.inr (.inl (8, [(i1 + 2), (n0 + 2), (n0 + 3), (n0 + 4), 0, 0]))) ++ [.inl (0, 401), .inl (0, 401), .inl (0, 401)]) 3 (sX8 σ n0 o) := by
  have hS := hS0
  have ho0 : o < S.length := (List.getElem?_eq_some_iff.mp ho).1
  refine CtK.of n0 (by decide +kernel) rfl (Nat.le_of_ble_eq_true rfl) hS ho rfl fun E X Y => ?_
  refine k_aload_n X 0 dX8_init_0 rfl ?_
  refine k_obj X dX8_init_1 q_459 q_186 q_187 (by decide) (by decide) ?_
  refine k_aload_n X 0 dX8_init_4 rfl ?_
  refine k_sipush X dX8_init_5 si_401 ?_
  refine k_nai X n0 rfl (len := 401) dX8_init_8 q_310 kc_401 rfl (by decide) (by omega) (by omega) fun q1 g2 => ?_
  refine k_putRF2 (ty := (.array .int)) (q := n0) (fs1 := [1, (n0 + 2), 1, 1, 0, 0]) X ⟨rfl, rfl⟩ g2 dX8_init_10 fl_X8_9 ftf_X8_1 rfl ha rfl ?_
  refine k_aload_n X 0 dX8_init_13 rfl ?_
  refine k_sipush X dX8_init_14 si_401 ?_
  refine k_nai X (n0 + 1) rfl (len := 401) dX8_init_17 q_310 kc_401 rfl (by decide) (by omega) (by omega) fun q3 g4 => ?_
  refine k_putRF2 (ty := (.array .int)) (q := (n0 + 1)) (fs1 := [1, (n0 + 2), (n0 + 3), 1, 0, 0]) X ⟨rfl, rfl⟩ g4 dX8_init_19 fl_X8_15 ftf_X8_2 rfl ha rfl ?_
  refine k_aload_n X 0 dX8_init_22 rfl ?_
  refine k_sipush X dX8_init_23 si_401 ?_
  refine k_nai X (n0 + 2) rfl (len := 401) dX8_init_26 q_310 kc_401 rfl (by decide) (by omega) (by omega) fun q5 g6 => ?_
  refine k_putRF2 (ty := (.array .int)) (q := (n0 + 2)) (fs1 := [1, (n0 + 2), (n0 + 3), (n0 + 4), 0, 0]) X ⟨rfl, rfl⟩ g6 dX8_init_28 fl_X8_18 ftf_X8_3 rfl ha rfl ?_
  refine k_aload_n X 0 dX8_init_31 rfl ?_
  refine k_iconst X dX8_init_32 ?_
  refine k_putI X kc_0 dX8_init_33 fl_X8_21 ft_X8_4 rfl ha ?_
  refine k_aload_n X 0 dX8_init_36 rfl ?_
  refine k_iconst X dX8_init_37 ?_
  refine k_putI X kc_0 dX8_init_38 fl_X8_25 ft_X8_5 rfl ha ?_
  refine k_aload_n X 0 dX8_init_41 rfl ?_
  refine k_aload_n X 1 dX8_init_42 rfl ?_
  refine k_putRF2 (ty := (.object "PorchHours$Tape")) (q := i1) (fs1 := [(i1 + 2), (n0 + 2), (n0 + 3), (n0 + 4), 0, 0]) X ⟨rfl, rfl⟩ (as_0 h1) dX8_init_43 fl_X8_28 ftf_X8_0 rfl ha rfl ?_
  exact k_vret X Y dX8_init_46 rfl (by constructor <;> omega)
def sX5 (σ : St) (n0 o : Nat)  : St := (sX8 (up (up (up (up (sX6 (sX6 σ (n0 + 1) n0 4) (n0 + 3) (n0 + 2) 1) o 5 0) o 6 0) o 7 0) o 8 (-1)) (n0 + 6) (n0 + 5))
set_option maxHeartbeats 8000000 in
set_option maxRecDepth 200000 in
theorem ck_X5_init (D : va_G) (cA : Nat → ClassId) (ks : (Nat → Nat) × (Nat → Nat)) (S : List Kd) (as : List Nat) (σ : St) (n0 o a : Nat) (i1 v1 : Nat) (i2 v2 : Nat) (hS0 : S.length = n0) (ho : S[o]? = some (.inr (.inl (5, [1, 1, 1, 1, 1, 0, 0, 0, 0])))) (ha : as[o]? = some a) (h1 : as[i1]? = some v1) (h2 : as[i2]? = some v2) : CtK yX5_init cX5_init 3 2 42 9 (1707) S D cA ks as [.ref a, .ref v1, .ref v2] σ (S.set o (.inr (.inl (5, [(n0 + 7), (i2 + 2), (n0 + 2), (n0 + 4), (n0 + 6), 0, 0, 0, 0]))) ++ [.inr (.inl (6, [0, (n0 + 3), 0])), .inl (0, 64), .inr (.inl (6, [0, (n0 + 5), 0])), .inl (0, 400), .inl (0, 28), .inr (.inl (8, [(i1 + 2), (n0 + 8), (n0 + 9), (n0 + 10), 0, 0])), .inl (0, 401), .inl (0, 401), .inl (0, 401)]) 9 (sX5 σ n0 o) := by
  have hS := hS0
  have ho0 : o < S.length := (List.getElem?_eq_some_iff.mp ho).1
  refine CtK.of n0 (by decide +kernel) rfl (Nat.le_of_ble_eq_true rfl) hS ho rfl fun E X Y => ?_
  refine k_aload_n X 0 dX5_init_0 rfl ?_
  refine k_obj X dX5_init_1 q_451 q_186 q_187 (by decide) (by decide) ?_
  refine k_aload_n X 0 dX5_init_4 rfl ?_
  refine k_new (ci := 6) X n0 rfl dX5_init_5 rfl uwX6 tyX6_ok q_452 q_318 q_163 (nf_X6) rfl (by omega) (by omega) fun q1 g2 => ?_
  refine k_dup X dX5_init_8 rfl ?_
  refine k_iconst X dX5_init_9 ?_
  refine k_bipush X dX5_init_10 bi_16 ?_
  refine k_ctor (T1 := [.inr (.inl (6, [0, (n0 + 3), 0])), .inl (0, 64)]) X dX5_init_12 q_453 wiX6_init rfl (by decide) [.int (pI 4), .int (pI 16)] [.ref q1, .ref a] rfl rfl (Nat.le_of_ble_eq_true rfl) (fun D cA ks => ck_X6_init D cA ks (S.set o (.inr (.inl (5, [1, 1, 1, 1, 1, 0, 0, 0, 0]))) ++ [.inr (.inl (6, [0, 1, 0]))]) _ _ (n0 + 1) n0 q1  4 16 64 (len_m hS rfl) (at_m 0 hS rfl rfl) g2 kc_4 kc_16 (by decide) (by decide) ) (set_m 0 hS rfl rfl) rfl (by omega) (by omega) fun mm3 hm4 => ?_
  refine k_putRF2 (ty := (.object "PorchHours$Row")) (q := n0) (fs1 := [1, 1, (n0 + 2), 1, 1, 0, 0, 0, 0]) X ⟨rfl, rfl⟩ (as_l g2) dX5_init_15 fl_X5_14 ftf_X5_2 rfl ha rfl ?_
  refine k_aload_n X 0 dX5_init_18 rfl ?_
  refine k_new (ci := 6) X (n0 + 2) rfl dX5_init_19 rfl uwX6 tyX6_ok q_452 q_318 q_163 (nf_X6) rfl (by omega) (by omega) fun q5 g6 => ?_
  refine k_dup X dX5_init_22 rfl ?_
  refine k_iconst X dX5_init_23 ?_
  refine k_sipush X dX5_init_24 si_400 ?_
  refine k_ctor (T1 := [.inr (.inl (6, [0, (n0 + 3), 0])), .inl (0, 64), .inr (.inl (6, [0, (n0 + 5), 0])), .inl (0, 400)]) X dX5_init_27 q_453 wiX6_init rfl (by decide) [.int (pI 1), .int (pI 400)] [.ref q5, .ref a] rfl rfl (Nat.le_of_ble_eq_true rfl) (fun D cA ks => ck_X6_init D cA ks (S.set o (.inr (.inl (5, [1, 1, (n0 + 2), 1, 1, 0, 0, 0, 0]))) ++ [.inr (.inl (6, [0, (n0 + 3), 0])), .inl (0, 64), .inr (.inl (6, [0, 1, 0]))]) _ _ (n0 + 3) (n0 + 2) q5  1 400 400 (len_m hS rfl) (at_m 2 hS rfl rfl) g6 kc_1 kc_400 (by decide) (by decide) ) (set_m 2 hS rfl rfl) rfl (by omega) (by omega) fun mm7 hm8 => ?_
  refine k_putRF2 (ty := (.object "PorchHours$Row")) (q := (n0 + 2)) (fs1 := [1, 1, (n0 + 2), (n0 + 4), 1, 0, 0, 0, 0]) X ⟨rfl, rfl⟩ (as_l g6) dX5_init_30 fl_X5_20 ftf_X5_3 rfl ha rfl ?_
  refine k_aload_n X 0 dX5_init_33 rfl ?_
  refine k_bipush X dX5_init_34 bi_28 ?_
  refine k_nai X (n0 + 4) rfl (len := 28) dX5_init_36 q_310 kc_28 rfl (by decide) (by omega) (by omega) fun q9 g10 => ?_
  refine k_putRF2 (ty := (.array .int)) (q := (n0 + 4)) (fs1 := [1, 1, (n0 + 2), (n0 + 4), (n0 + 6), 0, 0, 0, 0]) X ⟨rfl, rfl⟩ g10 dX5_init_38 fl_X5_23 ftf_X5_4 rfl ha rfl ?_
  refine k_aload_n X 0 dX5_init_41 rfl ?_
  refine k_iconst X dX5_init_42 ?_
  refine k_putI X kc_0 dX5_init_43 fl_X5_27 ft_X5_5 rfl ha ?_
  refine k_aload_n X 0 dX5_init_46 rfl ?_
  refine k_iconst X dX5_init_47 ?_
  refine k_putI X kc_0 dX5_init_48 fl_X5_31 ft_X5_6 rfl ha ?_
  refine k_aload_n X 0 dX5_init_51 rfl ?_
  refine k_iconst X dX5_init_52 ?_
  refine k_putI X kc_0 dX5_init_53 fl_X5_34 ft_X5_7 rfl ha ?_
  refine k_aload_n X 0 dX5_init_56 rfl ?_
  refine k_iconst X dX5_init_57 ?_
  refine k_putI X kc_m1 dX5_init_58 fl_X5_37 ft_X5_8 rfl ha ?_
  refine k_aload_n X 0 dX5_init_61 rfl ?_
  refine k_new (ci := 8) X (n0 + 5) rfl dX5_init_62 rfl uwX8 tyX8_ok q_454 q_455 q_166 (nf_X8) rfl (by omega) (by omega) fun q11 g12 => ?_
  refine k_dup X dX5_init_65 rfl ?_
  refine k_aload_n X 1 dX5_init_66 rfl ?_
  refine k_ctor (T1 := [.inr (.inl (6, [0, (n0 + 3), 0])), .inl (0, 64), .inr (.inl (6, [0, (n0 + 5), 0])), .inl (0, 400), .inl (0, 28), .inr (.inl (8, [(i1 + 2), (n0 + 8), (n0 + 9), (n0 + 10), 0, 0])), .inl (0, 401), .inl (0, 401), .inl (0, 401)]) X dX5_init_67 q_456 wiX8_init rfl (by decide) [.ref v1] [.ref q11, .ref a] rfl rfl (Nat.le_of_ble_eq_true rfl) (fun D cA ks => ck_X8_init D cA ks (S.set o (.inr (.inl (5, [1, 1, (n0 + 2), (n0 + 4), (n0 + 6), 0, 0, 0, 0]))) ++ [.inr (.inl (6, [0, (n0 + 3), 0])), .inl (0, 64), .inr (.inl (6, [0, (n0 + 5), 0])), .inl (0, 400), .inl (0, 28), .inr (.inl (8, [1, 1, 1, 1, 0, 0]))]) _ _ (n0 + 6) (n0 + 5) q11  i1 v1 (len_m hS rfl) (at_m 5 hS rfl rfl) g12 (as_0 h1) ) (set_m 5 hS rfl rfl) rfl (by omega) (by omega) fun mm13 hm14 => ?_
  refine k_putRF2 (ty := (.object "PorchHours$Tokens")) (q := (n0 + 5)) (fs1 := [(n0 + 7), 1, (n0 + 2), (n0 + 4), (n0 + 6), 0, 0, 0, 0]) X ⟨rfl, rfl⟩ (as_l g12) dX5_init_70 fl_X5_45 ftf_X5_0 rfl ha rfl ?_
  refine k_aload_n X 0 dX5_init_73 rfl ?_
  refine k_aload_n X 2 dX5_init_74 rfl ?_
  refine k_putRF2 (ty := (.object "PorchHours$Houses")) (q := i2) (fs1 := [(n0 + 7), (i2 + 2), (n0 + 2), (n0 + 4), (n0 + 6), 0, 0, 0, 0]) X ⟨rfl, rfl⟩ (as_0 h2) dX5_init_75 fl_X5_49 ftf_X5_1 rfl ha rfl ?_
  exact k_vret X Y dX5_init_78 rfl (by constructor <;> omega)
def sX3 (σ : St) (n0 o : Nat)  : St := σ
set_option maxHeartbeats 8000000 in
set_option maxRecDepth 200000 in
theorem ck_X3_init (D : va_G) (cA : Nat → ClassId) (ks : (Nat → Nat) × (Nat → Nat)) (S : List Kd) (as : List Nat) (σ : St) (n0 o a : Nat) (i1 v1 : Nat) (i2 v2 : Nat) (hS0 : S.length = n0) (ho : S[o]? = some (.inr (.inl (3, [1, 1, 1, 1, 1])))) (ha : as[o]? = some a) (h1 : as[i1]? = some v1) (h2 : as[i2]? = some v2) (hT : S[i2]? = some (.inr (.inl (9, [(i2 + 3), (i2 + 5), (i2 + 7), (i2 + 9), (i2 + 11), (i2 + 13), (i2 + 15), (i2 + 17), (i2 + 19), (i2 + 21), (i2 + 23), (i2 + 25), (i2 + 27), (i2 + 29), (i2 + 31), (i2 + 33)])))) (hTo : i2 ≠ o) : CtK yX3_init cX3_init 3 1 20 2 (50) S D cA ks as [.ref a, .ref v1, .ref v2] σ (S.set o (.inr (.inl (3, [(i1 + 2), (i2 + 3), (i2 + 5), (n0 + 2), (n0 + 3)]))) ++ [.inl (0, 10), .inl (0, 40)]) 2 (sX3 σ n0 o) := by
  have hS := hS0
  have ho0 : o < S.length := (List.getElem?_eq_some_iff.mp ho).1
  refine CtK.of n0 (by decide +kernel) rfl (Nat.le_of_ble_eq_true rfl) hS ho rfl fun E X Y => ?_
  refine k_aload_n X 0 dX3_init_0 rfl ?_
  refine k_obj X dX3_init_1 q_512 q_186 q_187 (by decide) (by decide) ?_
  refine k_aload_n X 0 dX3_init_4 rfl ?_
  refine k_bipush X dX3_init_5 bi_10 ?_
  refine k_nai X n0 rfl (len := 10) dX3_init_7 q_310 kc_10 rfl (by decide) (by omega) (by omega) fun q1 g2 => ?_
  refine k_putRF2 (ty := (.array .int)) (q := n0) (fs1 := [1, 1, 1, (n0 + 2), 1]) X ⟨rfl, rfl⟩ g2 dX3_init_9 fl_X3_9 ftf_X3_3 rfl ha rfl ?_
  refine k_aload_n X 0 dX3_init_12 rfl ?_
  refine k_bipush X dX3_init_13 bi_40 ?_
  refine k_nai X (n0 + 1) rfl (len := 40) dX3_init_15 q_310 kc_40 rfl (by decide) (by omega) (by omega) fun q3 g4 => ?_
  refine k_putRF2 (ty := (.array .int)) (q := (n0 + 1)) (fs1 := [1, 1, 1, (n0 + 2), (n0 + 3)]) X ⟨rfl, rfl⟩ g4 dX3_init_17 fl_X3_13 ftf_X3_4 rfl ha rfl ?_
  refine k_aload_n X 0 dX3_init_20 rfl ?_
  refine k_aload_n X 1 dX3_init_21 rfl ?_
  refine k_putRF2 (ty := (.object "PorchHours$Houses")) (q := i1) (fs1 := [(i1 + 2), 1, 1, (n0 + 2), (n0 + 3)]) X ⟨rfl, rfl⟩ (as_0 h1) dX3_init_22 fl_X3_16 ftf_X3_0 rfl ha rfl ?_
  refine k_aload_n X 0 dX3_init_25 rfl ?_
  refine k_aload_n X 2 dX3_init_26 rfl ?_
  refine k_getRN (ix := i2) (q := (i2 + 1)) X dX3_init_27 fn_X3_20 (at_old hTo hT) (as_0 h2) rfl fun q5 g6 => ?_
  refine k_putRF2 (ty := (.object "PorchHours$Row")) (q := (i2 + 1)) (fs1 := [(i1 + 2), (i2 + 3), 1, (n0 + 2), (n0 + 3)]) X ⟨rfl, rfl⟩ g6 dX3_init_30 fl_X3_26 ftf_X3_1 rfl ha rfl ?_
  refine k_aload_n X 0 dX3_init_33 rfl ?_
  refine k_aload_n X 2 dX3_init_34 rfl ?_
  refine k_getRN (ix := i2) (q := (i2 + 3)) X dX3_init_35 fn_X3_29 (at_old hTo hT) (as_0 h2) rfl fun q7 g8 => ?_
  refine k_putRF2 (ty := (.object "PorchHours$Row")) (q := (i2 + 3)) (fs1 := [(i1 + 2), (i2 + 3), (i2 + 5), (n0 + 2), (n0 + 3)]) X ⟨rfl, rfl⟩ g8 dX3_init_38 fl_X3_32 ftf_X3_2 rfl ha rfl ?_
  exact k_vret X Y dX3_init_41 rfl (by constructor <;> omega)
def sX1 (σ : St) (n0 o : Nat)  : St := (up σ o 4 0)
set_option maxHeartbeats 8000000 in
set_option maxRecDepth 200000 in
theorem ck_X1_init (D : va_G) (cA : Nat → ClassId) (ks : (Nat → Nat) × (Nat → Nat)) (S : List Kd) (as : List Nat) (σ : St) (n0 o a : Nat) (i1 v1 : Nat) (i2 v2 : Nat) (i3 v3 : Nat) (i4 v4 : Nat) (hS0 : S.length = n0) (ho : S[o]? = some (.inr (.inl (1, [1, 1, 1, 1, 0])))) (ha : as[o]? = some a) (h1 : as[i1]? = some v1) (h2 : as[i2]? = some v2) (h3 : as[i3]? = some v3) (h4 : as[i4]? = some v4) : CtK yX1_init cX1_init 5 1 20 0 (0) S D cA ks as [.ref a, .ref v1, .ref v2, .ref v3, .ref v4] σ (S.set o (.inr (.inl (1, [(i1 + 2), (i2 + 2), (i3 + 2), (i4 + 2), 0]))) ++ []) 0 (sX1 σ n0 o) := by
  have hS := hS0
  have ho0 : o < S.length := (List.getElem?_eq_some_iff.mp ho).1
  refine CtK.of n0 (by decide +kernel) rfl (Nat.le_of_ble_eq_true rfl) hS ho rfl fun E X Y => ?_
  refine k_aload_n X 0 dX1_init_0 rfl ?_
  refine k_obj X dX1_init_1 q_534 q_186 q_187 (by decide) (by decide) ?_
  refine k_aload_n X 0 dX1_init_4 rfl ?_
  refine k_iconst X dX1_init_5 ?_
  refine k_putZ X kb_0 dX1_init_6 fl_X1_9 ft_X1_4 rfl ha ?_
  refine k_aload_n X 0 dX1_init_9 rfl ?_
  refine k_aload_n X 1 dX1_init_10 rfl ?_
  refine k_putRF2 (ty := (.object "PorchHours$Houses")) (q := i1) (fs1 := [(i1 + 2), 1, 1, 1, 0]) X ⟨rfl, rfl⟩ (as_0 h1) dX1_init_11 fl_X1_15 ftf_X1_0 rfl ha rfl ?_
  refine k_aload_n X 0 dX1_init_14 rfl ?_
  refine k_aload_n X 2 dX1_init_15 rfl ?_
  refine k_putRF2 (ty := (.object "PorchHours$Told")) (q := i2) (fs1 := [(i1 + 2), (i2 + 2), 1, 1, 0]) X ⟨rfl, rfl⟩ (as_0 h2) dX1_init_16 fl_X1_19 ftf_X1_1 rfl ha rfl ?_
  refine k_aload_n X 0 dX1_init_19 rfl ?_
  refine k_aload_n X 3 dX1_init_20 rfl ?_
  refine k_putRF2 (ty := (.object "PorchHours$Law")) (q := i3) (fs1 := [(i1 + 2), (i2 + 2), (i3 + 2), 1, 0]) X ⟨rfl, rfl⟩ (as_0 h3) dX1_init_21 fl_X1_23 ftf_X1_2 rfl ha rfl ?_
  refine k_aload_n X 0 dX1_init_24 rfl ?_
  refine k_aload X 4 dX1_init_25 rfl ?_
  refine k_putRF2 (ty := (.object "PorchHours$Row")) (q := i4) (fs1 := [(i1 + 2), (i2 + 2), (i3 + 2), (i4 + 2), 0]) X ⟨rfl, rfl⟩ (as_0 h4) dX1_init_27 fl_X1_27 ftf_X1_3 rfl ha rfl ?_
  exact k_vret X Y dX1_init_30 rfl (by constructor <;> omega)
def sX0 (σ : St) (n0 o : Nat)  : St := σ
set_option maxHeartbeats 8000000 in
set_option maxRecDepth 200000 in
theorem ck_X0_init (D : va_G) (cA : Nat → ClassId) (ks : (Nat → Nat) × (Nat → Nat)) (S : List Kd) (as : List Nat) (σ : St) (n0 o a : Nat) (i1 v1 : Nat) (hS0 : S.length = n0) (ho : S[o]? = some (.inr (.inl (0, [1, 1, 1, 1])))) (ha : as[o]? = some a) (h1 : as[i1]? = some v1) : CtK yX0_init cX0_init 2 1 20 3 (15) S D cA ks as [.ref a, .ref v1] σ (S.set o (.inr (.inl (0, [(i1 + 2), (n0 + 2), (n0 + 3), (n0 + 4)]))) ++ [.inl (0, 5), .inl (0, 5), .inl (0, 5)]) 3 (sX0 σ n0 o) := by
  have hS := hS0
  have ho0 : o < S.length := (List.getElem?_eq_some_iff.mp ho).1
  refine CtK.of n0 (by decide +kernel) rfl (Nat.le_of_ble_eq_true rfl) hS ho rfl fun E X Y => ?_
  refine k_aload_n X 0 dX0_init_0 rfl ?_
  refine k_obj X dX0_init_1 q_556 q_186 q_187 (by decide) (by decide) ?_
  refine k_aload_n X 0 dX0_init_4 rfl ?_
  refine k_iconst X dX0_init_5 ?_
  refine k_nai X n0 rfl (len := 5) dX0_init_6 q_310 kc_5 rfl (by decide) (by omega) (by omega) fun q1 g2 => ?_
  refine k_putRF2 (ty := (.array .int)) (q := n0) (fs1 := [1, (n0 + 2), 1, 1]) X ⟨rfl, rfl⟩ g2 dX0_init_8 fl_X0_11 ftf_X0_1 rfl ha rfl ?_
  refine k_aload_n X 0 dX0_init_11 rfl ?_
  refine k_iconst X dX0_init_12 ?_
  refine k_nai X (n0 + 1) rfl (len := 5) dX0_init_13 q_310 kc_5 rfl (by decide) (by omega) (by omega) fun q3 g4 => ?_
  refine k_putRF2 (ty := (.array .int)) (q := (n0 + 1)) (fs1 := [1, (n0 + 2), (n0 + 3), 1]) X ⟨rfl, rfl⟩ g4 dX0_init_15 fl_X0_15 ftf_X0_2 rfl ha rfl ?_
  refine k_aload_n X 0 dX0_init_18 rfl ?_
  refine k_iconst X dX0_init_19 ?_
  refine k_nai X (n0 + 2) rfl (len := 5) dX0_init_20 q_310 kc_5 rfl (by decide) (by omega) (by omega) fun q5 g6 => ?_
  refine k_putRF2 (ty := (.array .int)) (q := (n0 + 2)) (fs1 := [1, (n0 + 2), (n0 + 3), (n0 + 4)]) X ⟨rfl, rfl⟩ g6 dX0_init_22 fl_X0_18 ftf_X0_3 rfl ha rfl ?_
  refine k_aload_n X 0 dX0_init_25 rfl ?_
  refine k_aload_n X 1 dX0_init_26 rfl ?_
  refine k_putRF2 (ty := (.object "PorchHours$Row")) (q := i1) (fs1 := [(i1 + 2), (n0 + 2), (n0 + 3), (n0 + 4)]) X ⟨rfl, rfl⟩ (as_0 h1) dX0_init_27 fl_X0_21 ftf_X0_0 rfl ha rfl ?_
  exact k_vret X Y dX0_init_30 rfl (by constructor <;> omega)
def sX4 (σ : St) (n0 o : Nat)  : St := (up σ o 14 0)
set_option maxHeartbeats 8000000 in
set_option maxRecDepth 200000 in
theorem ck_X4_init (D : va_G) (cA : Nat → ClassId) (ks : (Nat → Nat) × (Nat → Nat)) (S : List Kd) (as : List Nat) (σ : St) (n0 o a : Nat) (i1 v1 : Nat) (hS0 : S.length = n0) (ho : S[o]? = some (.inr (.inl (4, [1, 1, 1, 1, 1, 1, 1, 1, 1, 1, 1, 1, 1, 1, 0])))) (ha : as[o]? = some a) (h1 : as[i1]? = some v1) : CtK yX4_init cX4_init 2 1 20 13 (2996) S D cA ks as [.ref a, .ref v1] σ (S.set o (.inr (.inl (4, [(i1 + 2), (n0 + 2), (n0 + 3), (n0 + 4), (n0 + 5), (n0 + 6), (n0 + 7), (n0 + 8), (n0 + 9), (n0 + 10), (n0 + 11), (n0 + 12), (n0 + 13), (n0 + 14), 0]))) ++ [.inl (0, 256), .inl (0, 256), .inl (0, 2048), .inl (0, 12), .inl (0, 8), .inl (2, 41), .inl (2, 13), .inl (0, 169), .inl (0, 169), .inl (0, 3), .inl (0, 3), .inl (0, 9), .inl (0, 9)]) 13 (sX4 σ n0 o) := by
  have hS := hS0
  have ho0 : o < S.length := (List.getElem?_eq_some_iff.mp ho).1
  refine CtK.of n0 (by decide +kernel) rfl (Nat.le_of_ble_eq_true rfl) hS ho rfl fun E X Y => ?_
  refine k_aload_n X 0 dX4_init_0 rfl ?_
  refine k_obj X dX4_init_1 q_575 q_186 q_187 (by decide) (by decide) ?_
  refine k_aload_n X 0 dX4_init_4 rfl ?_
  refine k_sipush X dX4_init_5 si_256 ?_
  refine k_nai X n0 rfl (len := 256) dX4_init_8 q_310 kc_256 rfl (by decide) (by omega) (by omega) fun q1 g2 => ?_
  refine k_putRF2 (ty := (.array .int)) (q := n0) (fs1 := [1, (n0 + 2), 1, 1, 1, 1, 1, 1, 1, 1, 1, 1, 1, 1, 0]) X ⟨rfl, rfl⟩ g2 dX4_init_10 fl_X4_11 ftf_X4_1 rfl ha rfl ?_
  refine k_aload_n X 0 dX4_init_13 rfl ?_
  refine k_sipush X dX4_init_14 si_256 ?_
  refine k_nai X (n0 + 1) rfl (len := 256) dX4_init_17 q_310 kc_256 rfl (by decide) (by omega) (by omega) fun q3 g4 => ?_
  refine k_putRF2 (ty := (.array .int)) (q := (n0 + 1)) (fs1 := [1, (n0 + 2), (n0 + 3), 1, 1, 1, 1, 1, 1, 1, 1, 1, 1, 1, 0]) X ⟨rfl, rfl⟩ g4 dX4_init_19 fl_X4_15 ftf_X4_2 rfl ha rfl ?_
  refine k_aload_n X 0 dX4_init_22 rfl ?_
  refine k_sipush X dX4_init_23 si_2048 ?_
  refine k_nai X (n0 + 2) rfl (len := 2048) dX4_init_26 q_310 kc_2048 rfl (by decide) (by omega) (by omega) fun q5 g6 => ?_
  refine k_putRF2 (ty := (.array .int)) (q := (n0 + 2)) (fs1 := [1, (n0 + 2), (n0 + 3), (n0 + 4), 1, 1, 1, 1, 1, 1, 1, 1, 1, 1, 0]) X ⟨rfl, rfl⟩ g6 dX4_init_28 fl_X4_18 ftf_X4_3 rfl ha rfl ?_
  refine k_aload_n X 0 dX4_init_31 rfl ?_
  refine k_bipush X dX4_init_32 bi_12 ?_
  refine k_nai X (n0 + 3) rfl (len := 12) dX4_init_34 q_310 kc_12 rfl (by decide) (by omega) (by omega) fun q7 g8 => ?_
  refine k_putRF2 (ty := (.array .int)) (q := (n0 + 3)) (fs1 := [1, (n0 + 2), (n0 + 3), (n0 + 4), (n0 + 5), 1, 1, 1, 1, 1, 1, 1, 1, 1, 0]) X ⟨rfl, rfl⟩ g8 dX4_init_36 fl_X4_21 ftf_X4_4 rfl ha rfl ?_
  refine k_aload_n X 0 dX4_init_39 rfl ?_
  refine k_bipush X dX4_init_40 bi_8 ?_
  refine k_nai X (n0 + 4) rfl (len := 8) dX4_init_42 q_310 kc_8 rfl (by decide) (by omega) (by omega) fun q9 g10 => ?_
  refine k_putRF2 (ty := (.array .int)) (q := (n0 + 4)) (fs1 := [1, (n0 + 2), (n0 + 3), (n0 + 4), (n0 + 5), (n0 + 6), 1, 1, 1, 1, 1, 1, 1, 1, 0]) X ⟨rfl, rfl⟩ g10 dX4_init_44 fl_X4_24 ftf_X4_5 rfl ha rfl ?_
  refine k_aload_n X 0 dX4_init_47 rfl ?_
  refine k_bipush X dX4_init_48 bi_41 ?_
  refine k_nal X (n0 + 5) rfl (len := 41) dX4_init_50 q_622 kc_41 rfl (by decide) (by omega) (by omega) fun q11 g12 => ?_
  refine k_putRF2 (ty := (.array .long)) (q := (n0 + 5)) (fs1 := [1, (n0 + 2), (n0 + 3), (n0 + 4), (n0 + 5), (n0 + 6), (n0 + 7), 1, 1, 1, 1, 1, 1, 1, 0]) X ⟨rfl, rfl⟩ g12 dX4_init_52 fl_X4_27 ftf_X4_6 rfl ha rfl ?_
  refine k_aload_n X 0 dX4_init_55 rfl ?_
  refine k_bipush X dX4_init_56 bi_13 ?_
  refine k_nal X (n0 + 6) rfl (len := 13) dX4_init_58 q_622 kc_13 rfl (by decide) (by omega) (by omega) fun q13 g14 => ?_
  refine k_putRF2 (ty := (.array .long)) (q := (n0 + 6)) (fs1 := [1, (n0 + 2), (n0 + 3), (n0 + 4), (n0 + 5), (n0 + 6), (n0 + 7), (n0 + 8), 1, 1, 1, 1, 1, 1, 0]) X ⟨rfl, rfl⟩ g14 dX4_init_60 fl_X4_31 ftf_X4_7 rfl ha rfl ?_
  refine k_aload_n X 0 dX4_init_63 rfl ?_
  refine k_sipush X dX4_init_64 si_169 ?_
  refine k_nai X (n0 + 7) rfl (len := 169) dX4_init_67 q_310 kc_169 rfl (by decide) (by omega) (by omega) fun q15 g16 => ?_
  refine k_putRF2 (ty := (.array .int)) (q := (n0 + 7)) (fs1 := [1, (n0 + 2), (n0 + 3), (n0 + 4), (n0 + 5), (n0 + 6), (n0 + 7), (n0 + 8), (n0 + 9), 1, 1, 1, 1, 1, 0]) X ⟨rfl, rfl⟩ g16 dX4_init_69 fl_X4_34 ftf_X4_8 rfl ha rfl ?_
  refine k_aload_n X 0 dX4_init_72 rfl ?_
  refine k_sipush X dX4_init_73 si_169 ?_
  refine k_nai X (n0 + 8) rfl (len := 169) dX4_init_76 q_310 kc_169 rfl (by decide) (by omega) (by omega) fun q17 g18 => ?_
  refine k_putRF2 (ty := (.array .int)) (q := (n0 + 8)) (fs1 := [1, (n0 + 2), (n0 + 3), (n0 + 4), (n0 + 5), (n0 + 6), (n0 + 7), (n0 + 8), (n0 + 9), (n0 + 10), 1, 1, 1, 1, 0]) X ⟨rfl, rfl⟩ g18 dX4_init_78 fl_X4_37 ftf_X4_9 rfl ha rfl ?_
  refine k_aload_n X 0 dX4_init_81 rfl ?_
  refine k_iconst X dX4_init_82 ?_
  refine k_nai X (n0 + 9) rfl (len := 3) dX4_init_83 q_310 kc_3 rfl (by decide) (by omega) (by omega) fun q19 g20 => ?_
  refine k_putRF2 (ty := (.array .int)) (q := (n0 + 9)) (fs1 := [1, (n0 + 2), (n0 + 3), (n0 + 4), (n0 + 5), (n0 + 6), (n0 + 7), (n0 + 8), (n0 + 9), (n0 + 10), (n0 + 11), 1, 1, 1, 0]) X ⟨rfl, rfl⟩ g20 dX4_init_85 fl_X4_40 ftf_X4_10 rfl ha rfl ?_
  refine k_aload_n X 0 dX4_init_88 rfl ?_
  refine k_iconst X dX4_init_89 ?_
  refine k_nai X (n0 + 10) rfl (len := 3) dX4_init_90 q_310 kc_3 rfl (by decide) (by omega) (by omega) fun q21 g22 => ?_
  refine k_putRF2 (ty := (.array .int)) (q := (n0 + 10)) (fs1 := [1, (n0 + 2), (n0 + 3), (n0 + 4), (n0 + 5), (n0 + 6), (n0 + 7), (n0 + 8), (n0 + 9), (n0 + 10), (n0 + 11), (n0 + 12), 1, 1, 0]) X ⟨rfl, rfl⟩ g22 dX4_init_92 fl_X4_43 ftf_X4_11 rfl ha rfl ?_
  refine k_aload_n X 0 dX4_init_95 rfl ?_
  refine k_bipush X dX4_init_96 bi_9 ?_
  refine k_nai X (n0 + 11) rfl (len := 9) dX4_init_98 q_310 kc_9 rfl (by decide) (by omega) (by omega) fun q23 g24 => ?_
  refine k_putRF2 (ty := (.array .int)) (q := (n0 + 11)) (fs1 := [1, (n0 + 2), (n0 + 3), (n0 + 4), (n0 + 5), (n0 + 6), (n0 + 7), (n0 + 8), (n0 + 9), (n0 + 10), (n0 + 11), (n0 + 12), (n0 + 13), 1, 0]) X ⟨rfl, rfl⟩ g24 dX4_init_100 fl_X4_46 ftf_X4_12 rfl ha rfl ?_
  refine k_aload_n X 0 dX4_init_103 rfl ?_
  refine k_bipush X dX4_init_104 bi_9 ?_
  refine k_nai X (n0 + 12) rfl (len := 9) dX4_init_106 q_310 kc_9 rfl (by decide) (by omega) (by omega) fun q25 g26 => ?_
  refine k_putRF2 (ty := (.array .int)) (q := (n0 + 12)) (fs1 := [1, (n0 + 2), (n0 + 3), (n0 + 4), (n0 + 5), (n0 + 6), (n0 + 7), (n0 + 8), (n0 + 9), (n0 + 10), (n0 + 11), (n0 + 12), (n0 + 13), (n0 + 14), 0]) X ⟨rfl, rfl⟩ g26 dX4_init_108 fl_X4_49 ftf_X4_13 rfl ha rfl ?_
  refine k_aload_n X 0 dX4_init_111 rfl ?_
  refine k_iconst X dX4_init_112 ?_
  refine k_putI X kc_0 dX4_init_113 fl_X4_52 ft_X4_14 rfl ha ?_
  refine k_aload_n X 0 dX4_init_116 rfl ?_
  refine k_aload_n X 1 dX4_init_117 rfl ?_
  refine k_putRF2 (ty := (.object "PorchHours$Told")) (q := i1) (fs1 := [(i1 + 2), (n0 + 2), (n0 + 3), (n0 + 4), (n0 + 5), (n0 + 6), (n0 + 7), (n0 + 8), (n0 + 9), (n0 + 10), (n0 + 11), (n0 + 12), (n0 + 13), (n0 + 14), 0]) X ⟨rfl, rfl⟩ (as_0 h1) dX4_init_118 fl_X4_56 ftf_X4_0 rfl ha rfl ?_
  exact k_vret X Y dX4_init_121 rfl (by constructor <;> omega)
