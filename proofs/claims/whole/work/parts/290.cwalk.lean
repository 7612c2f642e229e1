def sX6 (σ : St) (n0 o : Nat) (p1 : Int) : St := (up (up σ o 0 p1) o 2 0)
set_option maxHeartbeats 8000000 in
set_option maxRecDepth 200000 in
theorem ck_X6_init (D : va_G) (cA : Nat → ClassId) (ks : (Nat → Nat) × (Nat → Nat)) (S : List Kd) (as : List Nat) (σ : St) (n0 o a : Nat) (p1 p2 : Int) (len : Nat) (hS0 : S.length = n0) (ho : S[o]? = some (.inr (.inl (6, [0, 1, 0])))) (ha : as[o]? = some a) (hp1 : rg p1) (hp2 : rg p2) (hlen : w32 (p1 * p2) = (len : Int)) (hln2 : len ≤ 60000) : CtK yX6_init cX6_init 3 1 20 1 (0 + len) S D cA ks as [.ref a, .int (pI p1), .int (pI p2)] σ (S.set o (.inr (.inl (6, [0, (n0 + 2), 0]))) ++ [.inl (0, len)]) 1 (sX6 σ n0 o p1) := by
  have hS := hS0
  have ho0 : o < S.length := (List.getElem?_eq_some_iff.mp ho).1
  exact CtK.of n0 (by decide +kernel) rfl (Nat.le_of_ble_eq_true rfl) hS ho rfl fun E X Y => (
k_aload_n X 0 dX6_init_0 rfl <|
k_obj X dX6_init_1 q_322 q_186 q_187 (by decide) (by decide) <|
k_aload_n X 0 dX6_init_4 rfl <|
k_iload_n X 1 dX6_init_5 rfl <|
k_putIF X hp1 dX6_init_6 fl_X6_9 ftf_X6_0 rfl ha <|
k_aload_n X 0 dX6_init_9 rfl <|
k_iload_n X 1 dX6_init_10 rfl <|
k_iload_n X 2 dX6_init_11 rfl <|
k_imul (r := (len : Int)) X dX6_init_12 hlen <|
k_nai X n0 rfl (len := len) dX6_init_13 q_310 (nrg (by omega)) rfl hln2 (by omega) (by omega) fun q1 g2 =>
k_putRF (ty := (.array .int)) (q := n0) X ⟨rfl, rfl⟩ g2 dX6_init_15 fl_X6_15 ftf_X6_1 rfl ha <|
k_aload_n X 0 dX6_init_18 rfl <|
k_iconst X dX6_init_19 <|
k_putI X kc_0 dX6_init_20 fl_X6_19 ft_X6_2 rfl ha <|
k_vret X Y dX6_init_23 rfl (by constructor <;> omega))
def sX2 (σ : St) (n0 o : Nat)  : St := (up (up (up (up (up (up σ o 0 0) o 1 0) o 2 0) o 3 0) o 4 0) o 5 0)
set_option maxHeartbeats 8000000 in
set_option maxRecDepth 200000 in
theorem ck_X2_init (D : va_G) (cA : Nat → ClassId) (ks : (Nat → Nat) × (Nat → Nat)) (S : List Kd) (as : List Nat) (σ : St) (n0 o a : Nat) (hS0 : S.length = n0) (ho : S[o]? = some (.inr (.inl (2, [0, 0, 0, 0, 0, 0, 1, 1, 1, 1, 1, 1, 1, 1, 1, 1, 1, 1, 1])))) (ha : as[o]? = some a) : CtK yX2_init cX2_init 1 1 20 13 (220) S D cA ks as [.ref a] σ (S.set o (.inr (.inl (2, [0, 0, 0, 0, 0, 0, (n0 + 2), (n0 + 3), (n0 + 4), (n0 + 5), (n0 + 6), (n0 + 7), (n0 + 8), (n0 + 9), (n0 + 10), (n0 + 11), (n0 + 12), (n0 + 13), (n0 + 14)]))) ++ [.inl (0, 12), .inl (0, 12), .inl (0, 12), .inl (0, 12), .inl (0, 12), .inl (0, 20), .inl (0, 20), .inl (0, 20), .inl (0, 20), .inl (0, 20), .inl (0, 20), .inl (0, 20), .inl (0, 20)]) 13 (sX2 σ n0 o) := by
  have hS := hS0
  have ho0 : o < S.length := (List.getElem?_eq_some_iff.mp ho).1
  exact CtK.of n0 (by decide +kernel) rfl (Nat.le_of_ble_eq_true rfl) hS ho rfl fun E X Y => (
k_aload_n X 0 dX2_init_0 rfl <|
k_obj X dX2_init_1 q_207 q_186 q_187 (by decide) (by decide) <|
k_aload_n X 0 dX2_init_4 rfl <|
k_iconst X dX2_init_5 <|
k_putI X kc_0 dX2_init_6 fl_X2_9 ft_X2_0 rfl ha <|
k_aload_n X 0 dX2_init_9 rfl <|
k_iconst X dX2_init_10 <|
k_putI X kc_0 dX2_init_11 fl_X2_15 ft_X2_1 rfl ha <|
k_aload_n X 0 dX2_init_14 rfl <|
k_iconst X dX2_init_15 <|
k_putI X kc_0 dX2_init_16 fl_X2_18 ft_X2_2 rfl ha <|
k_aload_n X 0 dX2_init_19 rfl <|
k_iconst X dX2_init_20 <|
k_putI X kc_0 dX2_init_21 fl_X2_21 ft_X2_3 rfl ha <|
k_aload_n X 0 dX2_init_24 rfl <|
k_iconst X dX2_init_25 <|
k_putI X kc_0 dX2_init_26 fl_X2_24 ft_X2_4 rfl ha <|
k_aload_n X 0 dX2_init_29 rfl <|
k_iconst X dX2_init_30 <|
k_putI X kc_0 dX2_init_31 fl_X2_27 ft_X2_5 rfl ha <|
k_aload_n X 0 dX2_init_34 rfl <|
k_bipush X dX2_init_35 bi_12 <|
k_nai X n0 rfl (len := 12) dX2_init_37 q_310 kc_12 rfl (by decide) (by omega) (by omega) fun q1 g2 =>
k_putRF (ty := (.array .int)) (q := n0) X ⟨rfl, rfl⟩ g2 dX2_init_39 fl_X2_30 ftf_X2_6 rfl ha <|
k_aload_n X 0 dX2_init_42 rfl <|
k_bipush X dX2_init_43 bi_12 <|
k_nai X (n0 + 1) rfl (len := 12) dX2_init_45 q_310 kc_12 rfl (by decide) (by omega) (by omega) fun q3 g4 =>
k_putRF (ty := (.array .int)) (q := (n0 + 1)) X ⟨rfl, rfl⟩ g4 dX2_init_47 fl_X2_34 ftf_X2_7 rfl ha <|
k_aload_n X 0 dX2_init_50 rfl <|
k_bipush X dX2_init_51 bi_12 <|
k_nai X (n0 + 2) rfl (len := 12) dX2_init_53 q_310 kc_12 rfl (by decide) (by omega) (by omega) fun q5 g6 =>
k_putRF (ty := (.array .int)) (q := (n0 + 2)) X ⟨rfl, rfl⟩ g6 dX2_init_55 fl_X2_37 ftf_X2_8 rfl ha <|
k_aload_n X 0 dX2_init_58 rfl <|
k_bipush X dX2_init_59 bi_12 <|
k_nai X (n0 + 3) rfl (len := 12) dX2_init_61 q_310 kc_12 rfl (by decide) (by omega) (by omega) fun q7 g8 =>
k_putRF (ty := (.array .int)) (q := (n0 + 3)) X ⟨rfl, rfl⟩ g8 dX2_init_63 fl_X2_40 ftf_X2_9 rfl ha <|
k_aload_n X 0 dX2_init_66 rfl <|
k_bipush X dX2_init_67 bi_12 <|
k_nai X (n0 + 4) rfl (len := 12) dX2_init_69 q_310 kc_12 rfl (by decide) (by omega) (by omega) fun q9 g10 =>
k_putRF (ty := (.array .int)) (q := (n0 + 4)) X ⟨rfl, rfl⟩ g10 dX2_init_71 fl_X2_43 ftf_X2_10 rfl ha <|
k_aload_n X 0 dX2_init_74 rfl <|
k_bipush X dX2_init_75 bi_20 <|
k_nai X (n0 + 5) rfl (len := 20) dX2_init_77 q_310 kc_20 rfl (by decide) (by omega) (by omega) fun q11 g12 =>
k_putRF (ty := (.array .int)) (q := (n0 + 5)) X ⟨rfl, rfl⟩ g12 dX2_init_79 fl_X2_46 ftf_X2_11 rfl ha <|
k_aload_n X 0 dX2_init_82 rfl <|
k_bipush X dX2_init_83 bi_20 <|
k_nai X (n0 + 6) rfl (len := 20) dX2_init_85 q_310 kc_20 rfl (by decide) (by omega) (by omega) fun q13 g14 =>
k_putRF (ty := (.array .int)) (q := (n0 + 6)) X ⟨rfl, rfl⟩ g14 dX2_init_87 fl_X2_49 ftf_X2_12 rfl ha <|
k_aload_n X 0 dX2_init_90 rfl <|
k_bipush X dX2_init_91 bi_20 <|
k_nai X (n0 + 7) rfl (len := 20) dX2_init_93 q_310 kc_20 rfl (by decide) (by omega) (by omega) fun q15 g16 =>
k_putRF (ty := (.array .int)) (q := (n0 + 7)) X ⟨rfl, rfl⟩ g16 dX2_init_95 fl_X2_52 ftf_X2_13 rfl ha <|
k_aload_n X 0 dX2_init_98 rfl <|
k_bipush X dX2_init_99 bi_20 <|
k_nai X (n0 + 8) rfl (len := 20) dX2_init_101 q_310 kc_20 rfl (by decide) (by omega) (by omega) fun q17 g18 =>
k_putRF (ty := (.array .int)) (q := (n0 + 8)) X ⟨rfl, rfl⟩ g18 dX2_init_103 fl_X2_55 ftf_X2_14 rfl ha <|
k_aload_n X 0 dX2_init_106 rfl <|
k_bipush X dX2_init_107 bi_20 <|
k_nai X (n0 + 9) rfl (len := 20) dX2_init_109 q_310 kc_20 rfl (by decide) (by omega) (by omega) fun q19 g20 =>
k_putRF (ty := (.array .int)) (q := (n0 + 9)) X ⟨rfl, rfl⟩ g20 dX2_init_111 fl_X2_58 ftf_X2_15 rfl ha <|
k_aload_n X 0 dX2_init_114 rfl <|
k_bipush X dX2_init_115 bi_20 <|
k_nai X (n0 + 10) rfl (len := 20) dX2_init_117 q_310 kc_20 rfl (by decide) (by omega) (by omega) fun q21 g22 =>
k_putRF (ty := (.array .int)) (q := (n0 + 10)) X ⟨rfl, rfl⟩ g22 dX2_init_119 fl_X2_61 ftf_X2_16 rfl ha <|
k_aload_n X 0 dX2_init_122 rfl <|
k_bipush X dX2_init_123 bi_20 <|
k_nai X (n0 + 11) rfl (len := 20) dX2_init_125 q_310 kc_20 rfl (by decide) (by omega) (by omega) fun q23 g24 =>
k_putRF (ty := (.array .int)) (q := (n0 + 11)) X ⟨rfl, rfl⟩ g24 dX2_init_127 fl_X2_64 ftf_X2_17 rfl ha <|
k_aload_n X 0 dX2_init_130 rfl <|
k_bipush X dX2_init_131 bi_20 <|
k_nai X (n0 + 12) rfl (len := 20) dX2_init_133 q_310 kc_20 rfl (by decide) (by omega) (by omega) fun q25 g26 =>
k_putRF (ty := (.array .int)) (q := (n0 + 12)) X ⟨rfl, rfl⟩ g26 dX2_init_135 fl_X2_67 ftf_X2_18 rfl ha <|
k_vret X Y dX2_init_138 rfl (by constructor <;> omega))
def sX7 (σ : St) (n0 o : Nat)  : St := (up σ o 1 0)
set_option maxHeartbeats 8000000 in
set_option maxRecDepth 200000 in
theorem ck_X7_init (D : va_G) (cA : Nat → ClassId) (ks : (Nat → Nat) × (Nat → Nat)) (S : List Kd) (as : List Nat) (σ : St) (n0 o a : Nat) (hS0 : S.length = n0) (ho : S[o]? = some (.inr (.inl (7, [1, 0])))) (ha : as[o]? = some a) : CtK yX7_init cX7_init 1 1 20 1 (400) S D cA ks as [.ref a] σ (S.set o (.inr (.inl (7, [(n0 + 2), 0]))) ++ [.inl (1, 400)]) 1 (sX7 σ n0 o) := by
  have hS := hS0
  have ho0 : o < S.length := (List.getElem?_eq_some_iff.mp ho).1
  exact CtK.of n0 (by decide +kernel) rfl (Nat.le_of_ble_eq_true rfl) hS ho rfl fun E X Y => (
k_aload_n X 0 dX7_init_0 rfl <|
k_obj X dX7_init_1 q_193 q_186 q_187 (by decide) (by decide) <|
k_aload_n X 0 dX7_init_4 rfl <|
k_sipush X dX7_init_5 si_400 <|
k_nab X n0 rfl (len := 400) dX7_init_8 q_201 kc_400 rfl (by decide) (by omega) (by omega) fun q1 g2 =>
k_putRF (ty := (.array .byte)) (q := n0) X ⟨rfl, rfl⟩ g2 dX7_init_10 fl_X7_9 ftf_X7_0 rfl ha <|
k_aload_n X 0 dX7_init_13 rfl <|
k_iconst X dX7_init_14 <|
k_putI X kc_0 dX7_init_15 fl_X7_15 ft_X7_1 rfl ha <|
k_vret X Y dX7_init_18 rfl (by constructor <;> omega))
