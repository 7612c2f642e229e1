def sX12 (σ : St) (n0 o : Nat)  : St := (up (up (up (up (up (up (up (up (up (up (up (up (up (up (up (up (up (up (up (up (up (up (up (up (up (up (up (up (up (up (up (up (up (up (up (up (up (up (up (up (up (up (up (up (up (up (up (up (up (up (up (up (up (up (up (up (up (up (up (up (up (up (up (up (up (up (up (up (up (up (up (up (up (up (up (up (up (up (up (up (up (up (up (up (up (up (up (up (up (up (up (up (up (up (up (up (up (up (up (up (up (up (up (up (up (up (up (up (up (up (up (up (up (up (up (up (up (up (up (up (up (up (up (up (up (up (up (up (up (up (up (up (up (up (up (up (up (up (up (up (up (up (up (up (up (up (up (up (up (up (up (up (up σ (n0 + 8) 0 32) (n0 + 8) 1 115) (n0 + 8) 2 112) (n0 + 8) 3 101) (n0 + 8) 4 97) (n0 + 8) 5 107) (n0 + 8) 6 115) (n0 + 8) 7 32) (n0 + 8) 8 104) (n0 + 8) 9 101) (n0 + 8) 10 97) (n0 + 8) 11 114) (n0 + 8) 12 115) (n0 + 8) 13 32) (n0 + 8) 14 115) (n0 + 8) 15 112) (n0 + 8) 16 105) (n0 + 8) 17 110) (n0 + 8) 18 115) (n0 + 8) 19 32) (n0 + 8) 20 119) (n0 + 8) 21 104) (n0 + 8) 22 101) (n0 + 8) 23 110) (n0 + 8) 24 32) (n0 + 8) 25 111) (n0 + 8) 26 114) (n0 + 8) 27 32) (n0 + 8) 28 97) (n0 + 8) 29 110) (n0 + 8) 30 100) (n0 + 8) 31 32) (n0 + 8) 32 110) (n0 + 8) 33 111) (n0 + 8) 34 116) (n0 + 8) 35 32) (n0 + 8) 36 116) (n0 + 8) 37 111) (n0 + 8) 38 110) (n0 + 8) 39 103) (n0 + 8) 40 117) (n0 + 8) 41 101) (n0 + 8) 42 32) (n0 + 8) 43 101) (n0 + 8) 44 97) (n0 + 8) 45 114) (n0 + 8) 46 115) (n0 + 8) 47 32) (n0 + 8) 48 115) (n0 + 8) 49 105) (n0 + 8) 50 116) (n0 + 8) 51 116) (n0 + 8) 52 105) (n0 + 8) 53 110) (n0 + 8) 54 103) (n0 + 8) 55 32) (n0 + 8) 56 115) (n0 + 8) 57 116) (n0 + 8) 58 97) (n0 + 8) 59 121) (n0 + 8) 60 101) (n0 + 8) 61 100) (n0 + 8) 62 32) (n0 + 8) 63 108) (n0 + 8) 64 97) (n0 + 8) 65 109) (n0 + 8) 66 112) (n0 + 8) 67 32) (n0 + 8) 68 99) (n0 + 8) 69 111) (n0 + 8) 70 98) (n0 + 8) 71 119) (n0 + 8) 72 101) (n0 + 8) 73 98) (n0 + 8) 74 32) (n0 + 8) 75 109) (n0 + 8) 76 105) (n0 + 8) 77 110) (n0 + 8) 78 117) (n0 + 8) 79 116) (n0 + 8) 80 101) (n0 + 8) 81 32) (n0 + 8) 82 115) (n0 + 8) 83 97) (n0 + 8) 84 105) (n0 + 8) 85 100) (n0 + 8) 86 32) (n0 + 8) 87 104) (n0 + 8) 88 101) (n0 + 8) 89 97) (n0 + 8) 90 114) (n0 + 8) 91 100) (n0 + 8) 92 32) (n0 + 8) 93 101) (n0 + 8) 94 118) (n0 + 8) 95 101) (n0 + 8) 96 110) (n0 + 8) 97 105) (n0 + 8) 98 110) (n0 + 8) 99 103) (n0 + 8) 100 32) (n0 + 8) 101 112) (n0 + 8) 102 101) (n0 + 8) 103 114) (n0 + 8) 104 115) (n0 + 8) 105 111) (n0 + 8) 106 110) (n0 + 8) 107 32) (n0 + 8) 108 97) (n0 + 8) 109 116) (n0 + 8) 110 32) (n0 + 8) 111 111) (n0 + 8) 112 110) (n0 + 8) 113 32) (n0 + 8) 114 102) (n0 + 8) 115 111) (n0 + 8) 116 114) (n0 + 8) 117 32) (n0 + 8) 118 105) (n0 + 8) 119 110) (n0 + 8) 120 32) (n0 + 8) 121 111) (n0 + 8) 122 105) (n0 + 8) 123 108) (n0 + 8) 124 32) (n0 + 8) 125 115) (n0 + 8) 126 119) (n0 + 8) 127 101) (n0 + 8) 128 101) (n0 + 8) 129 112) (n0 + 8) 130 32) (n0 + 8) 131 114) (n0 + 8) 132 97) (n0 + 8) 133 105) (n0 + 8) 134 110) (n0 + 8) 135 32) (n0 + 8) 136 109) (n0 + 8) 137 97) (n0 + 8) 138 115) (n0 + 8) 139 116) (n0 + 8) 140 101) (n0 + 8) 141 114) (n0 + 8) 142 32) (n0 + 8) 143 112) (n0 + 8) 144 111) (n0 + 8) 145 114) (n0 + 8) 146 99) (n0 + 8) 147 104) (n0 + 8) 148 32) (n0 + 8) 149 98) (n0 + 8) 150 121) (n0 + 8) 151 32) o 34 (-1))
set_option maxHeartbeats 8000000 in
set_option maxRecDepth 200000 in
theorem ck_X12_init (D : va_G) (cA : Nat → ClassId) (ks : (Nat → Nat) × (Nat → Nat)) (S : List Kd) (as : List Nat) (σ : St) (n0 o a : Nat) (hS0 : S.length = n0) (ho : S[o]? = some (.inr (.inl (12, [0, 1, 1, 0, 1, 0, 0, 0, 1, 1, 1, 1, 1, 0, 0, 0, 0, 0, 1, 1, 1, 1, 1, 1, 1, 1, 0, 0, 0, 1, 0, 0, 0, 0, 0, 0, 1, 0, 1, 0, 1, 1, 1, 1, 1, 1, 1, 1, 1, 0, 1, 1, 0, 1, 1, 1, 1, 1, 0, 1, 1, 1, 0, 1, 0, 1, 1, 1, 1, 1, 0, 1, 0, 1, 1, 1, 1, 1, 1, 1, 1, 1, 1, 0, 0, 0, 1])))) (ha : as[o]? = some a) : CtK yX12_init cX12_init 1 1 20 56 (56536) S D cA ks as [.ref a] σ (S.set o (.inr (.inl (12, [0, (n0 + 2), (n0 + 3), 0, (n0 + 4), 0, 0, 0, (n0 + 5), (n0 + 6), (n0 + 7), (n0 + 8), (n0 + 9), 0, 0, 0, 0, 0, (n0 + 10), (n0 + 11), (n0 + 12), (n0 + 13), (n0 + 14), (n0 + 15), (n0 + 16), (n0 + 17), 0, 0, 0, (n0 + 18), 0, 0, 0, 0, 0, 0, (n0 + 19), 0, (n0 + 20), 0, (n0 + 21), (n0 + 22), (n0 + 23), (n0 + 24), (n0 + 25), (n0 + 26), (n0 + 27), (n0 + 28), (n0 + 29), 0, (n0 + 30), (n0 + 31), 0, (n0 + 32), (n0 + 33), (n0 + 34), (n0 + 35), (n0 + 36), 0, (n0 + 37), (n0 + 38), (n0 + 39), 0, (n0 + 40), 0, (n0 + 41), (n0 + 42), (n0 + 43), (n0 + 44), (n0 + 45), 0, (n0 + 46), 0, (n0 + 47), (n0 + 48), (n0 + 49), (n0 + 50), (n0 + 51), (n0 + 52), (n0 + 53), (n0 + 54), (n0 + 55), (n0 + 56), 0, 0, 0, (n0 + 57)]))) ++ [.inl (0, 161), .inl (0, 966), .inl (0, 161), .inl (0, 12), .inl (0, 20), .inl (0, 20), .inl (0, 750), .inl (0, 400), .inl (0, 152), .inl (0, 2), .inl (0, 48), .inl (0, 48), .inl (0, 48), .inl (0, 48), .inl (0, 1200), .inl (0, 1200), .inl (0, 40), .inl (0, 128), .inl (0, 128), .inl (0, 288), .inl (0, 10), .inl (0, 420), .inl (0, 10), .inl (0, 50), .inl (0, 50), .inl (0, 5), .inl (0, 5), .inl (0, 9), .inl (0, 5), .inl (0, 5), .inl (0, 12), .inl (0, 12), .inl (0, 12), .inl (0, 12), .inl (0, 8), .inl (0, 8), .inl (0, 256), .inl (0, 4), .inl (0, 12), .inl (0, 24), .inl (0, 16), .inl (0, 3), .inl (0, 72), .inl (0, 169), .inl (0, 8), .inl (0, 8), .inl (0, 2048), .inl (0, 12), .inl (0, 41), .inl (0, 3), .inl (0, 3), .inl (0, 2197), .inl (0, 2197), .inl (0, 9), .inl (0, 40401), .inl (0, 2600)]) 56 (sX12 σ n0 o) := by
  have hS := hS0
  have ho0 : o < S.length := (List.getElem?_eq_some_iff.mp ho).1
  refine CtK.of n0 (by decide +kernel) rfl (Nat.le_of_ble_eq_true rfl) hS ho rfl fun E X Y => ?_
  refine k_aload_n X 0 dX12_init_0 rfl ?_
  refine k_obj X dX12_init_1 q_1546 q_186 q_187 (by decide) (by decide) ?_
  refine k_aload_n X 0 dX12_init_4 rfl ?_
  refine k_sipush X dX12_init_5 si_161 ?_
  refine k_nai X n0 rfl (len := 161) dX12_init_8 q_310 kc_161 rfl (by decide) (by omega) (by omega) fun q1 g2 => ?_
  refine k_putRF2 (ty := (.array .int)) (q := n0) (fs1 := [0, (n0 + 2), 1, 0, 1, 0, 0, 0, 1, 1, 1, 1, 1, 0, 0, 0, 0, 0, 1, 1, 1, 1, 1, 1, 1, 1, 0, 0, 0, 1, 0, 0, 0, 0, 0, 0, 1, 0, 1, 0, 1, 1, 1, 1, 1, 1, 1, 1, 1, 0, 1, 1, 0, 1, 1, 1, 1, 1, 0, 1, 1, 1, 0, 1, 0, 1, 1, 1, 1, 1, 0, 1, 0, 1, 1, 1, 1, 1, 1, 1, 1, 1, 1, 0, 0, 0, 1]) X ⟨rfl, rfl⟩ g2 dX12_init_10 fl_X12_7 ftf_X12_1 rfl ha rfl ?_
  refine k_aload_n X 0 dX12_init_13 rfl ?_
  refine k_sipush X dX12_init_14 si_966 ?_
  refine k_nai X (n0 + 1) rfl (len := 966) dX12_init_17 q_310 kc_966 rfl (by decide) (by omega) (by omega) fun q3 g4 => ?_
  refine k_putRF2 (ty := (.array .int)) (q := (n0 + 1)) (fs1 := [0, (n0 + 2), (n0 + 3), 0, 1, 0, 0, 0, 1, 1, 1, 1, 1, 0, 0, 0, 0, 0, 1, 1, 1, 1, 1, 1, 1, 1, 0, 0, 0, 1, 0, 0, 0, 0, 0, 0, 1, 0, 1, 0, 1, 1, 1, 1, 1, 1, 1, 1, 1, 0, 1, 1, 0, 1, 1, 1, 1, 1, 0, 1, 1, 1, 0, 1, 0, 1, 1, 1, 1, 1, 0, 1, 0, 1, 1, 1, 1, 1, 1, 1, 1, 1, 1, 0, 0, 0, 1]) X ⟨rfl, rfl⟩ g4 dX12_init_19 fl_X12_13 ftf_X12_2 rfl ha rfl ?_
  refine k_aload_n X 0 dX12_init_22 rfl ?_
  refine k_sipush X dX12_init_23 si_161 ?_
  refine k_nai X (n0 + 2) rfl (len := 161) dX12_init_26 q_310 kc_161 rfl (by decide) (by omega) (by omega) fun q5 g6 => ?_
  refine k_putRF2 (ty := (.array .int)) (q := (n0 + 2)) (fs1 := [0, (n0 + 2), (n0 + 3), 0, (n0 + 4), 0, 0, 0, 1, 1, 1, 1, 1, 0, 0, 0, 0, 0, 1, 1, 1, 1, 1, 1, 1, 1, 0, 0, 0, 1, 0, 0, 0, 0, 0, 0, 1, 0, 1, 0, 1, 1, 1, 1, 1, 1, 1, 1, 1, 0, 1, 1, 0, 1, 1, 1, 1, 1, 0, 1, 1, 1, 0, 1, 0, 1, 1, 1, 1, 1, 0, 1, 0, 1, 1, 1, 1, 1, 1, 1, 1, 1, 1, 0, 0, 0, 1]) X ⟨rfl, rfl⟩ g6 dX12_init_28 fl_X12_16 ftf_X12_4 rfl ha rfl ?_
  refine k_aload_n X 0 dX12_init_31 rfl ?_
  refine k_bipush X dX12_init_32 bi_12 ?_
  refine k_nai X (n0 + 3) rfl (len := 12) dX12_init_34 q_310 kc_12 rfl (by decide) (by omega) (by omega) fun q7 g8 => ?_
  refine k_putRF2 (ty := (.array .int)) (q := (n0 + 3)) (fs1 := [0, (n0 + 2), (n0 + 3), 0, (n0 + 4), 0, 0, 0, (n0 + 5), 1, 1, 1, 1, 0, 0, 0, 0, 0, 1, 1, 1, 1, 1, 1, 1, 1, 0, 0, 0, 1, 0, 0, 0, 0, 0, 0, 1, 0, 1, 0, 1, 1, 1, 1, 1, 1, 1, 1, 1, 0, 1, 1, 0, 1, 1, 1, 1, 1, 0, 1, 1, 1, 0, 1, 0, 1, 1, 1, 1, 1, 0, 1, 0, 1, 1, 1, 1, 1, 1, 1, 1, 1, 1, 0, 0, 0, 1]) X ⟨rfl, rfl⟩ g8 dX12_init_36 fl_X12_19 ftf_X12_8 rfl ha rfl ?_
  refine k_aload_n X 0 dX12_init_39 rfl ?_
  refine k_bipush X dX12_init_40 bi_20 ?_
  refine k_nai X (n0 + 4) rfl (len := 20) dX12_init_42 q_310 kc_20 rfl (by decide) (by omega) (by omega) fun q9 g10 => ?_
  refine k_putRF2 (ty := (.array .int)) (q := (n0 + 4)) (fs1 := [0, (n0 + 2), (n0 + 3), 0, (n0 + 4), 0, 0, 0, (n0 + 5), (n0 + 6), 1, 1, 1, 0, 0, 0, 0, 0, 1, 1, 1, 1, 1, 1, 1, 1, 0, 0, 0, 1, 0, 0, 0, 0, 0, 0, 1, 0, 1, 0, 1, 1, 1, 1, 1, 1, 1, 1, 1, 0, 1, 1, 0, 1, 1, 1, 1, 1, 0, 1, 1, 1, 0, 1, 0, 1, 1, 1, 1, 1, 0, 1, 0, 1, 1, 1, 1, 1, 1, 1, 1, 1, 1, 0, 0, 0, 1]) X ⟨rfl, rfl⟩ g10 dX12_init_44 fl_X12_22 ftf_X12_9 rfl ha rfl ?_
  refine k_aload_n X 0 dX12_init_47 rfl ?_
  refine k_bipush X dX12_init_48 bi_20 ?_
  refine k_nai X (n0 + 5) rfl (len := 20) dX12_init_50 q_310 kc_20 rfl (by decide) (by omega) (by omega) fun q11 g12 => ?_
  refine k_putRF2 (ty := (.array .int)) (q := (n0 + 5)) (fs1 := [0, (n0 + 2), (n0 + 3), 0, (n0 + 4), 0, 0, 0, (n0 + 5), (n0 + 6), (n0 + 7), 1, 1, 0, 0, 0, 0, 0, 1, 1, 1, 1, 1, 1, 1, 1, 0, 0, 0, 1, 0, 0, 0, 0, 0, 0, 1, 0, 1, 0, 1, 1, 1, 1, 1, 1, 1, 1, 1, 0, 1, 1, 0, 1, 1, 1, 1, 1, 0, 1, 1, 1, 0, 1, 0, 1, 1, 1, 1, 1, 0, 1, 0, 1, 1, 1, 1, 1, 1, 1, 1, 1, 1, 0, 0, 0, 1]) X ⟨rfl, rfl⟩ g12 dX12_init_52 fl_X12_25 ftf_X12_10 rfl ha rfl ?_
  refine k_aload_n X 0 dX12_init_55 rfl ?_
  refine k_sipush X dX12_init_56 si_750 ?_
  refine k_nai X (n0 + 6) rfl (len := 750) dX12_init_59 q_310 kc_750 rfl (by decide) (by omega) (by omega) fun q13 g14 => ?_
  refine k_putRF2 (ty := (.array .int)) (q := (n0 + 6)) (fs1 := [0, (n0 + 2), (n0 + 3), 0, (n0 + 4), 0, 0, 0, (n0 + 5), (n0 + 6), (n0 + 7), (n0 + 8), 1, 0, 0, 0, 0, 0, 1, 1, 1, 1, 1, 1, 1, 1, 0, 0, 0, 1, 0, 0, 0, 0, 0, 0, 1, 0, 1, 0, 1, 1, 1, 1, 1, 1, 1, 1, 1, 0, 1, 1, 0, 1, 1, 1, 1, 1, 0, 1, 1, 1, 0, 1, 0, 1, 1, 1, 1, 1, 0, 1, 0, 1, 1, 1, 1, 1, 1, 1, 1, 1, 1, 0, 0, 0, 1]) X ⟨rfl, rfl⟩ g14 dX12_init_61 fl_X12_28 ftf_X12_11 rfl ha rfl ?_
  refine k_aload_n X 0 dX12_init_64 rfl ?_
  refine k_sipush X dX12_init_65 si_400 ?_
  refine k_nai X (n0 + 7) rfl (len := 400) dX12_init_68 q_310 kc_400 rfl (by decide) (by omega) (by omega) fun q15 g16 => ?_
  refine k_putRF2 (ty := (.array .int)) (q := (n0 + 7)) (fs1 := [0, (n0 + 2), (n0 + 3), 0, (n0 + 4), 0, 0, 0, (n0 + 5), (n0 + 6), (n0 + 7), (n0 + 8), (n0 + 9), 0, 0, 0, 0, 0, 1, 1, 1, 1, 1, 1, 1, 1, 0, 0, 0, 1, 0, 0, 0, 0, 0, 0, 1, 0, 1, 0, 1, 1, 1, 1, 1, 1, 1, 1, 1, 0, 1, 1, 0, 1, 1, 1, 1, 1, 0, 1, 1, 1, 0, 1, 0, 1, 1, 1, 1, 1, 0, 1, 0, 1, 1, 1, 1, 1, 1, 1, 1, 1, 1, 0, 0, 0, 1]) X ⟨rfl, rfl⟩ g16 dX12_init_70 fl_X12_31 ftf_X12_12 rfl ha rfl ?_
  refine k_aload_n X 0 dX12_init_73 rfl ?_
  refine k_sipush X dX12_init_74 si_152 ?_
  refine k_nai X (n0 + 8) rfl (len := 152) dX12_init_77 q_310 kc_152 rfl (by decide) (by omega) (by omega) fun q17 g18 => ?_
  refine k_dup X dX12_init_79 rfl ?_
  refine k_iconst X dX12_init_80 ?_
  refine k_bipush X dX12_init_81 bi_32 ?_
  refine k_iast (k := (n0 + 8)) (len := 152) X dX12_init_83 (at_m 8 hS rfl rfl) g18 kc_0 kc_32 (by decide) ?_
  refine k_dup X dX12_init_84 rfl ?_
  refine k_iconst X dX12_init_85 ?_
  refine k_bipush X dX12_init_86 bi_115 ?_
  refine k_iast (k := (n0 + 8)) (len := 152) X dX12_init_88 (at_m 8 hS rfl rfl) g18 kc_1 kc_115 (by decide) ?_
  refine k_dup X dX12_init_89 rfl ?_
  refine k_iconst X dX12_init_90 ?_
  refine k_bipush X dX12_init_91 bi_112 ?_
  refine k_iast (k := (n0 + 8)) (len := 152) X dX12_init_93 (at_m 8 hS rfl rfl) g18 kc_2 kc_112 (by decide) ?_
  refine k_dup X dX12_init_94 rfl ?_
  refine k_iconst X dX12_init_95 ?_
  refine k_bipush X dX12_init_96 bi_101 ?_
  refine k_iast (k := (n0 + 8)) (len := 152) X dX12_init_98 (at_m 8 hS rfl rfl) g18 kc_3 kc_101 (by decide) ?_
  refine k_dup X dX12_init_99 rfl ?_
  refine k_iconst X dX12_init_100 ?_
  refine k_bipush X dX12_init_101 bi_97 ?_
  refine k_iast (k := (n0 + 8)) (len := 152) X dX12_init_103 (at_m 8 hS rfl rfl) g18 kc_4 kc_97 (by decide) ?_
  refine k_dup X dX12_init_104 rfl ?_
  refine k_iconst X dX12_init_105 ?_
  refine k_bipush X dX12_init_106 bi_107 ?_
  refine k_iast (k := (n0 + 8)) (len := 152) X dX12_init_108 (at_m 8 hS rfl rfl) g18 kc_5 kc_107 (by decide) ?_
  refine k_dup X dX12_init_109 rfl ?_
  refine k_bipush X dX12_init_110 bi_6 ?_
  refine k_bipush X dX12_init_112 bi_115 ?_
  refine k_iast (k := (n0 + 8)) (len := 152) X dX12_init_114 (at_m 8 hS rfl rfl) g18 kc_6 kc_115 (by decide) ?_
  refine k_dup X dX12_init_115 rfl ?_
  refine k_bipush X dX12_init_116 bi_7 ?_
  refine k_bipush X dX12_init_118 bi_32 ?_
  refine k_iast (k := (n0 + 8)) (len := 152) X dX12_init_120 (at_m 8 hS rfl rfl) g18 kc_7 kc_32 (by decide) ?_
  refine k_dup X dX12_init_121 rfl ?_
  refine k_bipush X dX12_init_122 bi_8 ?_
  refine k_bipush X dX12_init_124 bi_104 ?_
  refine k_iast (k := (n0 + 8)) (len := 152) X dX12_init_126 (at_m 8 hS rfl rfl) g18 kc_8 kc_104 (by decide) ?_
  refine k_dup X dX12_init_127 rfl ?_
  refine k_bipush X dX12_init_128 bi_9 ?_
  refine k_bipush X dX12_init_130 bi_101 ?_
  refine k_iast (k := (n0 + 8)) (len := 152) X dX12_init_132 (at_m 8 hS rfl rfl) g18 kc_9 kc_101 (by decide) ?_
  refine k_dup X dX12_init_133 rfl ?_
  refine k_bipush X dX12_init_134 bi_10 ?_
  refine k_bipush X dX12_init_136 bi_97 ?_
  refine k_iast (k := (n0 + 8)) (len := 152) X dX12_init_138 (at_m 8 hS rfl rfl) g18 kc_10 kc_97 (by decide) ?_
  refine k_dup X dX12_init_139 rfl ?_
  refine k_bipush X dX12_init_140 bi_11 ?_
  refine k_bipush X dX12_init_142 bi_114 ?_
  refine k_iast (k := (n0 + 8)) (len := 152) X dX12_init_144 (at_m 8 hS rfl rfl) g18 kc_11 kc_114 (by decide) ?_
  refine k_dup X dX12_init_145 rfl ?_
  refine k_bipush X dX12_init_146 bi_12 ?_
  refine k_bipush X dX12_init_148 bi_115 ?_
  refine k_iast (k := (n0 + 8)) (len := 152) X dX12_init_150 (at_m 8 hS rfl rfl) g18 kc_12 kc_115 (by decide) ?_
  refine k_dup X dX12_init_151 rfl ?_
  refine k_bipush X dX12_init_152 bi_13 ?_
  refine k_bipush X dX12_init_154 bi_32 ?_
  refine k_iast (k := (n0 + 8)) (len := 152) X dX12_init_156 (at_m 8 hS rfl rfl) g18 kc_13 kc_32 (by decide) ?_
  refine k_dup X dX12_init_157 rfl ?_
  refine k_bipush X dX12_init_158 bi_14 ?_
  refine k_bipush X dX12_init_160 bi_115 ?_
  refine k_iast (k := (n0 + 8)) (len := 152) X dX12_init_162 (at_m 8 hS rfl rfl) g18 kc_14 kc_115 (by decide) ?_
  refine k_dup X dX12_init_163 rfl ?_
  refine k_bipush X dX12_init_164 bi_15 ?_
  refine k_bipush X dX12_init_166 bi_112 ?_
  refine k_iast (k := (n0 + 8)) (len := 152) X dX12_init_168 (at_m 8 hS rfl rfl) g18 kc_15 kc_112 (by decide) ?_
  refine k_dup X dX12_init_169 rfl ?_
  refine k_bipush X dX12_init_170 bi_16 ?_
  refine k_bipush X dX12_init_172 bi_105 ?_
  refine k_iast (k := (n0 + 8)) (len := 152) X dX12_init_174 (at_m 8 hS rfl rfl) g18 kc_16 kc_105 (by decide) ?_
  refine k_dup X dX12_init_175 rfl ?_
  refine k_bipush X dX12_init_176 bi_17 ?_
  refine k_bipush X dX12_init_178 bi_110 ?_
  refine k_iast (k := (n0 + 8)) (len := 152) X dX12_init_180 (at_m 8 hS rfl rfl) g18 kc_17 kc_110 (by decide) ?_
  refine k_dup X dX12_init_181 rfl ?_
  refine k_bipush X dX12_init_182 bi_18 ?_
  refine k_bipush X dX12_init_184 bi_115 ?_
  refine k_iast (k := (n0 + 8)) (len := 152) X dX12_init_186 (at_m 8 hS rfl rfl) g18 kc_18 kc_115 (by decide) ?_
  refine k_dup X dX12_init_187 rfl ?_
  refine k_bipush X dX12_init_188 bi_19 ?_
  refine k_bipush X dX12_init_190 bi_32 ?_
  refine k_iast (k := (n0 + 8)) (len := 152) X dX12_init_192 (at_m 8 hS rfl rfl) g18 kc_19 kc_32 (by decide) ?_
  refine k_dup X dX12_init_193 rfl ?_
  refine k_bipush X dX12_init_194 bi_20 ?_
  refine k_bipush X dX12_init_196 bi_119 ?_
  refine k_iast (k := (n0 + 8)) (len := 152) X dX12_init_198 (at_m 8 hS rfl rfl) g18 kc_20 kc_119 (by decide) ?_
  refine k_dup X dX12_init_199 rfl ?_
  refine k_bipush X dX12_init_200 bi_21 ?_
  refine k_bipush X dX12_init_202 bi_104 ?_
  refine k_iast (k := (n0 + 8)) (len := 152) X dX12_init_204 (at_m 8 hS rfl rfl) g18 kc_21 kc_104 (by decide) ?_
  refine k_dup X dX12_init_205 rfl ?_
  refine k_bipush X dX12_init_206 bi_22 ?_
  refine k_bipush X dX12_init_208 bi_101 ?_
  refine k_iast (k := (n0 + 8)) (len := 152) X dX12_init_210 (at_m 8 hS rfl rfl) g18 kc_22 kc_101 (by decide) ?_
  refine k_dup X dX12_init_211 rfl ?_
  refine k_bipush X dX12_init_212 bi_23 ?_
  refine k_bipush X dX12_init_214 bi_110 ?_
  refine k_iast (k := (n0 + 8)) (len := 152) X dX12_init_216 (at_m 8 hS rfl rfl) g18 kc_23 kc_110 (by decide) ?_
  refine k_dup X dX12_init_217 rfl ?_
  refine k_bipush X dX12_init_218 bi_24 ?_
  refine k_bipush X dX12_init_220 bi_32 ?_
  refine k_iast (k := (n0 + 8)) (len := 152) X dX12_init_222 (at_m 8 hS rfl rfl) g18 kc_24 kc_32 (by decide) ?_
  refine k_dup X dX12_init_223 rfl ?_
  refine k_bipush X dX12_init_224 bi_25 ?_
  refine k_bipush X dX12_init_226 bi_111 ?_
  refine k_iast (k := (n0 + 8)) (len := 152) X dX12_init_228 (at_m 8 hS rfl rfl) g18 kc_25 kc_111 (by decide) ?_
  refine k_dup X dX12_init_229 rfl ?_
  refine k_bipush X dX12_init_230 bi_26 ?_
  refine k_bipush X dX12_init_232 bi_114 ?_
  refine k_iast (k := (n0 + 8)) (len := 152) X dX12_init_234 (at_m 8 hS rfl rfl) g18 kc_26 kc_114 (by decide) ?_
  refine k_dup X dX12_init_235 rfl ?_
  refine k_bipush X dX12_init_236 bi_27 ?_
  refine k_bipush X dX12_init_238 bi_32 ?_
  refine k_iast (k := (n0 + 8)) (len := 152) X dX12_init_240 (at_m 8 hS rfl rfl) g18 kc_27 kc_32 (by decide) ?_
  refine k_dup X dX12_init_241 rfl ?_
  refine k_bipush X dX12_init_242 bi_28 ?_
  refine k_bipush X dX12_init_244 bi_97 ?_
  refine k_iast (k := (n0 + 8)) (len := 152) X dX12_init_246 (at_m 8 hS rfl rfl) g18 kc_28 kc_97 (by decide) ?_
  refine k_dup X dX12_init_247 rfl ?_
  refine k_bipush X dX12_init_248 bi_29 ?_
  refine k_bipush X dX12_init_250 bi_110 ?_
  refine k_iast (k := (n0 + 8)) (len := 152) X dX12_init_252 (at_m 8 hS rfl rfl) g18 kc_29 kc_110 (by decide) ?_
  refine k_dup X dX12_init_253 rfl ?_
  refine k_bipush X dX12_init_254 bi_30 ?_
  refine k_bipush X dX12_init_256 bi_100 ?_
  refine k_iast (k := (n0 + 8)) (len := 152) X dX12_init_258 (at_m 8 hS rfl rfl) g18 kc_30 kc_100 (by decide) ?_
  refine k_dup X dX12_init_259 rfl ?_
  refine k_bipush X dX12_init_260 bi_31 ?_
  refine k_bipush X dX12_init_262 bi_32 ?_
  refine k_iast (k := (n0 + 8)) (len := 152) X dX12_init_264 (at_m 8 hS rfl rfl) g18 kc_31 kc_32 (by decide) ?_
  refine k_dup X dX12_init_265 rfl ?_
  refine k_bipush X dX12_init_266 bi_32 ?_
  refine k_bipush X dX12_init_268 bi_110 ?_
  refine k_iast (k := (n0 + 8)) (len := 152) X dX12_init_270 (at_m 8 hS rfl rfl) g18 kc_32 kc_110 (by decide) ?_
  refine k_dup X dX12_init_271 rfl ?_
  refine k_bipush X dX12_init_272 bi_33 ?_
  refine k_bipush X dX12_init_274 bi_111 ?_
  refine k_iast (k := (n0 + 8)) (len := 152) X dX12_init_276 (at_m 8 hS rfl rfl) g18 kc_33 kc_111 (by decide) ?_
  refine k_dup X dX12_init_277 rfl ?_
  refine k_bipush X dX12_init_278 bi_34 ?_
  refine k_bipush X dX12_init_280 bi_116 ?_
  refine k_iast (k := (n0 + 8)) (len := 152) X dX12_init_282 (at_m 8 hS rfl rfl) g18 kc_34 kc_116 (by decide) ?_
  refine k_dup X dX12_init_283 rfl ?_
  refine k_bipush X dX12_init_284 bi_35 ?_
  refine k_bipush X dX12_init_286 bi_32 ?_
  refine k_iast (k := (n0 + 8)) (len := 152) X dX12_init_288 (at_m 8 hS rfl rfl) g18 kc_35 kc_32 (by decide) ?_
  refine k_dup X dX12_init_289 rfl ?_
  refine k_bipush X dX12_init_290 bi_36 ?_
  refine k_bipush X dX12_init_292 bi_116 ?_
  refine k_iast (k := (n0 + 8)) (len := 152) X dX12_init_294 (at_m 8 hS rfl rfl) g18 kc_36 kc_116 (by decide) ?_
  refine k_dup X dX12_init_295 rfl ?_
  refine k_bipush X dX12_init_296 bi_37 ?_
  refine k_bipush X dX12_init_298 bi_111 ?_
  refine k_iast (k := (n0 + 8)) (len := 152) X dX12_init_300 (at_m 8 hS rfl rfl) g18 kc_37 kc_111 (by decide) ?_
  refine k_dup X dX12_init_301 rfl ?_
  refine k_bipush X dX12_init_302 bi_38 ?_
  refine k_bipush X dX12_init_304 bi_110 ?_
  refine k_iast (k := (n0 + 8)) (len := 152) X dX12_init_306 (at_m 8 hS rfl rfl) g18 kc_38 kc_110 (by decide) ?_
  refine k_dup X dX12_init_307 rfl ?_
  refine k_bipush X dX12_init_308 bi_39 ?_
  refine k_bipush X dX12_init_310 bi_103 ?_
  refine k_iast (k := (n0 + 8)) (len := 152) X dX12_init_312 (at_m 8 hS rfl rfl) g18 kc_39 kc_103 (by decide) ?_
  refine k_dup X dX12_init_313 rfl ?_
  refine k_bipush X dX12_init_314 bi_40 ?_
  refine k_bipush X dX12_init_316 bi_117 ?_
  refine k_iast (k := (n0 + 8)) (len := 152) X dX12_init_318 (at_m 8 hS rfl rfl) g18 kc_40 kc_117 (by decide) ?_
  refine k_dup X dX12_init_319 rfl ?_
  refine k_bipush X dX12_init_320 bi_41 ?_
  refine k_bipush X dX12_init_322 bi_101 ?_
  refine k_iast (k := (n0 + 8)) (len := 152) X dX12_init_324 (at_m 8 hS rfl rfl) g18 kc_41 kc_101 (by decide) ?_
  refine k_dup X dX12_init_325 rfl ?_
  refine k_bipush X dX12_init_326 bi_42 ?_
  refine k_bipush X dX12_init_328 bi_32 ?_
  refine k_iast (k := (n0 + 8)) (len := 152) X dX12_init_330 (at_m 8 hS rfl rfl) g18 kc_42 kc_32 (by decide) ?_
  refine k_dup X dX12_init_331 rfl ?_
  refine k_bipush X dX12_init_332 bi_43 ?_
  refine k_bipush X dX12_init_334 bi_101 ?_
  refine k_iast (k := (n0 + 8)) (len := 152) X dX12_init_336 (at_m 8 hS rfl rfl) g18 kc_43 kc_101 (by decide) ?_
  refine k_dup X dX12_init_337 rfl ?_
  refine k_bipush X dX12_init_338 bi_44 ?_
  refine k_bipush X dX12_init_340 bi_97 ?_
  refine k_iast (k := (n0 + 8)) (len := 152) X dX12_init_342 (at_m 8 hS rfl rfl) g18 kc_44 kc_97 (by decide) ?_
  refine k_dup X dX12_init_343 rfl ?_
  refine k_bipush X dX12_init_344 bi_45 ?_
  refine k_bipush X dX12_init_346 bi_114 ?_
  refine k_iast (k := (n0 + 8)) (len := 152) X dX12_init_348 (at_m 8 hS rfl rfl) g18 kc_45 kc_114 (by decide) ?_
  refine k_dup X dX12_init_349 rfl ?_
  refine k_bipush X dX12_init_350 bi_46 ?_
  refine k_bipush X dX12_init_352 bi_115 ?_
  refine k_iast (k := (n0 + 8)) (len := 152) X dX12_init_354 (at_m 8 hS rfl rfl) g18 kc_46 kc_115 (by decide) ?_
  refine k_dup X dX12_init_355 rfl ?_
  refine k_bipush X dX12_init_356 bi_47 ?_
  refine k_bipush X dX12_init_358 bi_32 ?_
  refine k_iast (k := (n0 + 8)) (len := 152) X dX12_init_360 (at_m 8 hS rfl rfl) g18 kc_47 kc_32 (by decide) ?_
  refine k_dup X dX12_init_361 rfl ?_
  refine k_bipush X dX12_init_362 bi_48 ?_
  refine k_bipush X dX12_init_364 bi_115 ?_
  refine k_iast (k := (n0 + 8)) (len := 152) X dX12_init_366 (at_m 8 hS rfl rfl) g18 kc_48 kc_115 (by decide) ?_
  refine k_dup X dX12_init_367 rfl ?_
  refine k_bipush X dX12_init_368 bi_49 ?_
  refine k_bipush X dX12_init_370 bi_105 ?_
  refine k_iast (k := (n0 + 8)) (len := 152) X dX12_init_372 (at_m 8 hS rfl rfl) g18 kc_49 kc_105 (by decide) ?_
  refine k_dup X dX12_init_373 rfl ?_
  refine k_bipush X dX12_init_374 bi_50 ?_
  refine k_bipush X dX12_init_376 bi_116 ?_
  refine k_iast (k := (n0 + 8)) (len := 152) X dX12_init_378 (at_m 8 hS rfl rfl) g18 kc_50 kc_116 (by decide) ?_
  refine k_dup X dX12_init_379 rfl ?_
  refine k_bipush X dX12_init_380 bi_51 ?_
  refine k_bipush X dX12_init_382 bi_116 ?_
  refine k_iast (k := (n0 + 8)) (len := 152) X dX12_init_384 (at_m 8 hS rfl rfl) g18 kc_51 kc_116 (by decide) ?_
  refine k_dup X dX12_init_385 rfl ?_
  refine k_bipush X dX12_init_386 bi_52 ?_
  refine k_bipush X dX12_init_388 bi_105 ?_
  refine k_iast (k := (n0 + 8)) (len := 152) X dX12_init_390 (at_m 8 hS rfl rfl) g18 kc_52 kc_105 (by decide) ?_
  refine k_dup X dX12_init_391 rfl ?_
  refine k_bipush X dX12_init_392 bi_53 ?_
  refine k_bipush X dX12_init_394 bi_110 ?_
  refine k_iast (k := (n0 + 8)) (len := 152) X dX12_init_396 (at_m 8 hS rfl rfl) g18 kc_53 kc_110 (by decide) ?_
  refine k_dup X dX12_init_397 rfl ?_
  refine k_bipush X dX12_init_398 bi_54 ?_
  refine k_bipush X dX12_init_400 bi_103 ?_
  refine k_iast (k := (n0 + 8)) (len := 152) X dX12_init_402 (at_m 8 hS rfl rfl) g18 kc_54 kc_103 (by decide) ?_
  refine k_dup X dX12_init_403 rfl ?_
  refine k_bipush X dX12_init_404 bi_55 ?_
  refine k_bipush X dX12_init_406 bi_32 ?_
  refine k_iast (k := (n0 + 8)) (len := 152) X dX12_init_408 (at_m 8 hS rfl rfl) g18 kc_55 kc_32 (by decide) ?_
  refine k_dup X dX12_init_409 rfl ?_
  refine k_bipush X dX12_init_410 bi_56 ?_
  refine k_bipush X dX12_init_412 bi_115 ?_
  refine k_iast (k := (n0 + 8)) (len := 152) X dX12_init_414 (at_m 8 hS rfl rfl) g18 kc_56 kc_115 (by decide) ?_
  refine k_dup X dX12_init_415 rfl ?_
  refine k_bipush X dX12_init_416 bi_57 ?_
  refine k_bipush X dX12_init_418 bi_116 ?_
  refine k_iast (k := (n0 + 8)) (len := 152) X dX12_init_420 (at_m 8 hS rfl rfl) g18 kc_57 kc_116 (by decide) ?_
  refine k_dup X dX12_init_421 rfl ?_
  refine k_bipush X dX12_init_422 bi_58 ?_
  refine k_bipush X dX12_init_424 bi_97 ?_
  refine k_iast (k := (n0 + 8)) (len := 152) X dX12_init_426 (at_m 8 hS rfl rfl) g18 kc_58 kc_97 (by decide) ?_
  refine k_dup X dX12_init_427 rfl ?_
  refine k_bipush X dX12_init_428 bi_59 ?_
  refine k_bipush X dX12_init_430 bi_121 ?_
  refine k_iast (k := (n0 + 8)) (len := 152) X dX12_init_432 (at_m 8 hS rfl rfl) g18 kc_59 kc_121 (by decide) ?_
  refine k_dup X dX12_init_433 rfl ?_
  refine k_bipush X dX12_init_434 bi_60 ?_
  refine k_bipush X dX12_init_436 bi_101 ?_
  refine k_iast (k := (n0 + 8)) (len := 152) X dX12_init_438 (at_m 8 hS rfl rfl) g18 kc_60 kc_101 (by decide) ?_
  refine k_dup X dX12_init_439 rfl ?_
  refine k_bipush X dX12_init_440 bi_61 ?_
  refine k_bipush X dX12_init_442 bi_100 ?_
  refine k_iast (k := (n0 + 8)) (len := 152) X dX12_init_444 (at_m 8 hS rfl rfl) g18 kc_61 kc_100 (by decide) ?_
  refine k_dup X dX12_init_445 rfl ?_
  refine k_bipush X dX12_init_446 bi_62 ?_
  refine k_bipush X dX12_init_448 bi_32 ?_
  refine k_iast (k := (n0 + 8)) (len := 152) X dX12_init_450 (at_m 8 hS rfl rfl) g18 kc_62 kc_32 (by decide) ?_
  refine k_dup X dX12_init_451 rfl ?_
  refine k_bipush X dX12_init_452 bi_63 ?_
  refine k_bipush X dX12_init_454 bi_108 ?_
  refine k_iast (k := (n0 + 8)) (len := 152) X dX12_init_456 (at_m 8 hS rfl rfl) g18 kc_63 kc_108 (by decide) ?_
  refine k_dup X dX12_init_457 rfl ?_
  refine k_bipush X dX12_init_458 bi_64 ?_
  refine k_bipush X dX12_init_460 bi_97 ?_
  refine k_iast (k := (n0 + 8)) (len := 152) X dX12_init_462 (at_m 8 hS rfl rfl) g18 kc_64 kc_97 (by decide) ?_
  refine k_dup X dX12_init_463 rfl ?_
  refine k_bipush X dX12_init_464 bi_65 ?_
  refine k_bipush X dX12_init_466 bi_109 ?_
  refine k_iast (k := (n0 + 8)) (len := 152) X dX12_init_468 (at_m 8 hS rfl rfl) g18 kc_65 kc_109 (by decide) ?_
  refine k_dup X dX12_init_469 rfl ?_
  refine k_bipush X dX12_init_470 bi_66 ?_
  refine k_bipush X dX12_init_472 bi_112 ?_
  refine k_iast (k := (n0 + 8)) (len := 152) X dX12_init_474 (at_m 8 hS rfl rfl) g18 kc_66 kc_112 (by decide) ?_
  refine k_dup X dX12_init_475 rfl ?_
  refine k_bipush X dX12_init_476 bi_67 ?_
  refine k_bipush X dX12_init_478 bi_32 ?_
  refine k_iast (k := (n0 + 8)) (len := 152) X dX12_init_480 (at_m 8 hS rfl rfl) g18 kc_67 kc_32 (by decide) ?_
  refine k_dup X dX12_init_481 rfl ?_
  refine k_bipush X dX12_init_482 bi_68 ?_
  refine k_bipush X dX12_init_484 bi_99 ?_
  refine k_iast (k := (n0 + 8)) (len := 152) X dX12_init_486 (at_m 8 hS rfl rfl) g18 kc_68 kc_99 (by decide) ?_
  refine k_dup X dX12_init_487 rfl ?_
  refine k_bipush X dX12_init_488 bi_69 ?_
  refine k_bipush X dX12_init_490 bi_111 ?_
  refine k_iast (k := (n0 + 8)) (len := 152) X dX12_init_492 (at_m 8 hS rfl rfl) g18 kc_69 kc_111 (by decide) ?_
  refine k_dup X dX12_init_493 rfl ?_
  refine k_bipush X dX12_init_494 bi_70 ?_
  refine k_bipush X dX12_init_496 bi_98 ?_
  refine k_iast (k := (n0 + 8)) (len := 152) X dX12_init_498 (at_m 8 hS rfl rfl) g18 kc_70 kc_98 (by decide) ?_
  refine k_dup X dX12_init_499 rfl ?_
  refine k_bipush X dX12_init_500 bi_71 ?_
  refine k_bipush X dX12_init_502 bi_119 ?_
  refine k_iast (k := (n0 + 8)) (len := 152) X dX12_init_504 (at_m 8 hS rfl rfl) g18 kc_71 kc_119 (by decide) ?_
  refine k_dup X dX12_init_505 rfl ?_
  refine k_bipush X dX12_init_506 bi_72 ?_
  refine k_bipush X dX12_init_508 bi_101 ?_
  refine k_iast (k := (n0 + 8)) (len := 152) X dX12_init_510 (at_m 8 hS rfl rfl) g18 kc_72 kc_101 (by decide) ?_
  refine k_dup X dX12_init_511 rfl ?_
  refine k_bipush X dX12_init_512 bi_73 ?_
  refine k_bipush X dX12_init_514 bi_98 ?_
  refine k_iast (k := (n0 + 8)) (len := 152) X dX12_init_516 (at_m 8 hS rfl rfl) g18 kc_73 kc_98 (by decide) ?_
  refine k_dup X dX12_init_517 rfl ?_
  refine k_bipush X dX12_init_518 bi_74 ?_
  refine k_bipush X dX12_init_520 bi_32 ?_
  refine k_iast (k := (n0 + 8)) (len := 152) X dX12_init_522 (at_m 8 hS rfl rfl) g18 kc_74 kc_32 (by decide) ?_
  refine k_dup X dX12_init_523 rfl ?_
  refine k_bipush X dX12_init_524 bi_75 ?_
  refine k_bipush X dX12_init_526 bi_109 ?_
  refine k_iast (k := (n0 + 8)) (len := 152) X dX12_init_528 (at_m 8 hS rfl rfl) g18 kc_75 kc_109 (by decide) ?_
  refine k_dup X dX12_init_529 rfl ?_
  refine k_bipush X dX12_init_530 bi_76 ?_
  refine k_bipush X dX12_init_532 bi_105 ?_
  refine k_iast (k := (n0 + 8)) (len := 152) X dX12_init_534 (at_m 8 hS rfl rfl) g18 kc_76 kc_105 (by decide) ?_
  refine k_dup X dX12_init_535 rfl ?_
  refine k_bipush X dX12_init_536 bi_77 ?_
  refine k_bipush X dX12_init_538 bi_110 ?_
  refine k_iast (k := (n0 + 8)) (len := 152) X dX12_init_540 (at_m 8 hS rfl rfl) g18 kc_77 kc_110 (by decide) ?_
  refine k_dup X dX12_init_541 rfl ?_
  refine k_bipush X dX12_init_542 bi_78 ?_
  refine k_bipush X dX12_init_544 bi_117 ?_
  refine k_iast (k := (n0 + 8)) (len := 152) X dX12_init_546 (at_m 8 hS rfl rfl) g18 kc_78 kc_117 (by decide) ?_
  refine k_dup X dX12_init_547 rfl ?_
  refine k_bipush X dX12_init_548 bi_79 ?_
  refine k_bipush X dX12_init_550 bi_116 ?_
  refine k_iast (k := (n0 + 8)) (len := 152) X dX12_init_552 (at_m 8 hS rfl rfl) g18 kc_79 kc_116 (by decide) ?_
  refine k_dup X dX12_init_553 rfl ?_
  refine k_bipush X dX12_init_554 bi_80 ?_
  refine k_bipush X dX12_init_556 bi_101 ?_
  refine k_iast (k := (n0 + 8)) (len := 152) X dX12_init_558 (at_m 8 hS rfl rfl) g18 kc_80 kc_101 (by decide) ?_
  refine k_dup X dX12_init_559 rfl ?_
  refine k_bipush X dX12_init_560 bi_81 ?_
  refine k_bipush X dX12_init_562 bi_32 ?_
  refine k_iast (k := (n0 + 8)) (len := 152) X dX12_init_564 (at_m 8 hS rfl rfl) g18 kc_81 kc_32 (by decide) ?_
  refine k_dup X dX12_init_565 rfl ?_
  refine k_bipush X dX12_init_566 bi_82 ?_
  refine k_bipush X dX12_init_568 bi_115 ?_
  refine k_iast (k := (n0 + 8)) (len := 152) X dX12_init_570 (at_m 8 hS rfl rfl) g18 kc_82 kc_115 (by decide) ?_
  refine k_dup X dX12_init_571 rfl ?_
  refine k_bipush X dX12_init_572 bi_83 ?_
  refine k_bipush X dX12_init_574 bi_97 ?_
  refine k_iast (k := (n0 + 8)) (len := 152) X dX12_init_576 (at_m 8 hS rfl rfl) g18 kc_83 kc_97 (by decide) ?_
  refine k_dup X dX12_init_577 rfl ?_
  refine k_bipush X dX12_init_578 bi_84 ?_
  refine k_bipush X dX12_init_580 bi_105 ?_
  refine k_iast (k := (n0 + 8)) (len := 152) X dX12_init_582 (at_m 8 hS rfl rfl) g18 kc_84 kc_105 (by decide) ?_
  refine k_dup X dX12_init_583 rfl ?_
  refine k_bipush X dX12_init_584 bi_85 ?_
  refine k_bipush X dX12_init_586 bi_100 ?_
  refine k_iast (k := (n0 + 8)) (len := 152) X dX12_init_588 (at_m 8 hS rfl rfl) g18 kc_85 kc_100 (by decide) ?_
  refine k_dup X dX12_init_589 rfl ?_
  refine k_bipush X dX12_init_590 bi_86 ?_
  refine k_bipush X dX12_init_592 bi_32 ?_
  refine k_iast (k := (n0 + 8)) (len := 152) X dX12_init_594 (at_m 8 hS rfl rfl) g18 kc_86 kc_32 (by decide) ?_
  refine k_dup X dX12_init_595 rfl ?_
  refine k_bipush X dX12_init_596 bi_87 ?_
  refine k_bipush X dX12_init_598 bi_104 ?_
  refine k_iast (k := (n0 + 8)) (len := 152) X dX12_init_600 (at_m 8 hS rfl rfl) g18 kc_87 kc_104 (by decide) ?_
  refine k_dup X dX12_init_601 rfl ?_
  refine k_bipush X dX12_init_602 bi_88 ?_
  refine k_bipush X dX12_init_604 bi_101 ?_
  refine k_iast (k := (n0 + 8)) (len := 152) X dX12_init_606 (at_m 8 hS rfl rfl) g18 kc_88 kc_101 (by decide) ?_
  refine k_dup X dX12_init_607 rfl ?_
  refine k_bipush X dX12_init_608 bi_89 ?_
  refine k_bipush X dX12_init_610 bi_97 ?_
  refine k_iast (k := (n0 + 8)) (len := 152) X dX12_init_612 (at_m 8 hS rfl rfl) g18 kc_89 kc_97 (by decide) ?_
  refine k_dup X dX12_init_613 rfl ?_
  refine k_bipush X dX12_init_614 bi_90 ?_
  refine k_bipush X dX12_init_616 bi_114 ?_
  refine k_iast (k := (n0 + 8)) (len := 152) X dX12_init_618 (at_m 8 hS rfl rfl) g18 kc_90 kc_114 (by decide) ?_
  refine k_dup X dX12_init_619 rfl ?_
  refine k_bipush X dX12_init_620 bi_91 ?_
  refine k_bipush X dX12_init_622 bi_100 ?_
  refine k_iast (k := (n0 + 8)) (len := 152) X dX12_init_624 (at_m 8 hS rfl rfl) g18 kc_91 kc_100 (by decide) ?_
  refine k_dup X dX12_init_625 rfl ?_
  refine k_bipush X dX12_init_626 bi_92 ?_
  refine k_bipush X dX12_init_628 bi_32 ?_
  refine k_iast (k := (n0 + 8)) (len := 152) X dX12_init_630 (at_m 8 hS rfl rfl) g18 kc_92 kc_32 (by decide) ?_
  refine k_dup X dX12_init_631 rfl ?_
  refine k_bipush X dX12_init_632 bi_93 ?_
  refine k_bipush X dX12_init_634 bi_101 ?_
  refine k_iast (k := (n0 + 8)) (len := 152) X dX12_init_636 (at_m 8 hS rfl rfl) g18 kc_93 kc_101 (by decide) ?_
  refine k_dup X dX12_init_637 rfl ?_
  refine k_bipush X dX12_init_638 bi_94 ?_
  refine k_bipush X dX12_init_640 bi_118 ?_
  refine k_iast (k := (n0 + 8)) (len := 152) X dX12_init_642 (at_m 8 hS rfl rfl) g18 kc_94 kc_118 (by decide) ?_
  refine k_dup X dX12_init_643 rfl ?_
  refine k_bipush X dX12_init_644 bi_95 ?_
  refine k_bipush X dX12_init_646 bi_101 ?_
  refine k_iast (k := (n0 + 8)) (len := 152) X dX12_init_648 (at_m 8 hS rfl rfl) g18 kc_95 kc_101 (by decide) ?_
  refine k_dup X dX12_init_649 rfl ?_
  refine k_bipush X dX12_init_650 bi_96 ?_
  refine k_bipush X dX12_init_652 bi_110 ?_
  refine k_iast (k := (n0 + 8)) (len := 152) X dX12_init_654 (at_m 8 hS rfl rfl) g18 kc_96 kc_110 (by decide) ?_
  refine k_dup X dX12_init_655 rfl ?_
  refine k_bipush X dX12_init_656 bi_97 ?_
  refine k_bipush X dX12_init_658 bi_105 ?_
  refine k_iast (k := (n0 + 8)) (len := 152) X dX12_init_660 (at_m 8 hS rfl rfl) g18 kc_97 kc_105 (by decide) ?_
  refine k_dup X dX12_init_661 rfl ?_
  refine k_bipush X dX12_init_662 bi_98 ?_
  refine k_bipush X dX12_init_664 bi_110 ?_
  refine k_iast (k := (n0 + 8)) (len := 152) X dX12_init_666 (at_m 8 hS rfl rfl) g18 kc_98 kc_110 (by decide) ?_
  refine k_dup X dX12_init_667 rfl ?_
  refine k_bipush X dX12_init_668 bi_99 ?_
  refine k_bipush X dX12_init_670 bi_103 ?_
  refine k_iast (k := (n0 + 8)) (len := 152) X dX12_init_672 (at_m 8 hS rfl rfl) g18 kc_99 kc_103 (by decide) ?_
  refine k_dup X dX12_init_673 rfl ?_
  refine k_bipush X dX12_init_674 bi_100 ?_
  refine k_bipush X dX12_init_676 bi_32 ?_
  refine k_iast (k := (n0 + 8)) (len := 152) X dX12_init_678 (at_m 8 hS rfl rfl) g18 kc_100 kc_32 (by decide) ?_
  refine k_dup X dX12_init_679 rfl ?_
  refine k_bipush X dX12_init_680 bi_101 ?_
  refine k_bipush X dX12_init_682 bi_112 ?_
  refine k_iast (k := (n0 + 8)) (len := 152) X dX12_init_684 (at_m 8 hS rfl rfl) g18 kc_101 kc_112 (by decide) ?_
  refine k_dup X dX12_init_685 rfl ?_
  refine k_bipush X dX12_init_686 bi_102 ?_
  refine k_bipush X dX12_init_688 bi_101 ?_
  refine k_iast (k := (n0 + 8)) (len := 152) X dX12_init_690 (at_m 8 hS rfl rfl) g18 kc_102 kc_101 (by decide) ?_
  refine k_dup X dX12_init_691 rfl ?_
  refine k_bipush X dX12_init_692 bi_103 ?_
  refine k_bipush X dX12_init_694 bi_114 ?_
  refine k_iast (k := (n0 + 8)) (len := 152) X dX12_init_696 (at_m 8 hS rfl rfl) g18 kc_103 kc_114 (by decide) ?_
  refine k_dup X dX12_init_697 rfl ?_
  refine k_bipush X dX12_init_698 bi_104 ?_
  refine k_bipush X dX12_init_700 bi_115 ?_
  refine k_iast (k := (n0 + 8)) (len := 152) X dX12_init_702 (at_m 8 hS rfl rfl) g18 kc_104 kc_115 (by decide) ?_
  refine k_dup X dX12_init_703 rfl ?_
  refine k_bipush X dX12_init_704 bi_105 ?_
  refine k_bipush X dX12_init_706 bi_111 ?_
  refine k_iast (k := (n0 + 8)) (len := 152) X dX12_init_708 (at_m 8 hS rfl rfl) g18 kc_105 kc_111 (by decide) ?_
  refine k_dup X dX12_init_709 rfl ?_
  refine k_bipush X dX12_init_710 bi_106 ?_
  refine k_bipush X dX12_init_712 bi_110 ?_
  refine k_iast (k := (n0 + 8)) (len := 152) X dX12_init_714 (at_m 8 hS rfl rfl) g18 kc_106 kc_110 (by decide) ?_
  refine k_dup X dX12_init_715 rfl ?_
  refine k_bipush X dX12_init_716 bi_107 ?_
  refine k_bipush X dX12_init_718 bi_32 ?_
  refine k_iast (k := (n0 + 8)) (len := 152) X dX12_init_720 (at_m 8 hS rfl rfl) g18 kc_107 kc_32 (by decide) ?_
  refine k_dup X dX12_init_721 rfl ?_
  refine k_bipush X dX12_init_722 bi_108 ?_
  refine k_bipush X dX12_init_724 bi_97 ?_
  refine k_iast (k := (n0 + 8)) (len := 152) X dX12_init_726 (at_m 8 hS rfl rfl) g18 kc_108 kc_97 (by decide) ?_
  refine k_dup X dX12_init_727 rfl ?_
  refine k_bipush X dX12_init_728 bi_109 ?_
  refine k_bipush X dX12_init_730 bi_116 ?_
  refine k_iast (k := (n0 + 8)) (len := 152) X dX12_init_732 (at_m 8 hS rfl rfl) g18 kc_109 kc_116 (by decide) ?_
  refine k_dup X dX12_init_733 rfl ?_
  refine k_bipush X dX12_init_734 bi_110 ?_
  refine k_bipush X dX12_init_736 bi_32 ?_
  refine k_iast (k := (n0 + 8)) (len := 152) X dX12_init_738 (at_m 8 hS rfl rfl) g18 kc_110 kc_32 (by decide) ?_
  refine k_dup X dX12_init_739 rfl ?_
  refine k_bipush X dX12_init_740 bi_111 ?_
  refine k_bipush X dX12_init_742 bi_111 ?_
  refine k_iast (k := (n0 + 8)) (len := 152) X dX12_init_744 (at_m 8 hS rfl rfl) g18 kc_111 kc_111 (by decide) ?_
  refine k_dup X dX12_init_745 rfl ?_
  refine k_bipush X dX12_init_746 bi_112 ?_
  refine k_bipush X dX12_init_748 bi_110 ?_
  refine k_iast (k := (n0 + 8)) (len := 152) X dX12_init_750 (at_m 8 hS rfl rfl) g18 kc_112 kc_110 (by decide) ?_
  refine k_dup X dX12_init_751 rfl ?_
  refine k_bipush X dX12_init_752 bi_113 ?_
  refine k_bipush X dX12_init_754 bi_32 ?_
  refine k_iast (k := (n0 + 8)) (len := 152) X dX12_init_756 (at_m 8 hS rfl rfl) g18 kc_113 kc_32 (by decide) ?_
  refine k_dup X dX12_init_757 rfl ?_
  refine k_bipush X dX12_init_758 bi_114 ?_
  refine k_bipush X dX12_init_760 bi_102 ?_
  refine k_iast (k := (n0 + 8)) (len := 152) X dX12_init_762 (at_m 8 hS rfl rfl) g18 kc_114 kc_102 (by decide) ?_
  refine k_dup X dX12_init_763 rfl ?_
  refine k_bipush X dX12_init_764 bi_115 ?_
  refine k_bipush X dX12_init_766 bi_111 ?_
  refine k_iast (k := (n0 + 8)) (len := 152) X dX12_init_768 (at_m 8 hS rfl rfl) g18 kc_115 kc_111 (by decide) ?_
  refine k_dup X dX12_init_769 rfl ?_
  refine k_bipush X dX12_init_770 bi_116 ?_
  refine k_bipush X dX12_init_772 bi_114 ?_
  refine k_iast (k := (n0 + 8)) (len := 152) X dX12_init_774 (at_m 8 hS rfl rfl) g18 kc_116 kc_114 (by decide) ?_
  refine k_dup X dX12_init_775 rfl ?_
  refine k_bipush X dX12_init_776 bi_117 ?_
  refine k_bipush X dX12_init_778 bi_32 ?_
  refine k_iast (k := (n0 + 8)) (len := 152) X dX12_init_780 (at_m 8 hS rfl rfl) g18 kc_117 kc_32 (by decide) ?_
  refine k_dup X dX12_init_781 rfl ?_
  refine k_bipush X dX12_init_782 bi_118 ?_
  refine k_bipush X dX12_init_784 bi_105 ?_
  refine k_iast (k := (n0 + 8)) (len := 152) X dX12_init_786 (at_m 8 hS rfl rfl) g18 kc_118 kc_105 (by decide) ?_
  refine k_dup X dX12_init_787 rfl ?_
  refine k_bipush X dX12_init_788 bi_119 ?_
  refine k_bipush X dX12_init_790 bi_110 ?_
  refine k_iast (k := (n0 + 8)) (len := 152) X dX12_init_792 (at_m 8 hS rfl rfl) g18 kc_119 kc_110 (by decide) ?_
  refine k_dup X dX12_init_793 rfl ?_
  refine k_bipush X dX12_init_794 bi_120 ?_
  refine k_bipush X dX12_init_796 bi_32 ?_
  refine k_iast (k := (n0 + 8)) (len := 152) X dX12_init_798 (at_m 8 hS rfl rfl) g18 kc_120 kc_32 (by decide) ?_
  refine k_dup X dX12_init_799 rfl ?_
  refine k_bipush X dX12_init_800 bi_121 ?_
  refine k_bipush X dX12_init_802 bi_111 ?_
  refine k_iast (k := (n0 + 8)) (len := 152) X dX12_init_804 (at_m 8 hS rfl rfl) g18 kc_121 kc_111 (by decide) ?_
  refine k_dup X dX12_init_805 rfl ?_
  refine k_bipush X dX12_init_806 bi_122 ?_
  refine k_bipush X dX12_init_808 bi_105 ?_
  refine k_iast (k := (n0 + 8)) (len := 152) X dX12_init_810 (at_m 8 hS rfl rfl) g18 kc_122 kc_105 (by decide) ?_
  refine k_dup X dX12_init_811 rfl ?_
  refine k_bipush X dX12_init_812 bi_123 ?_
  refine k_bipush X dX12_init_814 bi_108 ?_
  refine k_iast (k := (n0 + 8)) (len := 152) X dX12_init_816 (at_m 8 hS rfl rfl) g18 kc_123 kc_108 (by decide) ?_
  refine k_dup X dX12_init_817 rfl ?_
  refine k_bipush X dX12_init_818 bi_124 ?_
  refine k_bipush X dX12_init_820 bi_32 ?_
  refine k_iast (k := (n0 + 8)) (len := 152) X dX12_init_822 (at_m 8 hS rfl rfl) g18 kc_124 kc_32 (by decide) ?_
  refine k_dup X dX12_init_823 rfl ?_
  refine k_bipush X dX12_init_824 bi_125 ?_
  refine k_bipush X dX12_init_826 bi_115 ?_
  refine k_iast (k := (n0 + 8)) (len := 152) X dX12_init_828 (at_m 8 hS rfl rfl) g18 kc_125 kc_115 (by decide) ?_
  refine k_dup X dX12_init_829 rfl ?_
  refine k_bipush X dX12_init_830 bi_126 ?_
  refine k_bipush X dX12_init_832 bi_119 ?_
  refine k_iast (k := (n0 + 8)) (len := 152) X dX12_init_834 (at_m 8 hS rfl rfl) g18 kc_126 kc_119 (by decide) ?_
  refine k_dup X dX12_init_835 rfl ?_
  refine k_bipush X dX12_init_836 bi_127 ?_
  refine k_bipush X dX12_init_838 bi_101 ?_
  refine k_iast (k := (n0 + 8)) (len := 152) X dX12_init_840 (at_m 8 hS rfl rfl) g18 kc_127 kc_101 (by decide) ?_
  refine k_dup X dX12_init_841 rfl ?_
  refine k_sipush X dX12_init_842 si_128 ?_
  refine k_bipush X dX12_init_845 bi_101 ?_
  refine k_iast (k := (n0 + 8)) (len := 152) X dX12_init_847 (at_m 8 hS rfl rfl) g18 kc_128 kc_101 (by decide) ?_
  refine k_dup X dX12_init_848 rfl ?_
  refine k_sipush X dX12_init_849 si_129 ?_
  refine k_bipush X dX12_init_852 bi_112 ?_
  refine k_iast (k := (n0 + 8)) (len := 152) X dX12_init_854 (at_m 8 hS rfl rfl) g18 kc_129 kc_112 (by decide) ?_
  refine k_dup X dX12_init_855 rfl ?_
  refine k_sipush X dX12_init_856 si_130 ?_
  refine k_bipush X dX12_init_859 bi_32 ?_
  refine k_iast (k := (n0 + 8)) (len := 152) X dX12_init_861 (at_m 8 hS rfl rfl) g18 kc_130 kc_32 (by decide) ?_
  refine k_dup X dX12_init_862 rfl ?_
  refine k_sipush X dX12_init_863 si_131 ?_
  refine k_bipush X dX12_init_866 bi_114 ?_
  refine k_iast (k := (n0 + 8)) (len := 152) X dX12_init_868 (at_m 8 hS rfl rfl) g18 kc_131 kc_114 (by decide) ?_
  refine k_dup X dX12_init_869 rfl ?_
  refine k_sipush X dX12_init_870 si_132 ?_
  refine k_bipush X dX12_init_873 bi_97 ?_
  refine k_iast (k := (n0 + 8)) (len := 152) X dX12_init_875 (at_m 8 hS rfl rfl) g18 kc_132 kc_97 (by decide) ?_
  refine k_dup X dX12_init_876 rfl ?_
  refine k_sipush X dX12_init_877 si_133 ?_
  refine k_bipush X dX12_init_880 bi_105 ?_
  refine k_iast (k := (n0 + 8)) (len := 152) X dX12_init_882 (at_m 8 hS rfl rfl) g18 kc_133 kc_105 (by decide) ?_
  refine k_dup X dX12_init_883 rfl ?_
  refine k_sipush X dX12_init_884 si_134 ?_
  refine k_bipush X dX12_init_887 bi_110 ?_
  refine k_iast (k := (n0 + 8)) (len := 152) X dX12_init_889 (at_m 8 hS rfl rfl) g18 kc_134 kc_110 (by decide) ?_
  refine k_dup X dX12_init_890 rfl ?_
  refine k_sipush X dX12_init_891 si_135 ?_
  refine k_bipush X dX12_init_894 bi_32 ?_
  refine k_iast (k := (n0 + 8)) (len := 152) X dX12_init_896 (at_m 8 hS rfl rfl) g18 kc_135 kc_32 (by decide) ?_
  refine k_dup X dX12_init_897 rfl ?_
  refine k_sipush X dX12_init_898 si_136 ?_
  refine k_bipush X dX12_init_901 bi_109 ?_
  refine k_iast (k := (n0 + 8)) (len := 152) X dX12_init_903 (at_m 8 hS rfl rfl) g18 kc_136 kc_109 (by decide) ?_
  refine k_dup X dX12_init_904 rfl ?_
  refine k_sipush X dX12_init_905 si_137 ?_
  refine k_bipush X dX12_init_908 bi_97 ?_
  refine k_iast (k := (n0 + 8)) (len := 152) X dX12_init_910 (at_m 8 hS rfl rfl) g18 kc_137 kc_97 (by decide) ?_
  refine k_dup X dX12_init_911 rfl ?_
  refine k_sipush X dX12_init_912 si_138 ?_
  refine k_bipush X dX12_init_915 bi_115 ?_
  refine k_iast (k := (n0 + 8)) (len := 152) X dX12_init_917 (at_m 8 hS rfl rfl) g18 kc_138 kc_115 (by decide) ?_
  refine k_dup X dX12_init_918 rfl ?_
  refine k_sipush X dX12_init_919 si_139 ?_
  refine k_bipush X dX12_init_922 bi_116 ?_
  refine k_iast (k := (n0 + 8)) (len := 152) X dX12_init_924 (at_m 8 hS rfl rfl) g18 kc_139 kc_116 (by decide) ?_
  refine k_dup X dX12_init_925 rfl ?_
  refine k_sipush X dX12_init_926 si_140 ?_
  refine k_bipush X dX12_init_929 bi_101 ?_
  refine k_iast (k := (n0 + 8)) (len := 152) X dX12_init_931 (at_m 8 hS rfl rfl) g18 kc_140 kc_101 (by decide) ?_
  refine k_dup X dX12_init_932 rfl ?_
  refine k_sipush X dX12_init_933 si_141 ?_
  refine k_bipush X dX12_init_936 bi_114 ?_
  refine k_iast (k := (n0 + 8)) (len := 152) X dX12_init_938 (at_m 8 hS rfl rfl) g18 kc_141 kc_114 (by decide) ?_
  refine k_dup X dX12_init_939 rfl ?_
  refine k_sipush X dX12_init_940 si_142 ?_
  refine k_bipush X dX12_init_943 bi_32 ?_
  refine k_iast (k := (n0 + 8)) (len := 152) X dX12_init_945 (at_m 8 hS rfl rfl) g18 kc_142 kc_32 (by decide) ?_
  refine k_dup X dX12_init_946 rfl ?_
  refine k_sipush X dX12_init_947 si_143 ?_
  refine k_bipush X dX12_init_950 bi_112 ?_
  refine k_iast (k := (n0 + 8)) (len := 152) X dX12_init_952 (at_m 8 hS rfl rfl) g18 kc_143 kc_112 (by decide) ?_
  refine k_dup X dX12_init_953 rfl ?_
  refine k_sipush X dX12_init_954 si_144 ?_
  refine k_bipush X dX12_init_957 bi_111 ?_
  refine k_iast (k := (n0 + 8)) (len := 152) X dX12_init_959 (at_m 8 hS rfl rfl) g18 kc_144 kc_111 (by decide) ?_
  refine k_dup X dX12_init_960 rfl ?_
  refine k_sipush X dX12_init_961 si_145 ?_
  refine k_bipush X dX12_init_964 bi_114 ?_
  refine k_iast (k := (n0 + 8)) (len := 152) X dX12_init_966 (at_m 8 hS rfl rfl) g18 kc_145 kc_114 (by decide) ?_
  refine k_dup X dX12_init_967 rfl ?_
  refine k_sipush X dX12_init_968 si_146 ?_
  refine k_bipush X dX12_init_971 bi_99 ?_
  refine k_iast (k := (n0 + 8)) (len := 152) X dX12_init_973 (at_m 8 hS rfl rfl) g18 kc_146 kc_99 (by decide) ?_
  refine k_dup X dX12_init_974 rfl ?_
  refine k_sipush X dX12_init_975 si_147 ?_
  refine k_bipush X dX12_init_978 bi_104 ?_
  refine k_iast (k := (n0 + 8)) (len := 152) X dX12_init_980 (at_m 8 hS rfl rfl) g18 kc_147 kc_104 (by decide) ?_
  refine k_dup X dX12_init_981 rfl ?_
  refine k_sipush X dX12_init_982 si_148 ?_
  refine k_bipush X dX12_init_985 bi_32 ?_
  refine k_iast (k := (n0 + 8)) (len := 152) X dX12_init_987 (at_m 8 hS rfl rfl) g18 kc_148 kc_32 (by decide) ?_
  refine k_dup X dX12_init_988 rfl ?_
  refine k_sipush X dX12_init_989 si_149 ?_
  refine k_bipush X dX12_init_992 bi_98 ?_
  refine k_iast (k := (n0 + 8)) (len := 152) X dX12_init_994 (at_m 8 hS rfl rfl) g18 kc_149 kc_98 (by decide) ?_
  refine k_dup X dX12_init_995 rfl ?_
  refine k_sipush X dX12_init_996 si_150 ?_
  refine k_bipush X dX12_init_999 bi_121 ?_
  refine k_iast (k := (n0 + 8)) (len := 152) X dX12_init_1001 (at_m 8 hS rfl rfl) g18 kc_150 kc_121 (by decide) ?_
  refine k_dup X dX12_init_1002 rfl ?_
  refine k_sipush X dX12_init_1003 si_151 ?_
  refine k_bipush X dX12_init_1006 bi_32 ?_
  refine k_iast (k := (n0 + 8)) (len := 152) X dX12_init_1008 (at_m 8 hS rfl rfl) g18 kc_151 kc_32 (by decide) ?_
  refine k_putRF2 (ty := (.array .int)) (q := (n0 + 8)) (fs1 := [0, (n0 + 2), (n0 + 3), 0, (n0 + 4), 0, 0, 0, (n0 + 5), (n0 + 6), (n0 + 7), (n0 + 8), (n0 + 9), 0, 0, 0, 0, 0, (n0 + 10), 1, 1, 1, 1, 1, 1, 1, 0, 0, 0, 1, 0, 0, 0, 0, 0, 0, 1, 0, 1, 0, 1, 1, 1, 1, 1, 1, 1, 1, 1, 0, 1, 1, 0, 1, 1, 1, 1, 1, 0, 1, 1, 1, 0, 1, 0, 1, 1, 1, 1, 1, 0, 1, 0, 1, 1, 1, 1, 1, 1, 1, 1, 1, 1, 0, 0, 0, 1]) X ⟨rfl, rfl⟩ g18 dX12_init_1009 fl_X12_34 ftf_X12_18 rfl ha rfl ?_
  refine k_aload_n X 0 dX12_init_1012 rfl ?_
  refine k_iconst X dX12_init_1013 ?_
  refine k_nai X (n0 + 9) rfl (len := 2) dX12_init_1014 q_310 kc_2 rfl (by decide) (by omega) (by omega) fun q19 g20 => ?_
  refine k_putRF2 (ty := (.array .int)) (q := (n0 + 9)) (fs1 := [0, (n0 + 2), (n0 + 3), 0, (n0 + 4), 0, 0, 0, (n0 + 5), (n0 + 6), (n0 + 7), (n0 + 8), (n0 + 9), 0, 0, 0, 0, 0, (n0 + 10), (n0 + 11), 1, 1, 1, 1, 1, 1, 0, 0, 0, 1, 0, 0, 0, 0, 0, 0, 1, 0, 1, 0, 1, 1, 1, 1, 1, 1, 1, 1, 1, 0, 1, 1, 0, 1, 1, 1, 1, 1, 0, 1, 1, 1, 0, 1, 0, 1, 1, 1, 1, 1, 0, 1, 0, 1, 1, 1, 1, 1, 1, 1, 1, 1, 1, 0, 0, 0, 1]) X ⟨rfl, rfl⟩ g20 dX12_init_1016 fl_X12_37 ftf_X12_19 rfl ha rfl ?_
  refine k_aload_n X 0 dX12_init_1019 rfl ?_
  refine k_bipush X dX12_init_1020 bi_48 ?_
  refine k_nai X (n0 + 10) rfl (len := 48) dX12_init_1022 q_310 kc_48 rfl (by decide) (by omega) (by omega) fun q21 g22 => ?_
  refine k_putRF2 (ty := (.array .int)) (q := (n0 + 10)) (fs1 := [0, (n0 + 2), (n0 + 3), 0, (n0 + 4), 0, 0, 0, (n0 + 5), (n0 + 6), (n0 + 7), (n0 + 8), (n0 + 9), 0, 0, 0, 0, 0, (n0 + 10), (n0 + 11), (n0 + 12), 1, 1, 1, 1, 1, 0, 0, 0, 1, 0, 0, 0, 0, 0, 0, 1, 0, 1, 0, 1, 1, 1, 1, 1, 1, 1, 1, 1, 0, 1, 1, 0, 1, 1, 1, 1, 1, 0, 1, 1, 1, 0, 1, 0, 1, 1, 1, 1, 1, 0, 1, 0, 1, 1, 1, 1, 1, 1, 1, 1, 1, 1, 0, 0, 0, 1]) X ⟨rfl, rfl⟩ g22 dX12_init_1024 fl_X12_40 ftf_X12_20 rfl ha rfl ?_
  refine k_aload_n X 0 dX12_init_1027 rfl ?_
  refine k_bipush X dX12_init_1028 bi_48 ?_
  refine k_nai X (n0 + 11) rfl (len := 48) dX12_init_1030 q_310 kc_48 rfl (by decide) (by omega) (by omega) fun q23 g24 => ?_
  refine k_putRF2 (ty := (.array .int)) (q := (n0 + 11)) (fs1 := [0, (n0 + 2), (n0 + 3), 0, (n0 + 4), 0, 0, 0, (n0 + 5), (n0 + 6), (n0 + 7), (n0 + 8), (n0 + 9), 0, 0, 0, 0, 0, (n0 + 10), (n0 + 11), (n0 + 12), (n0 + 13), 1, 1, 1, 1, 0, 0, 0, 1, 0, 0, 0, 0, 0, 0, 1, 0, 1, 0, 1, 1, 1, 1, 1, 1, 1, 1, 1, 0, 1, 1, 0, 1, 1, 1, 1, 1, 0, 1, 1, 1, 0, 1, 0, 1, 1, 1, 1, 1, 0, 1, 0, 1, 1, 1, 1, 1, 1, 1, 1, 1, 1, 0, 0, 0, 1]) X ⟨rfl, rfl⟩ g24 dX12_init_1032 fl_X12_43 ftf_X12_21 rfl ha rfl ?_
  refine k_aload_n X 0 dX12_init_1035 rfl ?_
  refine k_bipush X dX12_init_1036 bi_48 ?_
  refine k_nai X (n0 + 12) rfl (len := 48) dX12_init_1038 q_310 kc_48 rfl (by decide) (by omega) (by omega) fun q25 g26 => ?_
  refine k_putRF2 (ty := (.array .int)) (q := (n0 + 12)) (fs1 := [0, (n0 + 2), (n0 + 3), 0, (n0 + 4), 0, 0, 0, (n0 + 5), (n0 + 6), (n0 + 7), (n0 + 8), (n0 + 9), 0, 0, 0, 0, 0, (n0 + 10), (n0 + 11), (n0 + 12), (n0 + 13), (n0 + 14), 1, 1, 1, 0, 0, 0, 1, 0, 0, 0, 0, 0, 0, 1, 0, 1, 0, 1, 1, 1, 1, 1, 1, 1, 1, 1, 0, 1, 1, 0, 1, 1, 1, 1, 1, 0, 1, 1, 1, 0, 1, 0, 1, 1, 1, 1, 1, 0, 1, 0, 1, 1, 1, 1, 1, 1, 1, 1, 1, 1, 0, 0, 0, 1]) X ⟨rfl, rfl⟩ g26 dX12_init_1040 fl_X12_46 ftf_X12_22 rfl ha rfl ?_
  refine k_aload_n X 0 dX12_init_1043 rfl ?_
  refine k_bipush X dX12_init_1044 bi_48 ?_
  refine k_nai X (n0 + 13) rfl (len := 48) dX12_init_1046 q_310 kc_48 rfl (by decide) (by omega) (by omega) fun q27 g28 => ?_
  refine k_putRF2 (ty := (.array .int)) (q := (n0 + 13)) (fs1 := [0, (n0 + 2), (n0 + 3), 0, (n0 + 4), 0, 0, 0, (n0 + 5), (n0 + 6), (n0 + 7), (n0 + 8), (n0 + 9), 0, 0, 0, 0, 0, (n0 + 10), (n0 + 11), (n0 + 12), (n0 + 13), (n0 + 14), (n0 + 15), 1, 1, 0, 0, 0, 1, 0, 0, 0, 0, 0, 0, 1, 0, 1, 0, 1, 1, 1, 1, 1, 1, 1, 1, 1, 0, 1, 1, 0, 1, 1, 1, 1, 1, 0, 1, 1, 1, 0, 1, 0, 1, 1, 1, 1, 1, 0, 1, 0, 1, 1, 1, 1, 1, 1, 1, 1, 1, 1, 0, 0, 0, 1]) X ⟨rfl, rfl⟩ g28 dX12_init_1048 fl_X12_49 ftf_X12_23 rfl ha rfl ?_
  refine k_aload_n X 0 dX12_init_1051 rfl ?_
  refine k_sipush X dX12_init_1052 si_1200 ?_
  refine k_nai X (n0 + 14) rfl (len := 1200) dX12_init_1055 q_310 kc_1200 rfl (by decide) (by omega) (by omega) fun q29 g30 => ?_
  refine k_putRF2 (ty := (.array .int)) (q := (n0 + 14)) (fs1 := [0, (n0 + 2), (n0 + 3), 0, (n0 + 4), 0, 0, 0, (n0 + 5), (n0 + 6), (n0 + 7), (n0 + 8), (n0 + 9), 0, 0, 0, 0, 0, (n0 + 10), (n0 + 11), (n0 + 12), (n0 + 13), (n0 + 14), (n0 + 15), (n0 + 16), 1, 0, 0, 0, 1, 0, 0, 0, 0, 0, 0, 1, 0, 1, 0, 1, 1, 1, 1, 1, 1, 1, 1, 1, 0, 1, 1, 0, 1, 1, 1, 1, 1, 0, 1, 1, 1, 0, 1, 0, 1, 1, 1, 1, 1, 0, 1, 0, 1, 1, 1, 1, 1, 1, 1, 1, 1, 1, 0, 0, 0, 1]) X ⟨rfl, rfl⟩ g30 dX12_init_1057 fl_X12_52 ftf_X12_24 rfl ha rfl ?_
  refine k_aload_n X 0 dX12_init_1060 rfl ?_
  refine k_sipush X dX12_init_1061 si_1200 ?_
  refine k_nai X (n0 + 15) rfl (len := 1200) dX12_init_1064 q_310 kc_1200 rfl (by decide) (by omega) (by omega) fun q31 g32 => ?_
  refine k_putRF2 (ty := (.array .int)) (q := (n0 + 15)) (fs1 := [0, (n0 + 2), (n0 + 3), 0, (n0 + 4), 0, 0, 0, (n0 + 5), (n0 + 6), (n0 + 7), (n0 + 8), (n0 + 9), 0, 0, 0, 0, 0, (n0 + 10), (n0 + 11), (n0 + 12), (n0 + 13), (n0 + 14), (n0 + 15), (n0 + 16), (n0 + 17), 0, 0, 0, 1, 0, 0, 0, 0, 0, 0, 1, 0, 1, 0, 1, 1, 1, 1, 1, 1, 1, 1, 1, 0, 1, 1, 0, 1, 1, 1, 1, 1, 0, 1, 1, 1, 0, 1, 0, 1, 1, 1, 1, 1, 0, 1, 0, 1, 1, 1, 1, 1, 1, 1, 1, 1, 1, 0, 0, 0, 1]) X ⟨rfl, rfl⟩ g32 dX12_init_1066 fl_X12_55 ftf_X12_25 rfl ha rfl ?_
  refine k_aload_n X 0 dX12_init_1069 rfl ?_
  refine k_bipush X dX12_init_1070 bi_40 ?_
  refine k_nai X (n0 + 16) rfl (len := 40) dX12_init_1072 q_310 kc_40 rfl (by decide) (by omega) (by omega) fun q33 g34 => ?_
  refine k_putRF2 (ty := (.array .int)) (q := (n0 + 16)) (fs1 := [0, (n0 + 2), (n0 + 3), 0, (n0 + 4), 0, 0, 0, (n0 + 5), (n0 + 6), (n0 + 7), (n0 + 8), (n0 + 9), 0, 0, 0, 0, 0, (n0 + 10), (n0 + 11), (n0 + 12), (n0 + 13), (n0 + 14), (n0 + 15), (n0 + 16), (n0 + 17), 0, 0, 0, (n0 + 18), 0, 0, 0, 0, 0, 0, 1, 0, 1, 0, 1, 1, 1, 1, 1, 1, 1, 1, 1, 0, 1, 1, 0, 1, 1, 1, 1, 1, 0, 1, 1, 1, 0, 1, 0, 1, 1, 1, 1, 1, 0, 1, 0, 1, 1, 1, 1, 1, 1, 1, 1, 1, 1, 0, 0, 0, 1]) X ⟨rfl, rfl⟩ g34 dX12_init_1074 fl_X12_58 ftf_X12_29 rfl ha rfl ?_
  refine k_aload_n X 0 dX12_init_1077 rfl ?_
  refine k_iconst X dX12_init_1078 ?_
  refine k_putI X kc_m1 dX12_init_1079 fl_X12_61 ft_X12_34 rfl ha ?_
  refine k_aload_n X 0 dX12_init_1082 rfl ?_
  refine k_sipush X dX12_init_1083 si_128 ?_
  refine k_nai X (n0 + 17) rfl (len := 128) dX12_init_1086 q_310 kc_128 rfl (by decide) (by omega) (by omega) fun q35 g36 => ?_
  refine k_putRF2 (ty := (.array .int)) (q := (n0 + 17)) (fs1 := [0, (n0 + 2), (n0 + 3), 0, (n0 + 4), 0, 0, 0, (n0 + 5), (n0 + 6), (n0 + 7), (n0 + 8), (n0 + 9), 0, 0, 0, 0, 0, (n0 + 10), (n0 + 11), (n0 + 12), (n0 + 13), (n0 + 14), (n0 + 15), (n0 + 16), (n0 + 17), 0, 0, 0, (n0 + 18), 0, 0, 0, 0, 0, 0, (n0 + 19), 0, 1, 0, 1, 1, 1, 1, 1, 1, 1, 1, 1, 0, 1, 1, 0, 1, 1, 1, 1, 1, 0, 1, 1, 1, 0, 1, 0, 1, 1, 1, 1, 1, 0, 1, 0, 1, 1, 1, 1, 1, 1, 1, 1, 1, 1, 0, 0, 0, 1]) X ⟨rfl, rfl⟩ g36 dX12_init_1088 fl_X12_65 ftf_X12_36 rfl ha rfl ?_
  refine k_aload_n X 0 dX12_init_1091 rfl ?_
  refine k_sipush X dX12_init_1092 si_128 ?_
  refine k_nai X (n0 + 18) rfl (len := 128) dX12_init_1095 q_310 kc_128 rfl (by decide) (by omega) (by omega) fun q37 g38 => ?_
  refine k_putRF2 (ty := (.array .int)) (q := (n0 + 18)) (fs1 := [0, (n0 + 2), (n0 + 3), 0, (n0 + 4), 0, 0, 0, (n0 + 5), (n0 + 6), (n0 + 7), (n0 + 8), (n0 + 9), 0, 0, 0, 0, 0, (n0 + 10), (n0 + 11), (n0 + 12), (n0 + 13), (n0 + 14), (n0 + 15), (n0 + 16), (n0 + 17), 0, 0, 0, (n0 + 18), 0, 0, 0, 0, 0, 0, (n0 + 19), 0, (n0 + 20), 0, 1, 1, 1, 1, 1, 1, 1, 1, 1, 0, 1, 1, 0, 1, 1, 1, 1, 1, 0, 1, 1, 1, 0, 1, 0, 1, 1, 1, 1, 1, 0, 1, 0, 1, 1, 1, 1, 1, 1, 1, 1, 1, 1, 0, 0, 0, 1]) X ⟨rfl, rfl⟩ g38 dX12_init_1097 fl_X12_68 ftf_X12_38 rfl ha rfl ?_
  refine k_aload_n X 0 dX12_init_1100 rfl ?_
  refine k_sipush X dX12_init_1101 si_288 ?_
  refine k_nai X (n0 + 19) rfl (len := 288) dX12_init_1104 q_310 kc_288 rfl (by decide) (by omega) (by omega) fun q39 g40 => ?_
  refine k_putRF2 (ty := (.array .int)) (q := (n0 + 19)) (fs1 := [0, (n0 + 2), (n0 + 3), 0, (n0 + 4), 0, 0, 0, (n0 + 5), (n0 + 6), (n0 + 7), (n0 + 8), (n0 + 9), 0, 0, 0, 0, 0, (n0 + 10), (n0 + 11), (n0 + 12), (n0 + 13), (n0 + 14), (n0 + 15), (n0 + 16), (n0 + 17), 0, 0, 0, (n0 + 18), 0, 0, 0, 0, 0, 0, (n0 + 19), 0, (n0 + 20), 0, (n0 + 21), 1, 1, 1, 1, 1, 1, 1, 1, 0, 1, 1, 0, 1, 1, 1, 1, 1, 0, 1, 1, 1, 0, 1, 0, 1, 1, 1, 1, 1, 0, 1, 0, 1, 1, 1, 1, 1, 1, 1, 1, 1, 1, 0, 0, 0, 1]) X ⟨rfl, rfl⟩ g40 dX12_init_1106 fl_X12_71 ftf_X12_40 rfl ha rfl ?_
  refine k_aload_n X 0 dX12_init_1109 rfl ?_
  refine k_bipush X dX12_init_1110 bi_10 ?_
  refine k_nai X (n0 + 20) rfl (len := 10) dX12_init_1112 q_310 kc_10 rfl (by decide) (by omega) (by omega) fun q41 g42 => ?_
  refine k_putRF2 (ty := (.array .int)) (q := (n0 + 20)) (fs1 := [0, (n0 + 2), (n0 + 3), 0, (n0 + 4), 0, 0, 0, (n0 + 5), (n0 + 6), (n0 + 7), (n0 + 8), (n0 + 9), 0, 0, 0, 0, 0, (n0 + 10), (n0 + 11), (n0 + 12), (n0 + 13), (n0 + 14), (n0 + 15), (n0 + 16), (n0 + 17), 0, 0, 0, (n0 + 18), 0, 0, 0, 0, 0, 0, (n0 + 19), 0, (n0 + 20), 0, (n0 + 21), (n0 + 22), 1, 1, 1, 1, 1, 1, 1, 0, 1, 1, 0, 1, 1, 1, 1, 1, 0, 1, 1, 1, 0, 1, 0, 1, 1, 1, 1, 1, 0, 1, 0, 1, 1, 1, 1, 1, 1, 1, 1, 1, 1, 0, 0, 0, 1]) X ⟨rfl, rfl⟩ g42 dX12_init_1114 fl_X12_74 ftf_X12_41 rfl ha rfl ?_
  refine k_aload_n X 0 dX12_init_1117 rfl ?_
  refine k_sipush X dX12_init_1118 si_420 ?_
  refine k_nai X (n0 + 21) rfl (len := 420) dX12_init_1121 q_310 kc_420 rfl (by decide) (by omega) (by omega) fun q43 g44 => ?_
  refine k_putRF2 (ty := (.array .int)) (q := (n0 + 21)) (fs1 := [0, (n0 + 2), (n0 + 3), 0, (n0 + 4), 0, 0, 0, (n0 + 5), (n0 + 6), (n0 + 7), (n0 + 8), (n0 + 9), 0, 0, 0, 0, 0, (n0 + 10), (n0 + 11), (n0 + 12), (n0 + 13), (n0 + 14), (n0 + 15), (n0 + 16), (n0 + 17), 0, 0, 0, (n0 + 18), 0, 0, 0, 0, 0, 0, (n0 + 19), 0, (n0 + 20), 0, (n0 + 21), (n0 + 22), (n0 + 23), 1, 1, 1, 1, 1, 1, 0, 1, 1, 0, 1, 1, 1, 1, 1, 0, 1, 1, 1, 0, 1, 0, 1, 1, 1, 1, 1, 0, 1, 0, 1, 1, 1, 1, 1, 1, 1, 1, 1, 1, 0, 0, 0, 1]) X ⟨rfl, rfl⟩ g44 dX12_init_1123 fl_X12_77 ftf_X12_42 rfl ha rfl ?_
  refine k_aload_n X 0 dX12_init_1126 rfl ?_
  refine k_bipush X dX12_init_1127 bi_10 ?_
  refine k_nai X (n0 + 22) rfl (len := 10) dX12_init_1129 q_310 kc_10 rfl (by decide) (by omega) (by omega) fun q45 g46 => ?_
  refine k_putRF2 (ty := (.array .int)) (q := (n0 + 22)) (fs1 := [0, (n0 + 2), (n0 + 3), 0, (n0 + 4), 0, 0, 0, (n0 + 5), (n0 + 6), (n0 + 7), (n0 + 8), (n0 + 9), 0, 0, 0, 0, 0, (n0 + 10), (n0 + 11), (n0 + 12), (n0 + 13), (n0 + 14), (n0 + 15), (n0 + 16), (n0 + 17), 0, 0, 0, (n0 + 18), 0, 0, 0, 0, 0, 0, (n0 + 19), 0, (n0 + 20), 0, (n0 + 21), (n0 + 22), (n0 + 23), (n0 + 24), 1, 1, 1, 1, 1, 0, 1, 1, 0, 1, 1, 1, 1, 1, 0, 1, 1, 1, 0, 1, 0, 1, 1, 1, 1, 1, 0, 1, 0, 1, 1, 1, 1, 1, 1, 1, 1, 1, 1, 0, 0, 0, 1]) X ⟨rfl, rfl⟩ g46 dX12_init_1131 fl_X12_80 ftf_X12_43 rfl ha rfl ?_
  refine k_aload_n X 0 dX12_init_1134 rfl ?_
  refine k_bipush X dX12_init_1135 bi_50 ?_
  refine k_nai X (n0 + 23) rfl (len := 50) dX12_init_1137 q_310 kc_50 rfl (by decide) (by omega) (by omega) fun q47 g48 => ?_
  refine k_putRF2 (ty := (.array .int)) (q := (n0 + 23)) (fs1 := [0, (n0 + 2), (n0 + 3), 0, (n0 + 4), 0, 0, 0, (n0 + 5), (n0 + 6), (n0 + 7), (n0 + 8), (n0 + 9), 0, 0, 0, 0, 0, (n0 + 10), (n0 + 11), (n0 + 12), (n0 + 13), (n0 + 14), (n0 + 15), (n0 + 16), (n0 + 17), 0, 0, 0, (n0 + 18), 0, 0, 0, 0, 0, 0, (n0 + 19), 0, (n0 + 20), 0, (n0 + 21), (n0 + 22), (n0 + 23), (n0 + 24), (n0 + 25), 1, 1, 1, 1, 0, 1, 1, 0, 1, 1, 1, 1, 1, 0, 1, 1, 1, 0, 1, 0, 1, 1, 1, 1, 1, 0, 1, 0, 1, 1, 1, 1, 1, 1, 1, 1, 1, 1, 0, 0, 0, 1]) X ⟨rfl, rfl⟩ g48 dX12_init_1139 fl_X12_83 ftf_X12_44 rfl ha rfl ?_
  refine k_aload_n X 0 dX12_init_1142 rfl ?_
  refine k_bipush X dX12_init_1143 bi_50 ?_
  refine k_nai X (n0 + 24) rfl (len := 50) dX12_init_1145 q_310 kc_50 rfl (by decide) (by omega) (by omega) fun q49 g50 => ?_
  refine k_putRF2 (ty := (.array .int)) (q := (n0 + 24)) (fs1 := [0, (n0 + 2), (n0 + 3), 0, (n0 + 4), 0, 0, 0, (n0 + 5), (n0 + 6), (n0 + 7), (n0 + 8), (n0 + 9), 0, 0, 0, 0, 0, (n0 + 10), (n0 + 11), (n0 + 12), (n0 + 13), (n0 + 14), (n0 + 15), (n0 + 16), (n0 + 17), 0, 0, 0, (n0 + 18), 0, 0, 0, 0, 0, 0, (n0 + 19), 0, (n0 + 20), 0, (n0 + 21), (n0 + 22), (n0 + 23), (n0 + 24), (n0 + 25), (n0 + 26), 1, 1, 1, 0, 1, 1, 0, 1, 1, 1, 1, 1, 0, 1, 1, 1, 0, 1, 0, 1, 1, 1, 1, 1, 0, 1, 0, 1, 1, 1, 1, 1, 1, 1, 1, 1, 1, 0, 0, 0, 1]) X ⟨rfl, rfl⟩ g50 dX12_init_1147 fl_X12_86 ftf_X12_45 rfl ha rfl ?_
  refine k_aload_n X 0 dX12_init_1150 rfl ?_
  refine k_iconst X dX12_init_1151 ?_
  refine k_nai X (n0 + 25) rfl (len := 5) dX12_init_1152 q_310 kc_5 rfl (by decide) (by omega) (by omega) fun q51 g52 => ?_
  refine k_putRF2 (ty := (.array .int)) (q := (n0 + 25)) (fs1 := [0, (n0 + 2), (n0 + 3), 0, (n0 + 4), 0, 0, 0, (n0 + 5), (n0 + 6), (n0 + 7), (n0 + 8), (n0 + 9), 0, 0, 0, 0, 0, (n0 + 10), (n0 + 11), (n0 + 12), (n0 + 13), (n0 + 14), (n0 + 15), (n0 + 16), (n0 + 17), 0, 0, 0, (n0 + 18), 0, 0, 0, 0, 0, 0, (n0 + 19), 0, (n0 + 20), 0, (n0 + 21), (n0 + 22), (n0 + 23), (n0 + 24), (n0 + 25), (n0 + 26), (n0 + 27), 1, 1, 0, 1, 1, 0, 1, 1, 1, 1, 1, 0, 1, 1, 1, 0, 1, 0, 1, 1, 1, 1, 1, 0, 1, 0, 1, 1, 1, 1, 1, 1, 1, 1, 1, 1, 0, 0, 0, 1]) X ⟨rfl, rfl⟩ g52 dX12_init_1154 fl_X12_89 ftf_X12_46 rfl ha rfl ?_
  refine k_aload_n X 0 dX12_init_1157 rfl ?_
  refine k_iconst X dX12_init_1158 ?_
  refine k_nai X (n0 + 26) rfl (len := 5) dX12_init_1159 q_310 kc_5 rfl (by decide) (by omega) (by omega) fun q53 g54 => ?_
  refine k_putRF2 (ty := (.array .int)) (q := (n0 + 26)) (fs1 := [0, (n0 + 2), (n0 + 3), 0, (n0 + 4), 0, 0, 0, (n0 + 5), (n0 + 6), (n0 + 7), (n0 + 8), (n0 + 9), 0, 0, 0, 0, 0, (n0 + 10), (n0 + 11), (n0 + 12), (n0 + 13), (n0 + 14), (n0 + 15), (n0 + 16), (n0 + 17), 0, 0, 0, (n0 + 18), 0, 0, 0, 0, 0, 0, (n0 + 19), 0, (n0 + 20), 0, (n0 + 21), (n0 + 22), (n0 + 23), (n0 + 24), (n0 + 25), (n0 + 26), (n0 + 27), (n0 + 28), 1, 0, 1, 1, 0, 1, 1, 1, 1, 1, 0, 1, 1, 1, 0, 1, 0, 1, 1, 1, 1, 1, 0, 1, 0, 1, 1, 1, 1, 1, 1, 1, 1, 1, 1, 0, 0, 0, 1]) X ⟨rfl, rfl⟩ g54 dX12_init_1161 fl_X12_92 ftf_X12_47 rfl ha rfl ?_
  refine k_aload_n X 0 dX12_init_1164 rfl ?_
  refine k_bipush X dX12_init_1165 bi_9 ?_
  refine k_nai X (n0 + 27) rfl (len := 9) dX12_init_1167 q_310 kc_9 rfl (by decide) (by omega) (by omega) fun q55 g56 => ?_
  refine k_putRF2 (ty := (.array .int)) (q := (n0 + 27)) (fs1 := [0, (n0 + 2), (n0 + 3), 0, (n0 + 4), 0, 0, 0, (n0 + 5), (n0 + 6), (n0 + 7), (n0 + 8), (n0 + 9), 0, 0, 0, 0, 0, (n0 + 10), (n0 + 11), (n0 + 12), (n0 + 13), (n0 + 14), (n0 + 15), (n0 + 16), (n0 + 17), 0, 0, 0, (n0 + 18), 0, 0, 0, 0, 0, 0, (n0 + 19), 0, (n0 + 20), 0, (n0 + 21), (n0 + 22), (n0 + 23), (n0 + 24), (n0 + 25), (n0 + 26), (n0 + 27), (n0 + 28), (n0 + 29), 0, 1, 1, 0, 1, 1, 1, 1, 1, 0, 1, 1, 1, 0, 1, 0, 1, 1, 1, 1, 1, 0, 1, 0, 1, 1, 1, 1, 1, 1, 1, 1, 1, 1, 0, 0, 0, 1]) X ⟨rfl, rfl⟩ g56 dX12_init_1169 fl_X12_95 ftf_X12_48 rfl ha rfl ?_
  refine k_aload_n X 0 dX12_init_1172 rfl ?_
  refine k_iconst X dX12_init_1173 ?_
  refine k_nai X (n0 + 28) rfl (len := 5) dX12_init_1174 q_310 kc_5 rfl (by decide) (by omega) (by omega) fun q57 g58 => ?_
  refine k_putRF2 (ty := (.array .int)) (q := (n0 + 28)) (fs1 := [0, (n0 + 2), (n0 + 3), 0, (n0 + 4), 0, 0, 0, (n0 + 5), (n0 + 6), (n0 + 7), (n0 + 8), (n0 + 9), 0, 0, 0, 0, 0, (n0 + 10), (n0 + 11), (n0 + 12), (n0 + 13), (n0 + 14), (n0 + 15), (n0 + 16), (n0 + 17), 0, 0, 0, (n0 + 18), 0, 0, 0, 0, 0, 0, (n0 + 19), 0, (n0 + 20), 0, (n0 + 21), (n0 + 22), (n0 + 23), (n0 + 24), (n0 + 25), (n0 + 26), (n0 + 27), (n0 + 28), (n0 + 29), 0, (n0 + 30), 1, 0, 1, 1, 1, 1, 1, 0, 1, 1, 1, 0, 1, 0, 1, 1, 1, 1, 1, 0, 1, 0, 1, 1, 1, 1, 1, 1, 1, 1, 1, 1, 0, 0, 0, 1]) X ⟨rfl, rfl⟩ g58 dX12_init_1176 fl_X12_98 ftf_X12_50 rfl ha rfl ?_
  refine k_aload_n X 0 dX12_init_1179 rfl ?_
  refine k_iconst X dX12_init_1180 ?_
  refine k_nai X (n0 + 29) rfl (len := 5) dX12_init_1181 q_310 kc_5 rfl (by decide) (by omega) (by omega) fun q59 g60 => ?_
  refine k_putRF2 (ty := (.array .int)) (q := (n0 + 29)) (fs1 := [0, (n0 + 2), (n0 + 3), 0, (n0 + 4), 0, 0, 0, (n0 + 5), (n0 + 6), (n0 + 7), (n0 + 8), (n0 + 9), 0, 0, 0, 0, 0, (n0 + 10), (n0 + 11), (n0 + 12), (n0 + 13), (n0 + 14), (n0 + 15), (n0 + 16), (n0 + 17), 0, 0, 0, (n0 + 18), 0, 0, 0, 0, 0, 0, (n0 + 19), 0, (n0 + 20), 0, (n0 + 21), (n0 + 22), (n0 + 23), (n0 + 24), (n0 + 25), (n0 + 26), (n0 + 27), (n0 + 28), (n0 + 29), 0, (n0 + 30), (n0 + 31), 0, 1, 1, 1, 1, 1, 0, 1, 1, 1, 0, 1, 0, 1, 1, 1, 1, 1, 0, 1, 0, 1, 1, 1, 1, 1, 1, 1, 1, 1, 1, 0, 0, 0, 1]) X ⟨rfl, rfl⟩ g60 dX12_init_1183 fl_X12_101 ftf_X12_51 rfl ha rfl ?_
  refine k_aload_n X 0 dX12_init_1186 rfl ?_
  refine k_bipush X dX12_init_1187 bi_12 ?_
  refine k_nai X (n0 + 30) rfl (len := 12) dX12_init_1189 q_310 kc_12 rfl (by decide) (by omega) (by omega) fun q61 g62 => ?_
  refine k_putRF2 (ty := (.array .int)) (q := (n0 + 30)) (fs1 := [0, (n0 + 2), (n0 + 3), 0, (n0 + 4), 0, 0, 0, (n0 + 5), (n0 + 6), (n0 + 7), (n0 + 8), (n0 + 9), 0, 0, 0, 0, 0, (n0 + 10), (n0 + 11), (n0 + 12), (n0 + 13), (n0 + 14), (n0 + 15), (n0 + 16), (n0 + 17), 0, 0, 0, (n0 + 18), 0, 0, 0, 0, 0, 0, (n0 + 19), 0, (n0 + 20), 0, (n0 + 21), (n0 + 22), (n0 + 23), (n0 + 24), (n0 + 25), (n0 + 26), (n0 + 27), (n0 + 28), (n0 + 29), 0, (n0 + 30), (n0 + 31), 0, (n0 + 32), 1, 1, 1, 1, 0, 1, 1, 1, 0, 1, 0, 1, 1, 1, 1, 1, 0, 1, 0, 1, 1, 1, 1, 1, 1, 1, 1, 1, 1, 0, 0, 0, 1]) X ⟨rfl, rfl⟩ g62 dX12_init_1191 fl_X12_104 ftf_X12_53 rfl ha rfl ?_
  refine k_aload_n X 0 dX12_init_1194 rfl ?_
  refine k_bipush X dX12_init_1195 bi_12 ?_
  refine k_nai X (n0 + 31) rfl (len := 12) dX12_init_1197 q_310 kc_12 rfl (by decide) (by omega) (by omega) fun q63 g64 => ?_
  refine k_putRF2 (ty := (.array .int)) (q := (n0 + 31)) (fs1 := [0, (n0 + 2), (n0 + 3), 0, (n0 + 4), 0, 0, 0, (n0 + 5), (n0 + 6), (n0 + 7), (n0 + 8), (n0 + 9), 0, 0, 0, 0, 0, (n0 + 10), (n0 + 11), (n0 + 12), (n0 + 13), (n0 + 14), (n0 + 15), (n0 + 16), (n0 + 17), 0, 0, 0, (n0 + 18), 0, 0, 0, 0, 0, 0, (n0 + 19), 0, (n0 + 20), 0, (n0 + 21), (n0 + 22), (n0 + 23), (n0 + 24), (n0 + 25), (n0 + 26), (n0 + 27), (n0 + 28), (n0 + 29), 0, (n0 + 30), (n0 + 31), 0, (n0 + 32), (n0 + 33), 1, 1, 1, 0, 1, 1, 1, 0, 1, 0, 1, 1, 1, 1, 1, 0, 1, 0, 1, 1, 1, 1, 1, 1, 1, 1, 1, 1, 0, 0, 0, 1]) X ⟨rfl, rfl⟩ g64 dX12_init_1199 fl_X12_107 ftf_X12_54 rfl ha rfl ?_
  refine k_aload_n X 0 dX12_init_1202 rfl ?_
  refine k_bipush X dX12_init_1203 bi_12 ?_
  refine k_nai X (n0 + 32) rfl (len := 12) dX12_init_1205 q_310 kc_12 rfl (by decide) (by omega) (by omega) fun q65 g66 => ?_
  refine k_putRF2 (ty := (.array .int)) (q := (n0 + 32)) (fs1 := [0, (n0 + 2), (n0 + 3), 0, (n0 + 4), 0, 0, 0, (n0 + 5), (n0 + 6), (n0 + 7), (n0 + 8), (n0 + 9), 0, 0, 0, 0, 0, (n0 + 10), (n0 + 11), (n0 + 12), (n0 + 13), (n0 + 14), (n0 + 15), (n0 + 16), (n0 + 17), 0, 0, 0, (n0 + 18), 0, 0, 0, 0, 0, 0, (n0 + 19), 0, (n0 + 20), 0, (n0 + 21), (n0 + 22), (n0 + 23), (n0 + 24), (n0 + 25), (n0 + 26), (n0 + 27), (n0 + 28), (n0 + 29), 0, (n0 + 30), (n0 + 31), 0, (n0 + 32), (n0 + 33), (n0 + 34), 1, 1, 0, 1, 1, 1, 0, 1, 0, 1, 1, 1, 1, 1, 0, 1, 0, 1, 1, 1, 1, 1, 1, 1, 1, 1, 1, 0, 0, 0, 1]) X ⟨rfl, rfl⟩ g66 dX12_init_1207 fl_X12_110 ftf_X12_55 rfl ha rfl ?_
  refine k_aload_n X 0 dX12_init_1210 rfl ?_
  refine k_bipush X dX12_init_1211 bi_12 ?_
  refine k_nai X (n0 + 33) rfl (len := 12) dX12_init_1213 q_310 kc_12 rfl (by decide) (by omega) (by omega) fun q67 g68 => ?_
  refine k_putRF2 (ty := (.array .int)) (q := (n0 + 33)) (fs1 := [0, (n0 + 2), (n0 + 3), 0, (n0 + 4), 0, 0, 0, (n0 + 5), (n0 + 6), (n0 + 7), (n0 + 8), (n0 + 9), 0, 0, 0, 0, 0, (n0 + 10), (n0 + 11), (n0 + 12), (n0 + 13), (n0 + 14), (n0 + 15), (n0 + 16), (n0 + 17), 0, 0, 0, (n0 + 18), 0, 0, 0, 0, 0, 0, (n0 + 19), 0, (n0 + 20), 0, (n0 + 21), (n0 + 22), (n0 + 23), (n0 + 24), (n0 + 25), (n0 + 26), (n0 + 27), (n0 + 28), (n0 + 29), 0, (n0 + 30), (n0 + 31), 0, (n0 + 32), (n0 + 33), (n0 + 34), (n0 + 35), 1, 0, 1, 1, 1, 0, 1, 0, 1, 1, 1, 1, 1, 0, 1, 0, 1, 1, 1, 1, 1, 1, 1, 1, 1, 1, 0, 0, 0, 1]) X ⟨rfl, rfl⟩ g68 dX12_init_1215 fl_X12_113 ftf_X12_56 rfl ha rfl ?_
  refine k_aload_n X 0 dX12_init_1218 rfl ?_
  refine k_bipush X dX12_init_1219 bi_8 ?_
  refine k_nai X (n0 + 34) rfl (len := 8) dX12_init_1221 q_310 kc_8 rfl (by decide) (by omega) (by omega) fun q69 g70 => ?_
  refine k_putRF2 (ty := (.array .int)) (q := (n0 + 34)) (fs1 := [0, (n0 + 2), (n0 + 3), 0, (n0 + 4), 0, 0, 0, (n0 + 5), (n0 + 6), (n0 + 7), (n0 + 8), (n0 + 9), 0, 0, 0, 0, 0, (n0 + 10), (n0 + 11), (n0 + 12), (n0 + 13), (n0 + 14), (n0 + 15), (n0 + 16), (n0 + 17), 0, 0, 0, (n0 + 18), 0, 0, 0, 0, 0, 0, (n0 + 19), 0, (n0 + 20), 0, (n0 + 21), (n0 + 22), (n0 + 23), (n0 + 24), (n0 + 25), (n0 + 26), (n0 + 27), (n0 + 28), (n0 + 29), 0, (n0 + 30), (n0 + 31), 0, (n0 + 32), (n0 + 33), (n0 + 34), (n0 + 35), (n0 + 36), 0, 1, 1, 1, 0, 1, 0, 1, 1, 1, 1, 1, 0, 1, 0, 1, 1, 1, 1, 1, 1, 1, 1, 1, 1, 0, 0, 0, 1]) X ⟨rfl, rfl⟩ g70 dX12_init_1223 fl_X12_116 ftf_X12_57 rfl ha rfl ?_
  refine k_aload_n X 0 dX12_init_1226 rfl ?_
  refine k_bipush X dX12_init_1227 bi_8 ?_
  refine k_nai X (n0 + 35) rfl (len := 8) dX12_init_1229 q_310 kc_8 rfl (by decide) (by omega) (by omega) fun q71 g72 => ?_
  refine k_putRF2 (ty := (.array .int)) (q := (n0 + 35)) (fs1 := [0, (n0 + 2), (n0 + 3), 0, (n0 + 4), 0, 0, 0, (n0 + 5), (n0 + 6), (n0 + 7), (n0 + 8), (n0 + 9), 0, 0, 0, 0, 0, (n0 + 10), (n0 + 11), (n0 + 12), (n0 + 13), (n0 + 14), (n0 + 15), (n0 + 16), (n0 + 17), 0, 0, 0, (n0 + 18), 0, 0, 0, 0, 0, 0, (n0 + 19), 0, (n0 + 20), 0, (n0 + 21), (n0 + 22), (n0 + 23), (n0 + 24), (n0 + 25), (n0 + 26), (n0 + 27), (n0 + 28), (n0 + 29), 0, (n0 + 30), (n0 + 31), 0, (n0 + 32), (n0 + 33), (n0 + 34), (n0 + 35), (n0 + 36), 0, (n0 + 37), 1, 1, 0, 1, 0, 1, 1, 1, 1, 1, 0, 1, 0, 1, 1, 1, 1, 1, 1, 1, 1, 1, 1, 0, 0, 0, 1]) X ⟨rfl, rfl⟩ g72 dX12_init_1231 fl_X12_119 ftf_X12_59 rfl ha rfl ?_
  refine k_aload_n X 0 dX12_init_1234 rfl ?_
  refine k_sipush X dX12_init_1235 si_256 ?_
  refine k_nai X (n0 + 36) rfl (len := 256) dX12_init_1238 q_310 kc_256 rfl (by decide) (by omega) (by omega) fun q73 g74 => ?_
  refine k_putRF2 (ty := (.array .int)) (q := (n0 + 36)) (fs1 := [0, (n0 + 2), (n0 + 3), 0, (n0 + 4), 0, 0, 0, (n0 + 5), (n0 + 6), (n0 + 7), (n0 + 8), (n0 + 9), 0, 0, 0, 0, 0, (n0 + 10), (n0 + 11), (n0 + 12), (n0 + 13), (n0 + 14), (n0 + 15), (n0 + 16), (n0 + 17), 0, 0, 0, (n0 + 18), 0, 0, 0, 0, 0, 0, (n0 + 19), 0, (n0 + 20), 0, (n0 + 21), (n0 + 22), (n0 + 23), (n0 + 24), (n0 + 25), (n0 + 26), (n0 + 27), (n0 + 28), (n0 + 29), 0, (n0 + 30), (n0 + 31), 0, (n0 + 32), (n0 + 33), (n0 + 34), (n0 + 35), (n0 + 36), 0, (n0 + 37), (n0 + 38), 1, 0, 1, 0, 1, 1, 1, 1, 1, 0, 1, 0, 1, 1, 1, 1, 1, 1, 1, 1, 1, 1, 0, 0, 0, 1]) X ⟨rfl, rfl⟩ g74 dX12_init_1240 fl_X12_122 ftf_X12_60 rfl ha rfl ?_
  refine k_aload_n X 0 dX12_init_1243 rfl ?_
  refine k_iconst X dX12_init_1244 ?_
  refine k_nai X (n0 + 37) rfl (len := 4) dX12_init_1245 q_310 kc_4 rfl (by decide) (by omega) (by omega) fun q75 g76 => ?_
  refine k_putRF2 (ty := (.array .int)) (q := (n0 + 37)) (fs1 := [0, (n0 + 2), (n0 + 3), 0, (n0 + 4), 0, 0, 0, (n0 + 5), (n0 + 6), (n0 + 7), (n0 + 8), (n0 + 9), 0, 0, 0, 0, 0, (n0 + 10), (n0 + 11), (n0 + 12), (n0 + 13), (n0 + 14), (n0 + 15), (n0 + 16), (n0 + 17), 0, 0, 0, (n0 + 18), 0, 0, 0, 0, 0, 0, (n0 + 19), 0, (n0 + 20), 0, (n0 + 21), (n0 + 22), (n0 + 23), (n0 + 24), (n0 + 25), (n0 + 26), (n0 + 27), (n0 + 28), (n0 + 29), 0, (n0 + 30), (n0 + 31), 0, (n0 + 32), (n0 + 33), (n0 + 34), (n0 + 35), (n0 + 36), 0, (n0 + 37), (n0 + 38), (n0 + 39), 0, 1, 0, 1, 1, 1, 1, 1, 0, 1, 0, 1, 1, 1, 1, 1, 1, 1, 1, 1, 1, 0, 0, 0, 1]) X ⟨rfl, rfl⟩ g76 dX12_init_1247 fl_X12_125 ftf_X12_61 rfl ha rfl ?_
  refine k_aload_n X 0 dX12_init_1250 rfl ?_
  refine k_bipush X dX12_init_1251 bi_12 ?_
  refine k_nai X (n0 + 38) rfl (len := 12) dX12_init_1253 q_310 kc_12 rfl (by decide) (by omega) (by omega) fun q77 g78 => ?_
  refine k_putRF2 (ty := (.array .int)) (q := (n0 + 38)) (fs1 := [0, (n0 + 2), (n0 + 3), 0, (n0 + 4), 0, 0, 0, (n0 + 5), (n0 + 6), (n0 + 7), (n0 + 8), (n0 + 9), 0, 0, 0, 0, 0, (n0 + 10), (n0 + 11), (n0 + 12), (n0 + 13), (n0 + 14), (n0 + 15), (n0 + 16), (n0 + 17), 0, 0, 0, (n0 + 18), 0, 0, 0, 0, 0, 0, (n0 + 19), 0, (n0 + 20), 0, (n0 + 21), (n0 + 22), (n0 + 23), (n0 + 24), (n0 + 25), (n0 + 26), (n0 + 27), (n0 + 28), (n0 + 29), 0, (n0 + 30), (n0 + 31), 0, (n0 + 32), (n0 + 33), (n0 + 34), (n0 + 35), (n0 + 36), 0, (n0 + 37), (n0 + 38), (n0 + 39), 0, (n0 + 40), 0, 1, 1, 1, 1, 1, 0, 1, 0, 1, 1, 1, 1, 1, 1, 1, 1, 1, 1, 0, 0, 0, 1]) X ⟨rfl, rfl⟩ g78 dX12_init_1255 fl_X12_128 ftf_X12_63 rfl ha rfl ?_
  refine k_aload_n X 0 dX12_init_1258 rfl ?_
  refine k_bipush X dX12_init_1259 bi_24 ?_
  refine k_nai X (n0 + 39) rfl (len := 24) dX12_init_1261 q_310 kc_24 rfl (by decide) (by omega) (by omega) fun q79 g80 => ?_
  refine k_putRF2 (ty := (.array .int)) (q := (n0 + 39)) (fs1 := [0, (n0 + 2), (n0 + 3), 0, (n0 + 4), 0, 0, 0, (n0 + 5), (n0 + 6), (n0 + 7), (n0 + 8), (n0 + 9), 0, 0, 0, 0, 0, (n0 + 10), (n0 + 11), (n0 + 12), (n0 + 13), (n0 + 14), (n0 + 15), (n0 + 16), (n0 + 17), 0, 0, 0, (n0 + 18), 0, 0, 0, 0, 0, 0, (n0 + 19), 0, (n0 + 20), 0, (n0 + 21), (n0 + 22), (n0 + 23), (n0 + 24), (n0 + 25), (n0 + 26), (n0 + 27), (n0 + 28), (n0 + 29), 0, (n0 + 30), (n0 + 31), 0, (n0 + 32), (n0 + 33), (n0 + 34), (n0 + 35), (n0 + 36), 0, (n0 + 37), (n0 + 38), (n0 + 39), 0, (n0 + 40), 0, (n0 + 41), 1, 1, 1, 1, 0, 1, 0, 1, 1, 1, 1, 1, 1, 1, 1, 1, 1, 0, 0, 0, 1]) X ⟨rfl, rfl⟩ g80 dX12_init_1263 fl_X12_131 ftf_X12_65 rfl ha rfl ?_
  refine k_aload_n X 0 dX12_init_1266 rfl ?_
  refine k_bipush X dX12_init_1267 bi_16 ?_
  refine k_nai X (n0 + 40) rfl (len := 16) dX12_init_1269 q_310 kc_16 rfl (by decide) (by omega) (by omega) fun q81 g82 => ?_
  refine k_putRF2 (ty := (.array .int)) (q := (n0 + 40)) (fs1 := [0, (n0 + 2), (n0 + 3), 0, (n0 + 4), 0, 0, 0, (n0 + 5), (n0 + 6), (n0 + 7), (n0 + 8), (n0 + 9), 0, 0, 0, 0, 0, (n0 + 10), (n0 + 11), (n0 + 12), (n0 + 13), (n0 + 14), (n0 + 15), (n0 + 16), (n0 + 17), 0, 0, 0, (n0 + 18), 0, 0, 0, 0, 0, 0, (n0 + 19), 0, (n0 + 20), 0, (n0 + 21), (n0 + 22), (n0 + 23), (n0 + 24), (n0 + 25), (n0 + 26), (n0 + 27), (n0 + 28), (n0 + 29), 0, (n0 + 30), (n0 + 31), 0, (n0 + 32), (n0 + 33), (n0 + 34), (n0 + 35), (n0 + 36), 0, (n0 + 37), (n0 + 38), (n0 + 39), 0, (n0 + 40), 0, (n0 + 41), (n0 + 42), 1, 1, 1, 0, 1, 0, 1, 1, 1, 1, 1, 1, 1, 1, 1, 1, 0, 0, 0, 1]) X ⟨rfl, rfl⟩ g82 dX12_init_1271 fl_X12_134 ftf_X12_66 rfl ha rfl ?_
  refine k_aload_n X 0 dX12_init_1274 rfl ?_
  refine k_iconst X dX12_init_1275 ?_
  refine k_nai X (n0 + 41) rfl (len := 3) dX12_init_1276 q_310 kc_3 rfl (by decide) (by omega) (by omega) fun q83 g84 => ?_
  refine k_putRF2 (ty := (.array .int)) (q := (n0 + 41)) (fs1 := [0, (n0 + 2), (n0 + 3), 0, (n0 + 4), 0, 0, 0, (n0 + 5), (n0 + 6), (n0 + 7), (n0 + 8), (n0 + 9), 0, 0, 0, 0, 0, (n0 + 10), (n0 + 11), (n0 + 12), (n0 + 13), (n0 + 14), (n0 + 15), (n0 + 16), (n0 + 17), 0, 0, 0, (n0 + 18), 0, 0, 0, 0, 0, 0, (n0 + 19), 0, (n0 + 20), 0, (n0 + 21), (n0 + 22), (n0 + 23), (n0 + 24), (n0 + 25), (n0 + 26), (n0 + 27), (n0 + 28), (n0 + 29), 0, (n0 + 30), (n0 + 31), 0, (n0 + 32), (n0 + 33), (n0 + 34), (n0 + 35), (n0 + 36), 0, (n0 + 37), (n0 + 38), (n0 + 39), 0, (n0 + 40), 0, (n0 + 41), (n0 + 42), (n0 + 43), 1, 1, 0, 1, 0, 1, 1, 1, 1, 1, 1, 1, 1, 1, 1, 0, 0, 0, 1]) X ⟨rfl, rfl⟩ g84 dX12_init_1278 fl_X12_137 ftf_X12_67 rfl ha rfl ?_
  refine k_aload_n X 0 dX12_init_1281 rfl ?_
  refine k_bipush X dX12_init_1282 bi_72 ?_
  refine k_nai X (n0 + 42) rfl (len := 72) dX12_init_1284 q_310 kc_72 rfl (by decide) (by omega) (by omega) fun q85 g86 => ?_
  refine k_putRF2 (ty := (.array .int)) (q := (n0 + 42)) (fs1 := [0, (n0 + 2), (n0 + 3), 0, (n0 + 4), 0, 0, 0, (n0 + 5), (n0 + 6), (n0 + 7), (n0 + 8), (n0 + 9), 0, 0, 0, 0, 0, (n0 + 10), (n0 + 11), (n0 + 12), (n0 + 13), (n0 + 14), (n0 + 15), (n0 + 16), (n0 + 17), 0, 0, 0, (n0 + 18), 0, 0, 0, 0, 0, 0, (n0 + 19), 0, (n0 + 20), 0, (n0 + 21), (n0 + 22), (n0 + 23), (n0 + 24), (n0 + 25), (n0 + 26), (n0 + 27), (n0 + 28), (n0 + 29), 0, (n0 + 30), (n0 + 31), 0, (n0 + 32), (n0 + 33), (n0 + 34), (n0 + 35), (n0 + 36), 0, (n0 + 37), (n0 + 38), (n0 + 39), 0, (n0 + 40), 0, (n0 + 41), (n0 + 42), (n0 + 43), (n0 + 44), 1, 0, 1, 0, 1, 1, 1, 1, 1, 1, 1, 1, 1, 1, 0, 0, 0, 1]) X ⟨rfl, rfl⟩ g86 dX12_init_1286 fl_X12_140 ftf_X12_68 rfl ha rfl ?_
  refine k_aload_n X 0 dX12_init_1289 rfl ?_
  refine k_sipush X dX12_init_1290 si_169 ?_
  refine k_nai X (n0 + 43) rfl (len := 169) dX12_init_1293 q_310 kc_169 rfl (by decide) (by omega) (by omega) fun q87 g88 => ?_
  refine k_putRF2 (ty := (.array .int)) (q := (n0 + 43)) (fs1 := [0, (n0 + 2), (n0 + 3), 0, (n0 + 4), 0, 0, 0, (n0 + 5), (n0 + 6), (n0 + 7), (n0 + 8), (n0 + 9), 0, 0, 0, 0, 0, (n0 + 10), (n0 + 11), (n0 + 12), (n0 + 13), (n0 + 14), (n0 + 15), (n0 + 16), (n0 + 17), 0, 0, 0, (n0 + 18), 0, 0, 0, 0, 0, 0, (n0 + 19), 0, (n0 + 20), 0, (n0 + 21), (n0 + 22), (n0 + 23), (n0 + 24), (n0 + 25), (n0 + 26), (n0 + 27), (n0 + 28), (n0 + 29), 0, (n0 + 30), (n0 + 31), 0, (n0 + 32), (n0 + 33), (n0 + 34), (n0 + 35), (n0 + 36), 0, (n0 + 37), (n0 + 38), (n0 + 39), 0, (n0 + 40), 0, (n0 + 41), (n0 + 42), (n0 + 43), (n0 + 44), (n0 + 45), 0, 1, 0, 1, 1, 1, 1, 1, 1, 1, 1, 1, 1, 0, 0, 0, 1]) X ⟨rfl, rfl⟩ g88 dX12_init_1295 fl_X12_143 ftf_X12_69 rfl ha rfl ?_
  refine k_aload_n X 0 dX12_init_1298 rfl ?_
  refine k_bipush X dX12_init_1299 bi_8 ?_
  refine k_nai X (n0 + 44) rfl (len := 8) dX12_init_1301 q_310 kc_8 rfl (by decide) (by omega) (by omega) fun q89 g90 => ?_
  refine k_putRF2 (ty := (.array .int)) (q := (n0 + 44)) (fs1 := [0, (n0 + 2), (n0 + 3), 0, (n0 + 4), 0, 0, 0, (n0 + 5), (n0 + 6), (n0 + 7), (n0 + 8), (n0 + 9), 0, 0, 0, 0, 0, (n0 + 10), (n0 + 11), (n0 + 12), (n0 + 13), (n0 + 14), (n0 + 15), (n0 + 16), (n0 + 17), 0, 0, 0, (n0 + 18), 0, 0, 0, 0, 0, 0, (n0 + 19), 0, (n0 + 20), 0, (n0 + 21), (n0 + 22), (n0 + 23), (n0 + 24), (n0 + 25), (n0 + 26), (n0 + 27), (n0 + 28), (n0 + 29), 0, (n0 + 30), (n0 + 31), 0, (n0 + 32), (n0 + 33), (n0 + 34), (n0 + 35), (n0 + 36), 0, (n0 + 37), (n0 + 38), (n0 + 39), 0, (n0 + 40), 0, (n0 + 41), (n0 + 42), (n0 + 43), (n0 + 44), (n0 + 45), 0, (n0 + 46), 0, 1, 1, 1, 1, 1, 1, 1, 1, 1, 1, 0, 0, 0, 1]) X ⟨rfl, rfl⟩ g90 dX12_init_1303 fl_X12_146 ftf_X12_71 rfl ha rfl ?_
  refine k_aload_n X 0 dX12_init_1306 rfl ?_
  refine k_bipush X dX12_init_1307 bi_8 ?_
  refine k_nai X (n0 + 45) rfl (len := 8) dX12_init_1309 q_310 kc_8 rfl (by decide) (by omega) (by omega) fun q91 g92 => ?_
  refine k_putRF2 (ty := (.array .int)) (q := (n0 + 45)) (fs1 := [0, (n0 + 2), (n0 + 3), 0, (n0 + 4), 0, 0, 0, (n0 + 5), (n0 + 6), (n0 + 7), (n0 + 8), (n0 + 9), 0, 0, 0, 0, 0, (n0 + 10), (n0 + 11), (n0 + 12), (n0 + 13), (n0 + 14), (n0 + 15), (n0 + 16), (n0 + 17), 0, 0, 0, (n0 + 18), 0, 0, 0, 0, 0, 0, (n0 + 19), 0, (n0 + 20), 0, (n0 + 21), (n0 + 22), (n0 + 23), (n0 + 24), (n0 + 25), (n0 + 26), (n0 + 27), (n0 + 28), (n0 + 29), 0, (n0 + 30), (n0 + 31), 0, (n0 + 32), (n0 + 33), (n0 + 34), (n0 + 35), (n0 + 36), 0, (n0 + 37), (n0 + 38), (n0 + 39), 0, (n0 + 40), 0, (n0 + 41), (n0 + 42), (n0 + 43), (n0 + 44), (n0 + 45), 0, (n0 + 46), 0, (n0 + 47), 1, 1, 1, 1, 1, 1, 1, 1, 1, 0, 0, 0, 1]) X ⟨rfl, rfl⟩ g92 dX12_init_1311 fl_X12_149 ftf_X12_73 rfl ha rfl ?_
  refine k_aload_n X 0 dX12_init_1314 rfl ?_
  refine k_sipush X dX12_init_1315 si_2048 ?_
  refine k_nai X (n0 + 46) rfl (len := 2048) dX12_init_1318 q_310 kc_2048 rfl (by decide) (by omega) (by omega) fun q93 g94 => ?_
  refine k_putRF2 (ty := (.array .int)) (q := (n0 + 46)) (fs1 := [0, (n0 + 2), (n0 + 3), 0, (n0 + 4), 0, 0, 0, (n0 + 5), (n0 + 6), (n0 + 7), (n0 + 8), (n0 + 9), 0, 0, 0, 0, 0, (n0 + 10), (n0 + 11), (n0 + 12), (n0 + 13), (n0 + 14), (n0 + 15), (n0 + 16), (n0 + 17), 0, 0, 0, (n0 + 18), 0, 0, 0, 0, 0, 0, (n0 + 19), 0, (n0 + 20), 0, (n0 + 21), (n0 + 22), (n0 + 23), (n0 + 24), (n0 + 25), (n0 + 26), (n0 + 27), (n0 + 28), (n0 + 29), 0, (n0 + 30), (n0 + 31), 0, (n0 + 32), (n0 + 33), (n0 + 34), (n0 + 35), (n0 + 36), 0, (n0 + 37), (n0 + 38), (n0 + 39), 0, (n0 + 40), 0, (n0 + 41), (n0 + 42), (n0 + 43), (n0 + 44), (n0 + 45), 0, (n0 + 46), 0, (n0 + 47), (n0 + 48), 1, 1, 1, 1, 1, 1, 1, 1, 0, 0, 0, 1]) X ⟨rfl, rfl⟩ g94 dX12_init_1320 fl_X12_152 ftf_X12_74 rfl ha rfl ?_
  refine k_aload_n X 0 dX12_init_1323 rfl ?_
  refine k_bipush X dX12_init_1324 bi_12 ?_
  refine k_nai X (n0 + 47) rfl (len := 12) dX12_init_1326 q_310 kc_12 rfl (by decide) (by omega) (by omega) fun q95 g96 => ?_
  refine k_putRF2 (ty := (.array .int)) (q := (n0 + 47)) (fs1 := [0, (n0 + 2), (n0 + 3), 0, (n0 + 4), 0, 0, 0, (n0 + 5), (n0 + 6), (n0 + 7), (n0 + 8), (n0 + 9), 0, 0, 0, 0, 0, (n0 + 10), (n0 + 11), (n0 + 12), (n0 + 13), (n0 + 14), (n0 + 15), (n0 + 16), (n0 + 17), 0, 0, 0, (n0 + 18), 0, 0, 0, 0, 0, 0, (n0 + 19), 0, (n0 + 20), 0, (n0 + 21), (n0 + 22), (n0 + 23), (n0 + 24), (n0 + 25), (n0 + 26), (n0 + 27), (n0 + 28), (n0 + 29), 0, (n0 + 30), (n0 + 31), 0, (n0 + 32), (n0 + 33), (n0 + 34), (n0 + 35), (n0 + 36), 0, (n0 + 37), (n0 + 38), (n0 + 39), 0, (n0 + 40), 0, (n0 + 41), (n0 + 42), (n0 + 43), (n0 + 44), (n0 + 45), 0, (n0 + 46), 0, (n0 + 47), (n0 + 48), (n0 + 49), 1, 1, 1, 1, 1, 1, 1, 0, 0, 0, 1]) X ⟨rfl, rfl⟩ g96 dX12_init_1328 fl_X12_155 ftf_X12_75 rfl ha rfl ?_
  refine k_aload_n X 0 dX12_init_1331 rfl ?_
  refine k_bipush X dX12_init_1332 bi_41 ?_
  refine k_nai X (n0 + 48) rfl (len := 41) dX12_init_1334 q_310 kc_41 rfl (by decide) (by omega) (by omega) fun q97 g98 => ?_
  refine k_putRF2 (ty := (.array .int)) (q := (n0 + 48)) (fs1 := [0, (n0 + 2), (n0 + 3), 0, (n0 + 4), 0, 0, 0, (n0 + 5), (n0 + 6), (n0 + 7), (n0 + 8), (n0 + 9), 0, 0, 0, 0, 0, (n0 + 10), (n0 + 11), (n0 + 12), (n0 + 13), (n0 + 14), (n0 + 15), (n0 + 16), (n0 + 17), 0, 0, 0, (n0 + 18), 0, 0, 0, 0, 0, 0, (n0 + 19), 0, (n0 + 20), 0, (n0 + 21), (n0 + 22), (n0 + 23), (n0 + 24), (n0 + 25), (n0 + 26), (n0 + 27), (n0 + 28), (n0 + 29), 0, (n0 + 30), (n0 + 31), 0, (n0 + 32), (n0 + 33), (n0 + 34), (n0 + 35), (n0 + 36), 0, (n0 + 37), (n0 + 38), (n0 + 39), 0, (n0 + 40), 0, (n0 + 41), (n0 + 42), (n0 + 43), (n0 + 44), (n0 + 45), 0, (n0 + 46), 0, (n0 + 47), (n0 + 48), (n0 + 49), (n0 + 50), 1, 1, 1, 1, 1, 1, 0, 0, 0, 1]) X ⟨rfl, rfl⟩ g98 dX12_init_1336 fl_X12_158 ftf_X12_76 rfl ha rfl ?_
  refine k_aload_n X 0 dX12_init_1339 rfl ?_
  refine k_iconst X dX12_init_1340 ?_
  refine k_nai X (n0 + 49) rfl (len := 3) dX12_init_1341 q_310 kc_3 rfl (by decide) (by omega) (by omega) fun q99 g100 => ?_
  refine k_putRF2 (ty := (.array .int)) (q := (n0 + 49)) (fs1 := [0, (n0 + 2), (n0 + 3), 0, (n0 + 4), 0, 0, 0, (n0 + 5), (n0 + 6), (n0 + 7), (n0 + 8), (n0 + 9), 0, 0, 0, 0, 0, (n0 + 10), (n0 + 11), (n0 + 12), (n0 + 13), (n0 + 14), (n0 + 15), (n0 + 16), (n0 + 17), 0, 0, 0, (n0 + 18), 0, 0, 0, 0, 0, 0, (n0 + 19), 0, (n0 + 20), 0, (n0 + 21), (n0 + 22), (n0 + 23), (n0 + 24), (n0 + 25), (n0 + 26), (n0 + 27), (n0 + 28), (n0 + 29), 0, (n0 + 30), (n0 + 31), 0, (n0 + 32), (n0 + 33), (n0 + 34), (n0 + 35), (n0 + 36), 0, (n0 + 37), (n0 + 38), (n0 + 39), 0, (n0 + 40), 0, (n0 + 41), (n0 + 42), (n0 + 43), (n0 + 44), (n0 + 45), 0, (n0 + 46), 0, (n0 + 47), (n0 + 48), (n0 + 49), (n0 + 50), (n0 + 51), 1, 1, 1, 1, 1, 0, 0, 0, 1]) X ⟨rfl, rfl⟩ g100 dX12_init_1343 fl_X12_161 ftf_X12_77 rfl ha rfl ?_
  refine k_aload_n X 0 dX12_init_1346 rfl ?_
  refine k_iconst X dX12_init_1347 ?_
  refine k_nai X (n0 + 50) rfl (len := 3) dX12_init_1348 q_310 kc_3 rfl (by decide) (by omega) (by omega) fun q101 g102 => ?_
  refine k_putRF2 (ty := (.array .int)) (q := (n0 + 50)) (fs1 := [0, (n0 + 2), (n0 + 3), 0, (n0 + 4), 0, 0, 0, (n0 + 5), (n0 + 6), (n0 + 7), (n0 + 8), (n0 + 9), 0, 0, 0, 0, 0, (n0 + 10), (n0 + 11), (n0 + 12), (n0 + 13), (n0 + 14), (n0 + 15), (n0 + 16), (n0 + 17), 0, 0, 0, (n0 + 18), 0, 0, 0, 0, 0, 0, (n0 + 19), 0, (n0 + 20), 0, (n0 + 21), (n0 + 22), (n0 + 23), (n0 + 24), (n0 + 25), (n0 + 26), (n0 + 27), (n0 + 28), (n0 + 29), 0, (n0 + 30), (n0 + 31), 0, (n0 + 32), (n0 + 33), (n0 + 34), (n0 + 35), (n0 + 36), 0, (n0 + 37), (n0 + 38), (n0 + 39), 0, (n0 + 40), 0, (n0 + 41), (n0 + 42), (n0 + 43), (n0 + 44), (n0 + 45), 0, (n0 + 46), 0, (n0 + 47), (n0 + 48), (n0 + 49), (n0 + 50), (n0 + 51), (n0 + 52), 1, 1, 1, 1, 0, 0, 0, 1]) X ⟨rfl, rfl⟩ g102 dX12_init_1350 fl_X12_164 ftf_X12_78 rfl ha rfl ?_
  refine k_aload_n X 0 dX12_init_1353 rfl ?_
  refine k_sipush X dX12_init_1354 si_2197 ?_
  refine k_nai X (n0 + 51) rfl (len := 2197) dX12_init_1357 q_310 kc_2197 rfl (by decide) (by omega) (by omega) fun q103 g104 => ?_
  refine k_putRF2 (ty := (.array .int)) (q := (n0 + 51)) (fs1 := [0, (n0 + 2), (n0 + 3), 0, (n0 + 4), 0, 0, 0, (n0 + 5), (n0 + 6), (n0 + 7), (n0 + 8), (n0 + 9), 0, 0, 0, 0, 0, (n0 + 10), (n0 + 11), (n0 + 12), (n0 + 13), (n0 + 14), (n0 + 15), (n0 + 16), (n0 + 17), 0, 0, 0, (n0 + 18), 0, 0, 0, 0, 0, 0, (n0 + 19), 0, (n0 + 20), 0, (n0 + 21), (n0 + 22), (n0 + 23), (n0 + 24), (n0 + 25), (n0 + 26), (n0 + 27), (n0 + 28), (n0 + 29), 0, (n0 + 30), (n0 + 31), 0, (n0 + 32), (n0 + 33), (n0 + 34), (n0 + 35), (n0 + 36), 0, (n0 + 37), (n0 + 38), (n0 + 39), 0, (n0 + 40), 0, (n0 + 41), (n0 + 42), (n0 + 43), (n0 + 44), (n0 + 45), 0, (n0 + 46), 0, (n0 + 47), (n0 + 48), (n0 + 49), (n0 + 50), (n0 + 51), (n0 + 52), (n0 + 53), 1, 1, 1, 0, 0, 0, 1]) X ⟨rfl, rfl⟩ g104 dX12_init_1359 fl_X12_167 ftf_X12_79 rfl ha rfl ?_
  refine k_aload_n X 0 dX12_init_1362 rfl ?_
  refine k_sipush X dX12_init_1363 si_2197 ?_
  refine k_nai X (n0 + 52) rfl (len := 2197) dX12_init_1366 q_310 kc_2197 rfl (by decide) (by omega) (by omega) fun q105 g106 => ?_
  refine k_putRF2 (ty := (.array .int)) (q := (n0 + 52)) (fs1 := [0, (n0 + 2), (n0 + 3), 0, (n0 + 4), 0, 0, 0, (n0 + 5), (n0 + 6), (n0 + 7), (n0 + 8), (n0 + 9), 0, 0, 0, 0, 0, (n0 + 10), (n0 + 11), (n0 + 12), (n0 + 13), (n0 + 14), (n0 + 15), (n0 + 16), (n0 + 17), 0, 0, 0, (n0 + 18), 0, 0, 0, 0, 0, 0, (n0 + 19), 0, (n0 + 20), 0, (n0 + 21), (n0 + 22), (n0 + 23), (n0 + 24), (n0 + 25), (n0 + 26), (n0 + 27), (n0 + 28), (n0 + 29), 0, (n0 + 30), (n0 + 31), 0, (n0 + 32), (n0 + 33), (n0 + 34), (n0 + 35), (n0 + 36), 0, (n0 + 37), (n0 + 38), (n0 + 39), 0, (n0 + 40), 0, (n0 + 41), (n0 + 42), (n0 + 43), (n0 + 44), (n0 + 45), 0, (n0 + 46), 0, (n0 + 47), (n0 + 48), (n0 + 49), (n0 + 50), (n0 + 51), (n0 + 52), (n0 + 53), (n0 + 54), 1, 1, 0, 0, 0, 1]) X ⟨rfl, rfl⟩ g106 dX12_init_1368 fl_X12_170 ftf_X12_80 rfl ha rfl ?_
  refine k_aload_n X 0 dX12_init_1371 rfl ?_
  refine k_bipush X dX12_init_1372 bi_9 ?_
  refine k_nai X (n0 + 53) rfl (len := 9) dX12_init_1374 q_310 kc_9 rfl (by decide) (by omega) (by omega) fun q107 g108 => ?_
  refine k_putRF2 (ty := (.array .int)) (q := (n0 + 53)) (fs1 := [0, (n0 + 2), (n0 + 3), 0, (n0 + 4), 0, 0, 0, (n0 + 5), (n0 + 6), (n0 + 7), (n0 + 8), (n0 + 9), 0, 0, 0, 0, 0, (n0 + 10), (n0 + 11), (n0 + 12), (n0 + 13), (n0 + 14), (n0 + 15), (n0 + 16), (n0 + 17), 0, 0, 0, (n0 + 18), 0, 0, 0, 0, 0, 0, (n0 + 19), 0, (n0 + 20), 0, (n0 + 21), (n0 + 22), (n0 + 23), (n0 + 24), (n0 + 25), (n0 + 26), (n0 + 27), (n0 + 28), (n0 + 29), 0, (n0 + 30), (n0 + 31), 0, (n0 + 32), (n0 + 33), (n0 + 34), (n0 + 35), (n0 + 36), 0, (n0 + 37), (n0 + 38), (n0 + 39), 0, (n0 + 40), 0, (n0 + 41), (n0 + 42), (n0 + 43), (n0 + 44), (n0 + 45), 0, (n0 + 46), 0, (n0 + 47), (n0 + 48), (n0 + 49), (n0 + 50), (n0 + 51), (n0 + 52), (n0 + 53), (n0 + 54), (n0 + 55), 1, 0, 0, 0, 1]) X ⟨rfl, rfl⟩ g108 dX12_init_1376 fl_X12_173 ftf_X12_81 rfl ha rfl ?_
  refine k_aload_n X 0 dX12_init_1379 rfl ?_
  refine k_ldc X dX12_init_1380 q_1547 ki_40401 ?_
  refine k_nai X (n0 + 54) rfl (len := 40401) dX12_init_1382 q_310 kc_40401 rfl (by decide) (by omega) (by omega) fun q109 g110 => ?_
  refine k_putRF2 (ty := (.array .int)) (q := (n0 + 54)) (fs1 := [0, (n0 + 2), (n0 + 3), 0, (n0 + 4), 0, 0, 0, (n0 + 5), (n0 + 6), (n0 + 7), (n0 + 8), (n0 + 9), 0, 0, 0, 0, 0, (n0 + 10), (n0 + 11), (n0 + 12), (n0 + 13), (n0 + 14), (n0 + 15), (n0 + 16), (n0 + 17), 0, 0, 0, (n0 + 18), 0, 0, 0, 0, 0, 0, (n0 + 19), 0, (n0 + 20), 0, (n0 + 21), (n0 + 22), (n0 + 23), (n0 + 24), (n0 + 25), (n0 + 26), (n0 + 27), (n0 + 28), (n0 + 29), 0, (n0 + 30), (n0 + 31), 0, (n0 + 32), (n0 + 33), (n0 + 34), (n0 + 35), (n0 + 36), 0, (n0 + 37), (n0 + 38), (n0 + 39), 0, (n0 + 40), 0, (n0 + 41), (n0 + 42), (n0 + 43), (n0 + 44), (n0 + 45), 0, (n0 + 46), 0, (n0 + 47), (n0 + 48), (n0 + 49), (n0 + 50), (n0 + 51), (n0 + 52), (n0 + 53), (n0 + 54), (n0 + 55), (n0 + 56), 0, 0, 0, 1]) X ⟨rfl, rfl⟩ g110 dX12_init_1384 fl_X12_177 ftf_X12_82 rfl ha rfl ?_
  refine k_aload_n X 0 dX12_init_1387 rfl ?_
  refine k_sipush X dX12_init_1388 si_2600 ?_
  refine k_nai X (n0 + 55) rfl (len := 2600) dX12_init_1391 q_310 kc_2600 rfl (by decide) (by omega) (by omega) fun q111 g112 => ?_
  refine k_putRF2 (ty := (.array .int)) (q := (n0 + 55)) (fs1 := [0, (n0 + 2), (n0 + 3), 0, (n0 + 4), 0, 0, 0, (n0 + 5), (n0 + 6), (n0 + 7), (n0 + 8), (n0 + 9), 0, 0, 0, 0, 0, (n0 + 10), (n0 + 11), (n0 + 12), (n0 + 13), (n0 + 14), (n0 + 15), (n0 + 16), (n0 + 17), 0, 0, 0, (n0 + 18), 0, 0, 0, 0, 0, 0, (n0 + 19), 0, (n0 + 20), 0, (n0 + 21), (n0 + 22), (n0 + 23), (n0 + 24), (n0 + 25), (n0 + 26), (n0 + 27), (n0 + 28), (n0 + 29), 0, (n0 + 30), (n0 + 31), 0, (n0 + 32), (n0 + 33), (n0 + 34), (n0 + 35), (n0 + 36), 0, (n0 + 37), (n0 + 38), (n0 + 39), 0, (n0 + 40), 0, (n0 + 41), (n0 + 42), (n0 + 43), (n0 + 44), (n0 + 45), 0, (n0 + 46), 0, (n0 + 47), (n0 + 48), (n0 + 49), (n0 + 50), (n0 + 51), (n0 + 52), (n0 + 53), (n0 + 54), (n0 + 55), (n0 + 56), 0, 0, 0, (n0 + 57)]) X ⟨rfl, rfl⟩ g112 dX12_init_1393 fl_X12_180 ftf_X12_86 rfl ha rfl ?_
  exact k_vret X Y dX12_init_1396 rfl (by constructor <;> omega)
