def fX6_get (ro rc rn : Nat) (p1 : Int) (p2 : Int) (s0 : St) : Rs Int :=
if p1 < 0 then (
some ((-1), s0))
else
fld s0 ro 2 fun v1 =>
if p1 < v1 then (
if p2 < 0 then (
some ((-1), s0))
else
fld s0 ro 0 fun v3 =>
if p2 < v3 then (
fld s0 ro 0 fun v5 =>
lod s0 rc rn (w32 (w32 (p1 * v5) + p2)) fun v7 =>
some (v7, s0))
else
some ((-1), s0))
else
some ((-1), s0)
def fX11_within (p1 : Int) (p2 : Int) (p3 : Int) (s0 : St) : Rs Int :=
if p1 < p2 then (
some (0, s0))
else
if p3 < p1 then (
some (0, s0))
else
some (1, s0)
def fX0_rank (p1 : Int) (p2 : Int) (p3 : Int) (s0 : St) : Rs Int :=
bnx (itr FUEL (fun (x1 : Int) s2 =>
if x1 < 5 then (
bnd (fX6_get 28 29 50 (w32 (w32 (5 * p1) + p2)) x1 s2) fun r4 s5 =>
if r4 = p3 then (
some (.inr (.inl x1), s5))
else
some (.inl (w32 (x1 + 1)), s5))
else
some (.inr (.inr 5), s2)) 0 s0) fun (y7 : Int) s8 =>
some (y7, s8)
def fX0_prefers (p1 : Int) (p2 : Int) (p3 : Int) (p4 : Int) (s0 : St) : Rs Int :=
bnd (fX0_rank p1 p2 p3 s0) fun r1 s2 =>
bnd (fX0_rank p1 p2 p4 s2) fun r4 s5 =>
if r1 < r4 then (
some (1, s5))
else
some (0, s5)
def fX0_ask (p1 : Int) (p2 : Int) (s0 : St) : Rs Int :=
lod s0 154 5 p2 fun v1 =>
bnd (fX6_get 28 29 50 (w32 (w32 (5 * p1) + p2)) v1 s0) fun r3 s4 =>
bnd (fX11_within r3 0 4 s4) fun r6 s7 =>
if r6 = 0 then (
some ((-1), s7))
else
lod s7 154 5 p2 fun v9 =>
sto s7 154 5 p2 (w32 (v9 + 1)) fun s11 =>
lod s11 155 5 r3 fun v12 =>
if v12 = (-1) then (
sto s11 155 5 r3 p2 fun s14 =>
some (v12, s14))
else
bnd (fX0_prefers (w32 (1 - p1)) r3 v12 p2 s11) fun r15 s16 =>
if r15 = 0 then (
sto s16 155 5 r3 p2 fun s18 =>
some (v12, s18))
else
some (p2, s16)
def fX6_change (ro rc rn : Nat) (p1 : Int) (p2 : Int) (p3 : Int) (p4 : Int) (p5 : Int) (p6 : Int) (s0 : St) : Rs Int :=
if p1 < 0 then (
some (0, s0))
else
fld s0 ro 2 fun v1 =>
if p1 < v1 then (
fld s0 ro 0 fun v3 =>
lb (w32 (p1 * v3)) fun v5 =>
fld s0 ro 0 fun v7 =>
bnd (
if 0 < v7 then (
sto s0 rc rn v5 p2 fun s9 =>
some ((), s9))
else
some ((), s0)) fun (y10 : Unit) s11 =>
fld s11 ro 0 fun v13 =>
bnd (
if 1 < v13 then (
sto s11 rc rn (w32 (v5 + 1)) p3 fun s15 =>
some ((), s15))
else
some ((), s11)) fun (y16 : Unit) s17 =>
fld s17 ro 0 fun v19 =>
bnd (
if 2 < v19 then (
sto s17 rc rn (w32 (v5 + 2)) p4 fun s21 =>
some ((), s21))
else
some ((), s17)) fun (y22 : Unit) s23 =>
fld s23 ro 0 fun v25 =>
bnd (
if 3 < v25 then (
sto s23 rc rn (w32 (v5 + 3)) p5 fun s27 =>
some ((), s27))
else
some ((), s23)) fun (y28 : Unit) s29 =>
fld s29 ro 0 fun v31 =>
if 4 < v31 then (
sto s29 rc rn (w32 (v5 + 4)) p6 fun s33 =>
some (0, s33))
else
some (0, s29))
else
some (0, s0)
def fX0_change (p1 : Int) (p2 : Int) (p3 : Int) (s0 : St) : Rs Int :=
if p3 < 0 then (
some (0, s0))
else
if 43210 < p3 then (
some (0, s0))
else
dvc 10000 <|
lb (idv p3 10000) fun v2 =>
dvc 1000 <|
dvc 10 <|
lb (irm (idv p3 1000) 10) fun v6 =>
dvc 100 <|
dvc 10 <|
lb (irm (idv p3 100) 10) fun v10 =>
dvc 10 <|
dvc 10 <|
lb (irm (idv p3 10) 10) fun v14 =>
dvc 10 <|
lb (irm p3 10) fun v17 =>
lb (ior (ior (ior (ior (ishl 1 v2) (ishl 1 v6)) (ishl 1 v10)) (ishl 1 v14)) (ishl 1 v17)) fun v19 =>
if v19 = 31 then (
bnd (fX6_change 28 29 50 (w32 (w32 (5 * p1) + p2)) v2 v6 v10 v14 v17 s0) fun r21 s22 =>
some (1, s22))
else
some (0, s0)
def fJ7_fill_53178 (ra rn : Nat) (p2 : Int) (s0 : St) : Rs Int :=
lb ((rn : Int)) fun v1 =>
bnd (itr FUEL (fun (x3 : Int) s4 =>
if x3 < v1 then (
sto s4 ra rn x3 p2 fun s6 =>
some (.inl (w32 (x3 + 1)), s6))
else
some (.inr (), s4)) 0 s0) fun (y7 : Unit) s8 =>
some (0, s8)
def fX0_engage (p1 : Int) (s0 : St) : Rs Int :=
bnd (fJ7_fill_53178 154 5 0 s0) fun r1 s2 =>
bnd (fJ7_fill_53178 155 5 (-1) s2) fun r4 s5 =>
bnd (itr FUEL (fun (x7 : Int) s8 =>
if x7 < 5 then (
bnd (itr FUEL (fun (x10 : Int × Int) s11 =>
if x10.2 < 25 then (
if x10.1 = (-1) then (
some (.inr (), s11))
else
bnd (fX0_ask p1 x10.1 s11) fun r13 s14 =>
some (.inl (r13, w32 (x10.2 + 1)), s14))
else
some (.inr (), s11)) (x7, 0) s8) fun (y16 : Unit) s17 =>
some (.inl (w32 (x7 + 1)), s17))
else
some (.inr (), s8)) 0 s5) fun (y19 : Unit) s20 =>
some (0, s20)
def fX0_freeOne (p1 : Int) (p2 : Int) (s0 : St) : Rs Int :=
bnx (itr FUEL (fun (x1 : Int × Int) s2 =>
if x1.2 < 5 then (
if iand (ishr p1 x1.2) 1 = 1 then (
some (.inl (x1.1, w32 (x1.2 + 1)), s2))
else
if x1.1 = 0 then (
some (.inr (.inl x1.2), s2))
else
some (.inl (w32 (x1.1 + (-1)), w32 (x1.2 + 1)), s2))
else
some (.inr (.inr 0), s2)) (p2, 0) s0) fun (y4 : Int) s5 =>
some (y4, s5)
def fX0_isSettled  (s0 : St) : Rs Int :=
bnx (itr FUEL (fun (x1 : Int) s2 =>
if x1 < 5 then (
bnx (itr FUEL (fun (x4 : Int) s5 =>
if x4 < 5 then (
if x1 = x4 then (
some (.inl (w32 (x4 + 1)), s5))
else
lod s5 156 5 x4 fun v7 =>
lod s5 156 5 x1 fun v9 =>
bnd (fX0_prefers 0 x1 v7 v9 s5) fun r11 s12 =>
if r11 = 0 then (
some (.inl (w32 (x4 + 1)), s12))
else
lod s12 156 5 x4 fun v14 =>
bnd (fX0_prefers 1 v14 x1 x4 s12) fun r16 s17 =>
if r16 = 0 then (
some (.inl (w32 (x4 + 1)), s17))
else
some (.inr (.inr (.inr (.inl ()))), s17))
else
some (.inr (.inl ()), s5)) 0 s2) fun (y19 : Unit) s20 =>
some (.inl (w32 (x1 + 1)), s20))
else
some (.inr (.inr 1), s2)) 0 s0) fun (y22 : Unit) s23 =>
some (0, s23)
def fX0_pairUp (p1 : Int) (s0 : St) : Rs Int :=
bnd (itr FUEL (fun (x1 : Int × Int × Int) s2 =>
if x1.2.2 < 5 then (
dvc (w32 (5 - x1.2.2)) <|
bnd (fX0_freeOne x1.1 (irm x1.2.1 (w32 (5 - x1.2.2))) s2) fun r5 s6 =>
sto s6 156 5 x1.2.2 r5 fun s8 =>
lod s8 156 5 x1.2.2 fun v9 =>
lb (ior x1.1 (ishl 1 v9)) fun v11 =>
dvc (w32 (5 - x1.2.2)) <|
lb (idv x1.2.1 (w32 (5 - x1.2.2))) fun v14 =>
some (.inl (v11, v14, w32 (x1.2.2 + 1)), s8))
else
some (.inr (), s2)) (0, p1, 0) s0) fun (y16 : Unit) s17 =>
some (0, s17)
def fX0_partner (p1 : Int) (p2 : Int) (p3 : Int) (s0 : St) : Rs Int :=
bnd (fX0_engage p3 s0) fun r1 s2 =>
bnx (itr FUEL (fun (x4 : Int) s5 =>
if x4 < 5 then (
bnx (
if p1 = p3 then (
lod s5 155 5 x4 fun v7 =>
if v7 = p2 then (
some (.inr (.inr (.inl x4)), s5))
else
some (.inl (), s5))
else
some (.inl (), s5)) fun (y9 : Unit) s10 =>
if p1 = p3 then (
some (.inl (w32 (x4 + 1)), s10))
else
if x4 = p2 then (
lod s10 155 5 x4 fun v12 =>
some (.inr (.inr v12), s10))
else
some (.inl (w32 (x4 + 1)), s10))
else
some (.inr (.inr (-1)), s5)) 0 s2) fun (y14 : Int) s15 =>
some (y14, s15)
def fX0_settled  (s0 : St) : Rs Int :=
bnd (itr FUEL (fun (x1 : Int × Int) s2 =>
if x1.2 < 120 then (
bnd (fX0_pairUp x1.2 s2) fun r4 s5 =>
bnd (fX0_isSettled s5) fun r7 s8 =>
if r7 = 0 then (
some (.inl (x1.1, w32 (x1.2 + 1)), s8))
else
some (.inl (w32 (x1.1 + 1), w32 (x1.2 + 1)), s8))
else
some (.inr x1.1, s2)) (0, 0) s0) fun (y10 : Int) s11 =>
some (y10, s11)
def fX10_forget  (s0 : St) : Rs Int :=
put s0 52 2 0 fun s1 =>
some (0, s1)
def fX2_copyFrom (h : Nat) (h2 : Nat) (s0 : St) : Rs Int :=
fld s0 h2 0 fun v1 =>
put s0 h 0 v1 fun s3 =>
fld s3 h2 1 fun v4 =>
put s3 h 1 v4 fun s6 =>
fld s6 h2 2 fun v7 =>
put s6 h 2 v7 fun s9 =>
fld s9 h2 3 fun v10 =>
put s9 h 3 v10 fun s12 =>
fld s12 h2 4 fun v13 =>
put s12 h 4 v13 fun s15 =>
fld s15 h2 5 fun v16 =>
put s15 h 5 v16 fun s18 =>
cpy s18 (h2 + 1) 12 0 (h + 1) 12 0 12 fun s19 =>
cpy s19 (h2 + 2) 12 0 (h + 2) 12 0 12 fun s20 =>
cpy s20 (h2 + 3) 12 0 (h + 3) 12 0 12 fun s21 =>
cpy s21 (h2 + 4) 12 0 (h + 4) 12 0 12 fun s22 =>
cpy s22 (h2 + 5) 12 0 (h + 5) 12 0 12 fun s23 =>
cpy s23 (h2 + 6) 20 0 (h + 6) 20 0 20 fun s24 =>
cpy s24 (h2 + 7) 20 0 (h + 7) 20 0 20 fun s25 =>
cpy s25 (h2 + 8) 20 0 (h + 8) 20 0 20 fun s26 =>
cpy s26 (h2 + 9) 20 0 (h + 9) 20 0 20 fun s27 =>
cpy s27 (h2 + 10) 20 0 (h + 10) 20 0 20 fun s28 =>
cpy s28 (h2 + 11) 20 0 (h + 11) 20 0 20 fun s29 =>
cpy s29 (h2 + 12) 20 0 (h + 12) 20 0 20 fun s30 =>
cpy s30 (h2 + 13) 20 0 (h + 13) 20 0 20 fun s31 =>
some (0, s31)
def fX10_goBack  (s0 : St) : Rs Int :=
fld s0 52 2 fun v1 =>
if v1 = 0 then (
some ((-1), s0))
else
fld s0 52 2 fun v3 =>
put s0 52 2 (w32 (v3 - 1)) fun s5 =>
fld s5 52 3 fun v6 =>
dvc 6 <|
put s5 52 3 (irm (w32 (w32 (v6 + 6) - 1)) 6) fun s9 =>
fld s9 52 3 fun v10 =>
loa keptIds v10 fun h12 =>
bnd (fX2_copyFrom 3 h12 s9) fun r14 s15 =>
fld s15 52 3 fun v17 =>
lod s15 54 6 v17 fun v19 =>
some (v19, s15)
def fX10_keep (p2 : Int) (s0 : St) : Rs Int :=
fld s0 52 3 fun v1 =>
loa keptIds v1 fun h3 =>
bnd (fX2_copyFrom h3 3 s0) fun r5 s6 =>
fld s6 52 3 fun v8 =>
sto s6 54 6 v8 p2 fun s10 =>
fld s10 52 3 fun v11 =>
dvc 6 <|
put s10 52 3 (irm (w32 (v11 + 1)) 6) fun s14 =>
fld s14 52 2 fun v15 =>
if v15 < 6 then (
fld s14 52 2 fun v17 =>
put s14 52 2 (w32 (v17 + 1)) fun s19 =>
some (0, s19))
else
some (0, s14)
def fX10_size  (s0 : St) : Rs Int :=
fld s0 52 2 fun v1 =>
some (v1, s0)
def fX2_hasPorch (p1 : Int) (s0 : St) : Rs Int :=
if p1 < 0 then (
some (0, s0))
else
fld s0 3 4 fun v1 =>
if p1 < v1 then (
some (1, s0))
else
some (0, s0)
def fX6_size (ro rc rn : Nat) (s0 : St) : Rs Int :=
fld s0 ro 2 fun v1 =>
some (v1, s0)
def fX11_fillByHand (p1 : Int) (p2 : Int) (s0 : St) : Rs Int :=
bnd (fX2_hasPorch p1 s0) fun r1 s2 =>
if r1 = 0 then (
some (0, s2))
else
bnd (fX11_within p2 0 99 s2) fun r4 s5 =>
if r4 = 0 then (
some (0, s5))
else
bnd (fX6_size 50 51 750 s5) fun r7 s8 =>
bnd (fX10_keep r7 s8) fun r10 s11 =>
sto s11 5 12 p1 p2 fun s13 =>
some (1, s13)
def fX6_isFull (ro rc rn : Nat) (s0 : St) : Rs Int :=
fld s0 ro 2 fun v1 =>
fld s0 ro 0 fun v3 =>
if (rn : Int) < w32 (w32 (v1 + 1) * v3) then (
some (1, s0))
else
some (0, s0)
def fX6_add_ (ro rc rn : Nat) (p1 : Int) (p2 : Int) (p3 : Int) (p4 : Int) (p5 : Int) (s0 : St) : Rs Int :=
bnd (fX6_isFull ro rc rn s0) fun r1 s2 =>
if r1 = 0 then (
fld s2 ro 2 fun v4 =>
put s2 ro 2 (w32 (v4 + 1)) fun s6 =>
fld s6 ro 2 fun v7 =>
bnd (fX6_change ro rc rn (w32 (v7 - 1)) p1 p2 p3 p4 p5 s6) fun r9 s10 =>
fld s10 ro 2 fun v12 =>
some (v12, s10))
else
some ((-1), s2)
def fX1_write (p1 : Int) (p2 : Int) (p3 : Int) (s0 : St) : Rs Int :=
fld s0 152 4 fun v1 =>
if v1 = 0 then (
fld s0 3 2 fun v3 =>
fld s0 3 1 fun v5 =>
bnd (fX6_add_ 50 51 750 v3 v5 p1 p2 p3 s0) fun r7 s8 =>
some (0, s8))
else
some (0, s0)
def fX1_sweepPorch (p1 : Int) (s0 : St) : Rs Int :=
bnd (fX2_hasPorch p1 s0) fun r1 s2 =>
if r1 = 0 then (
some (0, s2))
else
lod s2 6 12 p1 fun v4 =>
bnd (fX1_write 4 p1 v4 s2) fun r6 s7 =>
sto s7 6 12 p1 0 fun s9 =>
fld s9 3 3 fun v10 =>
put s9 3 3 (w32 (v10 + 1)) fun s12 =>
some (0, s12)
def fX11_sweepByHand (p1 : Int) (s0 : St) : Rs Int :=
bnd (fX2_hasPorch p1 s0) fun r1 s2 =>
if r1 = 0 then (
some (0, s2))
else
bnd (fX6_size 50 51 750 s2) fun r4 s5 =>
bnd (fX10_keep r4 s5) fun r7 s8 =>
bnd (fX1_sweepPorch p1 s8) fun r10 s11 =>
some (1, s11)
def fX2_hasPerson (p1 : Int) (s0 : St) : Rs Int :=
if p1 < 0 then (
some (0, s0))
else
fld s0 3 5 fun v1 =>
if p1 < v1 then (
some (1, s0))
else
some (0, s0)
def fX2_rise (p1 : Int) (s0 : St) : Rs Int :=
bnd (fX2_hasPerson p1 s0) fun r1 s2 =>
if r1 = 0 then (
some (0, s2))
else
lod s2 11 20 p1 fun v4 =>
bnd (fX2_hasPorch v4 s2) fun r6 s7 =>
if r6 = 0 then (
some (0, s7))
else
lod s7 11 20 p1 fun v9 =>
lod s7 8 12 v9 fun v11 =>
sto s7 8 12 v9 (w32 (v11 - 1)) fun s13 =>
sto s13 11 20 p1 (-1) fun s14 =>
sto s14 12 20 p1 0 fun s15 =>
sto s15 13 20 p1 0 fun s16 =>
some (0, s16)
def fX11_riseByHand (p1 : Int) (s0 : St) : Rs Int :=
bnd (fX2_hasPerson p1 s0) fun r1 s2 =>
if r1 = 0 then (
some (0, s2))
else
lod s2 11 20 p1 fun v4 =>
if v4 = (-1) then (
some (0, s2))
else
bnd (fX6_size 50 51 750 s2) fun r6 s7 =>
bnd (fX10_keep r6 s7) fun r9 s10 =>
bnd (fX2_rise p1 s10) fun r12 s13 =>
some (1, s13)
def fX2_hasFreeChair (p1 : Int) (s0 : St) : Rs Int :=
bnd (fX2_hasPorch p1 s0) fun r1 s2 =>
if r1 = 0 then (
some (0, s2))
else
lod s2 8 12 p1 fun v4 =>
lod s2 4 12 p1 fun v6 =>
if v4 < v6 then (
some (1, s2))
else
some (0, s2)
def fX2_sitDown (p1 : Int) (p2 : Int) (p3 : Int) (s0 : St) : Rs Int :=
bnd (fX2_hasPerson p1 s0) fun r1 s2 =>
if r1 = 0 then (
some (0, s2))
else
bnd (fX2_hasPorch p2 s2) fun r4 s5 =>
if r4 = 0 then (
some (0, s5))
else
sto s5 11 20 p1 p2 fun s7 =>
sto s7 12 20 p1 0 fun s8 =>
sto s8 13 20 p1 p3 fun s9 =>
lod s9 8 12 p2 fun v10 =>
sto s9 8 12 p2 (w32 (v10 + 1)) fun s12 =>
some (0, s12)
def fX1_takeSeat (p1 : Int) (p2 : Int) (p3 : Int) (s0 : St) : Rs Int :=
bnd (fX2_sitDown p1 p2 p3 s0) fun r1 s2 =>
bnd (fX1_write 0 p1 p2 s2) fun r4 s5 =>
some (0, s5)
def fX11_sitByHand (p1 : Int) (p2 : Int) (s0 : St) : Rs Int :=
bnd (fX2_hasPerson p1 s0) fun r1 s2 =>
if r1 = 0 then (
some (0, s2))
else
bnd (fX2_hasPorch p2 s2) fun r4 s5 =>
if r4 = 0 then (
some (0, s5))
else
lod s5 11 20 p1 fun v7 =>
if v7 = (-1) then (
bnd (fX2_hasFreeChair p2 s5) fun r9 s10 =>
if r9 = 0 then (
some (0, s10))
else
bnd (fX6_size 50 51 750 s10) fun r12 s13 =>
bnd (fX10_keep r12 s13) fun r15 s16 =>
bnd (fX1_takeSeat p1 p2 60 s16) fun r18 s19 =>
some (1, s19))
else
some (0, s5)
def fX11_act (p1 : Int) (p2 : Int) (p3 : Int) (s0 : St) : Rs Int :=
if p1 = 0 then (
bnd (fX11_sitByHand p2 p3 s0) fun r10 s11 =>
some (r10, s11))
else
if p1 = 1 then (
bnd (fX11_riseByHand p2 s0) fun r7 s8 =>
some (r7, s8))
else
if p1 = 2 then (
bnd (fX11_sweepByHand p2 s0) fun r4 s5 =>
some (r4, s5))
else
if p1 = 3 then (
bnd (fX11_fillByHand p2 p3 s0) fun r1 s2 =>
if r1 = 0 then (
some (0, s2))
else
some (1, s2))
else
some (0, s0)
def fX6_add (ro rc rn : Nat) (p1 : Int) (s0 : St) : Rs Int :=
fld s0 ro 0 fun v1 =>
if v1 = 1 then (
fld s0 ro 2 fun v3 =>
if v3 < (rn : Int) then (
fld s0 ro 2 fun v5 =>
sto s0 rc rn v5 p1 fun s7 =>
fld s7 ro 2 fun v8 =>
put s7 ro 2 (w32 (v8 + 1)) fun s10 =>
fld s10 ro 2 fun v11 =>
some (v11, s10))
else
some ((-1), s0))
else
some ((-1), s0)
def fX6_clear (ro rc rn : Nat) (s0 : St) : Rs Int :=
put s0 ro 2 0 fun s1 =>
some (0, s1)
def fX11_board (p1 : Int) (s0 : St) : Rs Int :=
if p1 = (-1) then (
bnd (fX6_clear 36 37 12 s0) fun r7 s8 =>
some (r7, s8))
else
bnd (fX11_within p1 0 99 s0) fun r1 s2 =>
if r1 = 0 then (
some ((-1), s2))
else
bnd (fX6_add 36 37 12 p1 s2) fun r4 s5 =>
some (r4, s5)
def fX11_book (p1 : Int) (p2 : Int) (s0 : St) : Rs Int :=
bnd (fX6_get 50 51 750 p1 p2 s0) fun r1 s2 =>
some (r1, s2)
def fX11_cat (p1 : Int) (p2 : Int) (p3 : Int) (s0 : St) : Rs Int :=
if p1 = (-1) then (
bnd (fX6_clear 32 33 48 s0) fun r19 s20 =>
some (r19, s20))
else
bnd (fX11_within p1 0 7 s0) fun r1 s2 =>
if r1 = 0 then (
some ((-1), s2))
else
bnd (fX11_within p2 0 7 s2) fun r4 s5 =>
if r4 = 0 then (
some ((-1), s5))
else
bnd (fX11_within p3 0 9999 s5) fun r7 s8 =>
if r7 = 0 then (
some ((-1), s8))
else
dvc 100 <|
lb (idv p3 100) fun v11 =>
dvc 100 <|
lb (irm p3 100) fun v14 =>
if v11 < v14 then (
bnd (fX6_add_ 32 33 48 p1 p2 v11 v14 0 s8) fun r16 s17 =>
some (r16, s17))
else
some ((-1), s8)
def fX11_chair (p1 : Int) (p2 : Int) (s0 : St) : Rs Int :=
if p1 = (-1) then (
bnd (fX6_clear 30 31 10 s0) fun r7 s8 =>
some (r7, s8))
else
bnd (fX11_within p1 1 30 s0) fun r1 s2 =>
if r1 = 0 then (
some ((-1), s2))
else
if p2 < 0 then (
some ((-1), s2))
else
if p2 < p1 then (
bnd (fX6_add_ 30 31 10 p1 p2 0 0 0 s2) fun r4 s5 =>
some (r4, s5))
else
some ((-1), s2)
def fX11_changePerson (p1 : Int) (p2 : Int) (p3 : Int) (s0 : St) : Rs Int :=
bnx (
if p1 = 2 then (
some (.inl (), s0))
else
if p1 = 3 then (
some (.inl (), s0))
else
some (.inr 0, s0)) fun (y1 : Unit) s2 =>
bnd (fX2_hasPerson p2 s2) fun r4 s5 =>
if r4 = 0 then (
some (0, s5))
else
bnd (fX11_within p3 0 9 s5) fun r7 s8 =>
if r7 = 0 then (
some (0, s8))
else
if p1 = 2 then (
sto s8 9 20 p2 p3 fun s11 =>
some (1, s11))
else
sto s8 10 20 p2 p3 fun s10 =>
some (1, s10)
def fX11_changePorch (p1 : Int) (p2 : Int) (p3 : Int) (s0 : St) : Rs Int :=
bnd (fX2_hasPorch p2 s0) fun r1 s2 =>
if r1 = 0 then (
some (0, s2))
else
if p1 = 0 then (
bnd (fX11_within p3 0 99 s2) fun r9 s10 =>
if r9 = 0 then (
some (0, s10))
else
sto s10 6 12 p2 p3 fun s12 =>
some (1, s12))
else
if p3 = (-1) then (
sto s2 7 12 p2 p3 fun s4 =>
some (1, s4))
else
bnd (fX2_hasPerson p3 s2) fun r5 s6 =>
if r5 = 0 then (
some (0, s6))
else
sto s6 7 12 p2 p3 fun s8 =>
some (1, s8)
def fX7_cut (p1 : Int) (s0 : St) : Rs Int :=
if p1 < 0 then (
some (0, s0))
else
fld s0 1 1 fun v1 =>
if v1 < p1 then (
some (0, s0))
else
put s0 1 1 p1 fun s3 =>
some (1, s3)
def fX11_end (p1 : Int) (s0 : St) : Rs Int :=
bnd (fX7_cut p1 s0) fun r1 s2 =>
some (r1, s2)
def fX11_family (p1 : Int) (s0 : St) : Rs Int :=
if p1 = (-1) then (
bnd (fX6_clear 34 35 8 s0) fun r7 s8 =>
some (r7, s8))
else
bnd (fX11_within p1 1 9 s0) fun r1 s2 =>
if r1 = 0 then (
some ((-1), s2))
else
bnd (fX6_add 34 35 8 p1 s2) fun r4 s5 =>
some (r4, s5)
def fX5_faultPlace  (s0 : St) : Rs Int :=
fld s0 139 8 fun v1 =>
some (v1, s0)
def fX5_faultKind  (s0 : St) : Rs Int :=
fld s0 139 7 fun v1 =>
some (v1, s0)
def fX11_fault (p1 : Int) (s0 : St) : Rs Int :=
if p1 = 0 then (
bnd (fX5_faultKind s0) fun r4 s5 =>
some (r4, s5))
else
if p1 = 1 then (
bnd (fX5_faultPlace s0) fun r1 s2 =>
some (r1, s2))
else
some ((-1), s0)
def fX7_hasRoom (p1 : Int) (s0 : St) : Rs Int :=
fld s0 1 1 fun v1 =>
if 400 < w32 (v1 + p1) then (
some (0, s0))
else
some (1, s0)
def fX7_append (p1 : Int) (s0 : St) : Rs Int :=
bnd (fX7_hasRoom 4 s0) fun r1 s2 =>
if r1 = 0 then (
some (0, s2))
else
fld s2 1 1 fun v4 =>
sto s2 2 400 v4 (i2b (ishr p1 24)) fun s6 =>
fld s6 1 1 fun v7 =>
sto s6 2 400 (w32 (v7 + 1)) (i2b (ishr p1 16)) fun s9 =>
fld s9 1 1 fun v10 =>
sto s9 2 400 (w32 (v10 + 2)) (i2b (ishr p1 8)) fun s12 =>
fld s12 1 1 fun v13 =>
sto s12 2 400 (w32 (v13 + 3)) (i2b p1) fun s15 =>
fld s15 1 1 fun v16 =>
put s15 1 1 (w32 (v16 + 4)) fun s18 =>
some (0, s18)
def fX7_length  (s0 : St) : Rs Int :=
fld s0 1 1 fun v1 =>
some (v1, s0)
def fX11_feed (p1 : Int) (p2 : Int) (p3 : Int) (p4 : Int) (p5 : Int) (s0 : St) : Rs Int :=
bnd (fX7_hasRoom 20 s0) fun r1 s2 =>
if r1 = 0 then (
some ((-1), s2))
else
bnd (fX7_append p1 s2) fun r4 s5 =>
bnd (fX7_append p2 s5) fun r7 s8 =>
bnd (fX7_append p3 s8) fun r10 s11 =>
bnd (fX7_append p4 s11) fun r13 s14 =>
bnd (fX7_append p5 s14) fun r16 s17 =>
bnd (fX7_length s17) fun r19 s20 =>
some (r19, s20)
def fX4_wins (p1 : Int) (p2 : Int) (s0 : St) : Rs Int :=
bnx (itr FUEL (fun (x1 : Int × Int × Int) s2 =>
if x1.2.2 < p1 then (
if x1.1 < w32 (2 * x1.2.1) then (
if x1.1 = x1.2.1 then (
some (.inr (.inl x1.2.2), s2))
else
lb (w32 (x1.1 - x1.2.1)) fun v4 =>
some (.inl (x1.2.1, v4, w32 (x1.2.2 + 1)), s2))
else
some (.inr (.inl x1.2.2), s2))
else
some (.inr (.inr 0), s2)) (p1, p2, 0) s0) fun (y6 : Int) s7 =>
dvc 2 <|
if irm y6 2 = 0 then (
some (1, s7))
else
some (0, s7)
def fX4_winningTake (p1 : Int) (p2 : Int) (s0 : St) : Rs Int :=
if p2 < 1 then (
some ((-1), s0))
else
bnx (itr FUEL (fun (x1 : Int) s2 =>
if p1 < x1 then (
some (.inr (.inr (-1)), s2))
else
lb (w32 (p1 - x1)) fun v4 =>
if v4 = 0 then (
some (.inr (.inl x1), s2))
else
bnd (fX4_wins (imx v4 p2) (imn v4 p2) s2) fun r6 s7 =>
if r6 = 0 then (
some (.inr (.inl x1), s7))
else
lb (w32 (x1 + p2)) fun v9 =>
some (.inl v9, s7)) p2 s0) fun (y11 : Int) s12 =>
some (y11, s12)
def fX11_game (p1 : Int) (p2 : Int) (s0 : St) : Rs Int :=
bnd (fX11_within p1 1 200 s0) fun r1 s2 =>
if r1 = 0 then (
some ((-1), s2))
else
bnd (fX11_within p2 1 200 s2) fun r4 s5 =>
if r4 = 0 then (
some ((-1), s5))
else
bnd (fX4_winningTake (imx p1 p2) (imn p1 p2) s5) fun r7 s8 =>
some (r7, s8)
def fX1_beginEvening  (s0 : St) : Rs Int :=
bnd (itr FUEL (fun (x1 : Int) s2 =>
bnd (fX6_size 24 25 64 s2) fun r4 s5 =>
if x1 < r4 then (
bnd (fX6_get 24 25 64 x1 0 s5) fun r7 s8 =>
fld s8 3 2 fun v10 =>
if r7 = v10 then (
bnd (fX6_get 24 25 64 x1 1 s8) fun r12 s13 =>
bnd (fX6_get 24 25 64 x1 2 s13) fun r15 s16 =>
if r12 = 287 then (
some (.inl (w32 (x1 + 1)), s16))
else
bnd (fX2_hasPorch r15 s16) fun r18 s19 =>
if r18 = 0 then (
some (.inl (w32 (x1 + 1)), s19))
else
bnd (
if r12 = 285 then (
bnd (fX6_get 24 25 64 x1 3 s19) fun r21 s22 =>
sto s22 5 12 r15 r21 fun s24 =>
some ((), s24))
else
some ((), s19)) fun (y25 : Unit) s26 =>
bnd (
if r12 = 286 then (
bnd (fX1_sweepPorch r15 s26) fun r28 s29 =>
some ((), s29))
else
some ((), s26)) fun (y31 : Unit) s32 =>
if r12 = 288 then (
bnd (fX6_get 24 25 64 x1 3 s32) fun r34 s35 =>
sto s35 7 12 r15 r34 fun s37 =>
some (.inl (w32 (x1 + 1)), s37))
else
some (.inl (w32 (x1 + 1)), s32))
else
some (.inl (w32 (x1 + 1)), s8))
else
some (.inr (), s5)) 0 s0) fun (y38 : Unit) s39 =>
some (0, s39)
def fX1_followCalls  (s0 : St) : Rs Int :=
bnd (itr FUEL (fun (x1 : Int) s2 =>
bnd (fX6_size 22 23 64 s2) fun r4 s5 =>
if x1 < r4 then (
bnd (fX6_get 22 23 64 x1 1 s5) fun r7 s8 =>
fld s8 3 1 fun v10 =>
if r7 = v10 then (
bnd (fX6_get 22 23 64 x1 0 s8) fun r12 s13 =>
bnd (fX6_get 22 23 64 x1 2 s13) fun r15 s16 =>
bnd (fX2_hasPerson r12 s16) fun r18 s19 =>
bnd (
if r18 = 0 then (
some (0, s19))
else
lod s19 11 20 r12 fun v21 =>
if v21 = (-1) then (
some (1, s19))
else
some (0, s19)) fun (y23 : Int) s24 =>
if y23 = 0 then (
some (.inl (w32 (x1 + 1)), s24))
else
bnd (fX2_hasFreeChair r15 s24) fun r26 s27 =>
if r26 = 0 then (
some (.inl (w32 (x1 + 1)), s27))
else
bnd (fX6_get 22 23 64 x1 3 s27) fun r29 s30 =>
bnd (fX1_takeSeat r12 r15 r29 s30) fun r32 s33 =>
some (.inl (w32 (x1 + 1)), s33))
else
some (.inl (w32 (x1 + 1)), s8))
else
some (.inr (), s5)) 0 s0) fun (y35 : Unit) s36 =>
some (0, s36)
def fX1_letItRain  (s0 : St) : Rs Int :=
bnd (itr FUEL (fun (x1 : Int × Int) s2 =>
bnd (fX6_size 24 25 64 s2) fun r4 s5 =>
if x1.2 < r4 then (
bnd (fX6_get 24 25 64 x1.2 0 s5) fun r7 s8 =>
fld s8 3 2 fun v10 =>
bnd (
if r7 = v10 then (
bnd (fX6_get 24 25 64 x1.2 2 s8) fun r12 s13 =>
fld s13 3 1 fun v15 =>
if r12 = v15 then (
some (1, s13))
else
some (0, s13))
else
some (0, s8)) fun (y17 : Int) s18 =>
if y17 = 0 then (
some (.inl (x1.1, w32 (x1.2 + 1)), s18))
else
bnd (fX6_get 24 25 64 x1.2 1 s18) fun r20 s21 =>
if r20 = 287 then (
some (.inl (1, w32 (x1.2 + 1)), s21))
else
some (.inl (x1.1, w32 (x1.2 + 1)), s21))
else
some (.inr x1.1, s5)) (0, 0) s0) fun (y23 : Int) s24 =>
bnd (itr FUEL (fun (x26 : Int) s27 =>
if y23 = 0 then (
some (.inr (), s27))
else
fld s27 3 5 fun v29 =>
if x26 < v29 then (
lod s27 11 20 x26 fun v31 =>
bnd (fX2_hasPorch v31 s27) fun r33 s34 =>
if r33 = 0 then (
some (.inl (w32 (x26 + 1)), s34))
else
lod s34 6 12 v31 fun v36 =>
if 50 < v36 then (
bnd (fX2_rise x26 s34) fun r38 s39 =>
some (.inl (w32 (x26 + 1)), s39))
else
some (.inl (w32 (x26 + 1)), s34))
else
some (.inr (), s27)) 0 s24) fun (y41 : Unit) s42 =>
some (0, s42)
def fX3_lookAt (p1 : Int) (p2 : Int) (s0 : St) : Rs Int :=
bnd (fJ7_fill_53178 150 10 0 s0) fun r1 s2 =>
bnd (fX2_hasPerson p1 s2) fun r4 s5 =>
bnd (
if r4 = 0 then (
some ((), s5))
else
lod s5 9 20 p1 fun v7 =>
sto s5 150 10 0 v7 fun s9 =>
lod s9 10 20 p1 fun v10 =>
sto s9 150 10 1 v10 fun s12 =>
lod s12 12 20 p1 fun v13 =>
sto s12 150 10 3 v13 fun s15 =>
lod s15 14 20 p1 fun v16 =>
sto s15 150 10 7 v16 fun s18 =>
lod s18 15 20 p1 fun v19 =>
sto s18 150 10 8 v19 fun s21 =>
some ((), s21)) fun (y22 : Unit) s23 =>
bnd (fX2_hasPorch p2 s23) fun r25 s26 =>
bnd (
if r25 = 0 then (
some ((), s26))
else
lod s26 8 12 p2 fun v28 =>
sto s26 150 10 2 v28 fun s30 =>
lod s30 5 12 p2 fun v31 =>
sto s30 150 10 4 v31 fun s33 =>
lod s33 6 12 p2 fun v34 =>
sto s33 150 10 5 v34 fun s36 =>
some ((), s36)) fun (y37 : Unit) s38 =>
fld s38 3 1 fun v40 =>
sto s38 150 10 6 v40 fun s42 =>
fld s42 3 2 fun v43 =>
sto s42 150 10 9 v43 fun s45 =>
some (0, s45)
def fX3_joined (p1 : Int) (p2 : Int) (p3 : Int) (s0 : St) : Rs Int :=
if p1 = 42 then (
some (w32 (p2 * p3), s0))
else if p1 = 43 then (
some (w32 (p2 + p3), s0))
else if p1 = 45 then (
some (w32 (p2 - p3), s0))
else if p1 = 47 then (
if p3 = 0 then (
some (0, s0))
else
dvc p3 <|
some (idv p2 p3, s0))
else if p1 = 60 then (
if p2 < p3 then (
if (1 : Int) = 0 then (
some (0, s0))
else
some (1, s0))
else
if (0 : Int) = 0 then (
some (0, s0))
else
some (1, s0))
else if p1 = 61 then (
if p2 = p3 then (
if (1 : Int) = 0 then (
some (0, s0))
else
some (1, s0))
else
if (0 : Int) = 0 then (
some (0, s0))
else
some (1, s0))
else if p1 = 62 then (
if p3 < p2 then (
if (1 : Int) = 0 then (
some (0, s0))
else
some (1, s0))
else
if (0 : Int) = 0 then (
some (0, s0))
else
some (1, s0))
else if p1 = 264 then (
bnx (
if p2 = 0 then (
if p3 = 0 then (
if (0 : Int) = 0 then (
some (.inr 0, s0))
else
some (.inr 1, s0))
else
some (.inl (), s0))
else
some (.inl (), s0)) fun (y10 : Unit) s11 =>
if (1 : Int) = 0 then (
some (0, s11))
else
some (1, s11))
else if p1 = 265 then (
bnx (
if p2 = 0 then (
some (.inl (), s0))
else
if p3 = 0 then (
some (.inl (), s0))
else
if (1 : Int) = 0 then (
some (.inr 0, s0))
else
some (.inr 1, s0)) fun (y14 : Unit) s15 =>
if (0 : Int) = 0 then (
some (0, s15))
else
some (1, s15))
else if (0 : Int) = 0 then (
some (0, s0))
else
some (1, s0)
def fX3_value (p1 : Int) (p2 : Int) (s0 : St) : Rs Int :=
bnx (itr FUEL (fun (x1 : Int × Int) s2 =>
if x1.2 < p2 then (
bnd (fX6_get 20 21 400 x1.2 0 s2) fun r4 s5 =>
lb (w32 (w32 (-r4) - 270)) fun v7 =>
bnx (
if r4 < 0 then (
bnd (fX11_within v7 0 9 s5) fun r9 s10 =>
if r9 = 0 then (
if r4 = (-266) then (
if x1.1 < 1 then (
some (.inr (.inr (.inr 0)), s10))
else
lod s10 151 40 (w32 (x1.1 - 1)) fun v20 =>
if v20 = 0 then (
sto s10 151 40 (w32 (x1.1 - 1)) 1 fun s23 =>
some (.inr (.inl (x1.1, w32 (x1.2 + 1))), s23))
else
sto s10 151 40 (w32 (x1.1 - 1)) 0 fun s22 =>
some (.inr (.inl (x1.1, w32 (x1.2 + 1))), s22))
else
if x1.1 < 2 then (
some (.inr (.inr (.inr 0)), s10))
else
lod s10 151 40 (w32 (w32 (x1.1 + (-1)) - 1)) fun v12 =>
lod s10 151 40 (w32 (x1.1 + (-1))) fun v14 =>
bnd (fX3_joined (w32 (-r4)) v12 v14 s10) fun r16 s17 =>
sto s17 151 40 (w32 (w32 (x1.1 + (-1)) - 1)) r16 fun s19 =>
some (.inr (.inl (w32 (x1.1 + (-1)), w32 (x1.2 + 1))), s19))
else
some (.inl (x1.1, x1.2), s10))
else
some (.inl (x1.1, x1.2), s5)) fun (y24 : Int × Int) s25 =>
if y24.1 < 40 then (
if r4 < 0 then (
lod s25 150 10 v7 fun v27 =>
sto s25 151 40 y24.1 v27 fun s29 =>
some (.inl (w32 (y24.1 + 1), w32 (y24.2 + 1)), s29))
else
sto s25 151 40 y24.1 r4 fun s30 =>
some (.inl (w32 (y24.1 + 1), w32 (y24.2 + 1)), s30))
else
some (.inr (.inr 0), s25))
else
some (.inr (.inl x1.1), s2)) (0, p1) s0) fun (y31 : Int) s32 =>
if 0 < y31 then (
lod s32 151 40 (w32 (y31 - 1)) fun v34 =>
some (v34, s32))
else
some (0, s32)
def fX3_tells (p1 : Int) (p2 : Int) (p3 : Int) (s0 : St) : Rs Int :=
bnd (fX3_lookAt p2 p3 s0) fun r1 s2 =>
bnx (itr FUEL (fun (x4 : Int) s5 =>
bnd (fX6_size 18 19 64 s5) fun r7 s8 =>
if x4 < r7 then (
bnd (fX6_get 18 19 64 x4 0 s8) fun r10 s11 =>
if r10 = p1 then (
bnd (fX6_get 18 19 64 x4 2 s11) fun r13 s14 =>
bnd (fX6_get 18 19 64 x4 3 s14) fun r16 s17 =>
bnx (
if r13 < r16 then (
bnd (fX3_value r13 r16 s17) fun r19 s20 =>
if r19 = 0 then (
some (.inr (.inl (w32 (x4 + 1))), s20))
else
some (.inl x4, s20))
else
some (.inl x4, s17)) fun (y22 : Int) s23 =>
bnd (
if p1 = 262 then (
some (9, s23))
else
some (1000, s23)) fun (y25 : Int) s26 =>
bnd (fX6_get 18 19 64 y22 1 s26) fun r28 s29 =>
bnd (fX3_value r28 r13 s29) fun r31 s32 =>
some (.inr (.inr (imx 0 (imn y25 r31))), s32))
else
some (.inl (w32 (x4 + 1)), s11))
else
some (.inr (.inl ()), s8)) 0 s2) fun (y34 : Unit) s35 =>
if p1 = 260 then (
lod s35 150 10 0 fun v39 =>
some (w32 (60 * v39), s35))
else
if p1 = 261 then (
lod s35 150 10 1 fun v37 =>
some (w32 (100 * v37), s35))
else
some (1, s35)
def fX2_draw (p1 : Int) (s0 : St) : Rs Int :=
fld s0 3 0 fun v1 =>
put s0 3 0 (w32 (w32 (1664525 * v1) + 1013904223)) fun s3 =>
if 0 < p1 then (
fld s3 3 0 fun v4 =>
dvc p1 <|
some (irm (iushr v4 8) p1, s3))
else
some (0, s3)
def fX1_happens (p1 : Int) (s0 : St) : Rs Int :=
if 0 < p1 then (
fld s0 152 4 fun v1 =>
if v1 = 0 then (
bnd (fX2_draw 1000 s0) fun r3 s4 =>
if r3 < p1 then (
some (1, s4))
else
some (0, s4))
else
if p1 < 500 then (
some (0, s0))
else
some (1, s0))
else
some (0, s0)
def fX9_feet (p1 : Int) (p2 : Int) (s0 : St) : Rs Int :=
bnd (itr FUEL (fun (x1 : Int × Int) s2 =>
bnd (fX6_size 26 27 64 s2) fun r4 s5 =>
if x1.2 < r4 then (
bnd (fX6_get 26 27 64 x1.2 0 s5) fun r7 s8 =>
bnd (fX6_get 26 27 64 x1.2 1 s8) fun r10 s11 =>
bnd (
if r7 = p1 then (
if r10 = p2 then (
some (1, s11))
else
if r7 = p2 then (
if r10 = p1 then (
some (1, s11))
else
some (0, s11))
else
some (0, s11))
else
if r7 = p2 then (
if r10 = p1 then (
some (1, s11))
else
some (0, s11))
else
some (0, s11)) fun (y13 : Int) s14 =>
bnd (fX6_get 26 27 64 x1.2 2 s14) fun r16 s17 =>
if y13 = 0 then (
some (.inl (x1.1, w32 (x1.2 + 1)), s17))
else
if x1.1 = (-1) then (
some (.inl (r16, w32 (x1.2 + 1)), s17))
else
if r16 < x1.1 then (
some (.inl (r16, w32 (x1.2 + 1)), s17))
else
some (.inl (x1.1, w32 (x1.2 + 1)), s17))
else
some (.inr x1.1, s5)) ((-1), 0) s0) fun (y19 : Int) s20 =>
some (y19, s20)
def fX1_hearsNow (p1 : Int) (p2 : Int) (p3 : Int) (s0 : St) : Rs Int :=
lod s0 11 20 p1 fun v1 =>
if v1 = (-1) then (
some (0, s0))
else
bnx (
if v1 = p3 then (
some (.inl (), s0))
else
bnd (fX9_feet p3 v1 s0) fun r3 s4 =>
if r3 = (-1) then (
some (.inr 0, s4))
else
if 10 < r3 then (
some (.inr 0, s4))
else
bnd (fX3_tells 261 p1 p3 s4) fun r6 s7 =>
bnd (fX1_happens r6 s7) fun r9 s10 =>
if r9 = 0 then (
some (.inr 0, s10))
else
bnd (fX1_write 2 p1 p2 s10) fun r12 s13 =>
some (.inl (), s13)) fun (y15 : Unit) s16 =>
lod s16 15 20 p1 fun v18 =>
sto s16 15 20 p1 (w32 (v18 + 1)) fun s20 =>
some (1, s20)
def fX1_speaksNow (p1 : Int) (s0 : St) : Rs Int :=
lod s0 11 20 p1 fun v1 =>
if v1 = (-1) then (
some (0, s0))
else
bnd (fX3_tells 260 p1 v1 s0) fun r3 s4 =>
bnd (fX1_happens r3 s4) fun r6 s7 =>
if r6 = 0 then (
some (0, s7))
else
lod s7 14 20 p1 fun v9 =>
sto s7 14 20 p1 (w32 (v9 + 1)) fun s11 =>
bnd (itr FUEL (fun (x12 : Int × Int) s13 =>
fld s13 3 5 fun v15 =>
if x12.2 < v15 then (
if x12.2 = p1 then (
some (.inl (x12.1, w32 (x12.2 + 1)), s13))
else
bnd (fX1_hearsNow x12.2 p1 v1 s13) fun r17 s18 =>
if r17 = 0 then (
some (.inl (x12.1, w32 (x12.2 + 1)), s18))
else
some (.inl (w32 (x12.1 + 1), w32 (x12.2 + 1)), s18))
else
some (.inr x12.1, s13)) (0, 0) s11) fun (y20 : Int) s21 =>
bnd (fX1_write 1 p1 y20 s21) fun r23 s24 =>
some (1, s24)
def fX1_stayOrRise  (s0 : St) : Rs Int :=
bnd (itr FUEL (fun (x1 : Int) s2 =>
fld s2 3 5 fun v4 =>
if x1 < v4 then (
lod s2 11 20 x1 fun v6 =>
if v6 = (-1) then (
some (.inl (w32 (x1 + 1)), s2))
else
lod s2 12 20 x1 fun v8 =>
sto s2 12 20 x1 (w32 (v8 + 1)) fun s10 =>
lod s10 12 20 x1 fun v11 =>
lod s10 13 20 x1 fun v13 =>
if v11 < v13 then (
some (.inl (w32 (x1 + 1)), s10))
else
bnd (fX2_rise x1 s10) fun r15 s16 =>
some (.inl (w32 (x1 + 1)), s16))
else
some (.inr (), s2)) 0 s0) fun (y18 : Unit) s19 =>
some (0, s19)
def fX1_acceptAt (p1 : Int) (s0 : St) : Rs Int :=
lod s0 7 12 p1 fun v1 =>
bnd (fX2_hasPerson v1 s0) fun r3 s4 =>
if r3 = 0 then (
some (0, s4))
else
lod s4 11 20 v1 fun v6 =>
if v6 = p1 then (
bnd (itr FUEL (fun (x8 : Int) s9 =>
fld s9 3 5 fun v11 =>
if x8 < v11 then (
lod s9 11 20 x8 fun v13 =>
bnd (
if v13 = p1 then (
if x8 = v1 then (
some (0, s9))
else
some (1, s9))
else
some (0, s9)) fun (y15 : Int) s16 =>
if y15 = 0 then (
some (.inl (w32 (x8 + 1)), s16))
else
lod s16 16 20 x8 fun v18 =>
if v18 = (-1) then (
sto s16 16 20 x8 v1 fun s20 =>
bnd (fX1_write 3 x8 v1 s20) fun r21 s22 =>
some (.inl (w32 (x8 + 1)), s22))
else
some (.inl (w32 (x8 + 1)), s16))
else
some (.inr (), s9)) 0 s4) fun (y24 : Unit) s25 =>
some (0, s25))
else
some (0, s4)
def fX1_burnLamps  (s0 : St) : Rs Int :=
bnd (itr FUEL (fun (x1 : Int) s2 =>
fld s2 3 4 fun v4 =>
if x1 < v4 then (
lod s2 5 12 x1 fun v6 =>
if v6 = 0 then (
some (.inl (w32 (x1 + 1)), s2))
else
lod s2 5 12 x1 fun v8 =>
sto s2 5 12 x1 (w32 (v8 - 1)) fun s10 =>
lod s10 5 12 x1 fun v11 =>
if v11 = 0 then (
bnd (fX1_acceptAt x1 s10) fun r13 s14 =>
some (.inl (w32 (x1 + 1)), s14))
else
some (.inl (w32 (x1 + 1)), s10))
else
some (.inr (), s2)) 0 s0) fun (y16 : Unit) s17 =>
some (0, s17)
def fX1_spinCobwebs  (s0 : St) : Rs Int :=
bnd (itr FUEL (fun (x1 : Int) s2 =>
fld s2 3 4 fun v4 =>
if x1 < v4 then (
lod s2 8 12 x1 fun v6 =>
if 0 < v6 then (
some (.inl (w32 (x1 + 1)), s2))
else
bnd (fX3_tells 262 (-1) x1 s2) fun r8 s9 =>
lod s9 6 12 x1 fun v11 =>
sto s9 6 12 x1 (imn 99 (w32 (v11 + r8))) fun s13 =>
some (.inl (w32 (x1 + 1)), s13))
else
some (.inr (), s2)) 0 s0) fun (y14 : Unit) s15 =>
some (0, s15)
def fX1_turnClock  (s0 : St) : Rs Int :=
fld s0 3 1 fun v1 =>
put s0 3 1 (w32 (v1 + 1)) fun s3 =>
fld s3 3 1 fun v4 =>
if v4 < 60 then (
some (0, s3))
else
put s3 3 1 0 fun s6 =>
fld s6 3 2 fun v7 =>
put s6 3 2 (w32 (v7 + 1)) fun s9 =>
bnd (itr FUEL (fun (x10 : Int) s11 =>
fld s11 3 5 fun v13 =>
if x10 < v13 then (
bnd (fX2_rise x10 s11) fun r15 s16 =>
some (.inl (w32 (x10 + 1)), s16))
else
some (.inr (), s11)) 0 s9) fun (y18 : Unit) s19 =>
some (0, s19)
def fX1_pass (p1 : Int) (s0 : St) : Rs Int :=
put s0 152 4 p1 fun s1 =>
fld s1 3 1 fun v2 =>
bnd (
if v2 = 0 then (
bnd (fX1_beginEvening s1) fun r4 s5 =>
some ((), s5))
else
some ((), s1)) fun (y7 : Unit) s8 =>
bnd (fX1_followCalls s8) fun r10 s11 =>
bnd (fX1_letItRain s11) fun r13 s14 =>
bnd (itr FUEL (fun (x16 : Int × Int) s17 =>
fld s17 3 5 fun v19 =>
if x16.2 < v19 then (
bnd (fX1_speaksNow x16.2 s17) fun r21 s22 =>
if r21 = 0 then (
some (.inl (x16.1, w32 (x16.2 + 1)), s22))
else
some (.inl (w32 (x16.1 + 1), w32 (x16.2 + 1)), s22))
else
some (.inr x16.1, s17)) (0, 0) s14) fun (y24 : Int) s25 =>
bnd (fX1_stayOrRise s25) fun r27 s28 =>
bnd (fX1_burnLamps s28) fun r30 s31 =>
bnd (fX1_spinCobwebs s31) fun r33 s34 =>
bnd (fX1_turnClock s34) fun r36 s37 =>
put s37 152 4 0 fun s39 =>
some (y24, s39)
def fX2_sumOf (p1 : Int) (s0 : St) : Rs Int :=
bnd (itr FUEL (fun (x1 : Int × Int) s2 =>
fld s2 3 5 fun v4 =>
if x1.2 < v4 then (
bnd (
if p1 = 0 then (
lod s2 14 20 x1.2 fun v6 =>
lb (w32 (x1.1 + v6)) fun v8 =>
some (v8, s2))
else
some (x1.1, s2)) fun (y10 : Int) s11 =>
if p1 = 1 then (
lod s11 15 20 x1.2 fun v13 =>
lb (w32 (y10 + v13)) fun v15 =>
some (.inl (v15, w32 (x1.2 + 1)), s11))
else
some (.inl (y10, w32 (x1.2 + 1)), s11))
else
some (.inr x1.1, s2)) (0, 0) s0) fun (y17 : Int) s18 =>
bnd (itr FUEL (fun (x20 : Int × Int) s21 =>
fld s21 3 4 fun v23 =>
if x20.2 < v23 then (
bnd (
if p1 = 2 then (
lod s21 6 12 x20.2 fun v25 =>
lb (w32 (x20.1 + v25)) fun v27 =>
some (v27, s21))
else
some (x20.1, s21)) fun (y29 : Int) s30 =>
if p1 = 3 then (
lod s30 5 12 x20.2 fun v32 =>
lb (w32 (y29 + v32)) fun v34 =>
some (.inl (v34, w32 (x20.2 + 1)), s30))
else
some (.inl (y29, w32 (x20.2 + 1)), s30))
else
some (.inr x20.1, s21)) (y17, 0) s18) fun (y36 : Int) s37 =>
some (y36, s37)
def fX11_goes (p1 : Int) (p2 : Int) (s0 : St) : Rs Int :=
bnd (fX11_within p1 1 60 s0) fun r1 s2 =>
if r1 = 0 then (
some ((-1), s2))
else
bnd (fX11_within p2 0 3 s2) fun r4 s5 =>
if r4 = 0 then (
some ((-1), s5))
else
bnd (fX2_copyFrom 171 3 s5) fun r7 s8 =>
bnd (itr FUEL (fun (x10 : Int) s11 =>
if x10 < p1 then (
bnd (fX1_pass 1 s11) fun r13 s14 =>
some (.inl (w32 (x10 + 1)), s14))
else
some (.inr (), s11)) 0 s8) fun (y16 : Unit) s17 =>
bnd (fX2_sumOf p2 s17) fun r19 s20 =>
bnd (fX2_copyFrom 3 171 s20) fun r22 s23 =>
some (r19, s23)
def fX9_halfOf (p1 : Int) (s0 : St) : Rs Int :=
if p1 = 0 then (
some (((40 : Nat) : Int), s0))
else
if p1 = 1 then (
some (((42 : Nat) : Int), s0))
else
some (((44 : Nat) : Int), s0)
def fX11_half (p1 : Int) (p2 : Int) (s0 : St) : Rs Int :=
bnd (fX11_within p1 0 2 s0) fun r1 s2 =>
if r1 = 0 then (
some ((-1), s2))
else
bnd (fX9_halfOf p1 s2) fun r4 s5 =>
if p2 = (-1) then (
bnd (fX6_clear r4.toNat (r4.toNat + 1) (halfLen r4) s5) fun r13 s14 =>
some (r13, s14))
else
bnd (fX11_within p2 0 9 s5) fun r7 s8 =>
if r7 = 0 then (
some ((-1), s8))
else
bnd (fX6_add r4.toNat (r4.toNat + 1) (halfLen r4) p2 s8) fun r10 s11 =>
some (r10, s11)
def fX4_waysHeard  (s0 : St) : Rs Int :=
bnd (fX6_size 40 41 12 s0) fun r1 s2 =>
bnd (fX6_size 42 43 12 s2) fun r4 s5 =>
bnd (fX6_size 44 45 24 s5) fun r7 s8 =>
if r7 = w32 (r1 + r4) then (
if r4 < 13 then (
bnd (itr FUEL (fun (x10 : Int) s11 =>
if r1 < x10 then (
some (.inr (), s11))
else
bnd (itr FUEL (fun (x13 : Int) s14 =>
if r4 < x13 then (
some (.inr (), s14))
else
bnd (
if x10 = 0 then (
if x13 = 0 then (
some (1, s14))
else
some (0, s14))
else
some (0, s14)) fun (y16 : Int) s17 =>
bnd (fX6_get 44 45 24 (w32 (w32 (x10 + x13) - 1)) 0 s17) fun r19 s20 =>
bnd (
if 0 < x10 then (
bnd (fX6_get 40 41 12 (w32 (x10 - 1)) 0 s20) fun r22 s23 =>
if r22 = r19 then (
lod s23 164 13 x13 fun v25 =>
lb (w64 (y16 + v25)) fun v27 =>
some (v27, s23))
else
some (y16, s23))
else
some (y16, s20)) fun (y29 : Int) s30 =>
bnd (
if 0 < x13 then (
bnd (fX6_get 42 43 12 (w32 (x13 - 1)) 0 s30) fun r32 s33 =>
if r32 = r19 then (
lod s33 164 13 (w32 (x13 - 1)) fun v35 =>
lb (w64 (y29 + v35)) fun v37 =>
some (v37, s33))
else
some (y29, s33))
else
some (y29, s30)) fun (y39 : Int) s40 =>
dvc 1000000007 <|
sto s40 164 13 x13 (lrm y39 1000000007) fun s43 =>
some (.inl (w32 (x13 + 1)), s43)) 0 s11) fun (y44 : Unit) s45 =>
some (.inl (w32 (x10 + 1)), s45)) 0 s8) fun (y47 : Unit) s48 =>
lod s48 164 13 r4 fun v50 =>
some (l2i v50, s48))
else
some (0, s8))
else
some (0, s8)
def fX11_halves (p1 : Int) (s0 : St) : Rs Int :=
if p1 = 0 then (
bnd (fX4_waysHeard s0) fun r4 s5 =>
if 0 < r4 then (
some (1, s5))
else
some (0, s5))
else
if p1 = 1 then (
bnd (fX4_waysHeard s0) fun r1 s2 =>
some (r1, s2))
else
some ((-1), s0)
def fX11_hears (p1 : Int) (p2 : Int) (s0 : St) : Rs Int :=
bnd (fX2_hasPerson p1 s0) fun r1 s2 =>
if r1 = 0 then (
some ((-1), s2))
else
bnd (fX2_hasPorch p2 s2) fun r4 s5 =>
if r4 = 0 then (
some ((-1), s5))
else
bnd (fX3_tells 261 p1 p2 s5) fun r7 s8 =>
some (r7, s8)
def fX4_hang (p1 : Int) (s0 : St) : Rs Int :=
bnd (itr FUEL (fun (x1 : Int × Int × Int) s2 =>
if x1.2.2 < 9 then (
if x1.2.1 < 10 then (
some (.inr (x1.1, x1.2.1), s2))
else
dvc 10 <|
lb (idv x1.2.1 10) fun v5 =>
some (.inl (w32 (x1.1 + 1), v5, w32 (x1.2.2 + 1)), s2))
else
some (.inr (x1.1, x1.2.1), s2)) (0, p1, 0) s0) fun (y7 : Int × Int) s8 =>
if y7.2 = 1 then (
if y7.1 = 0 then (
some ((-1), s8))
else
lb (w32 (y7.1 - 1)) fun v10 =>
bnd (itr FUEL (fun (x12 : Int × Int × Int) s13 =>
if x12.2.2 < 0 then (
some (.inr x12.2.1, s13))
else
dvc 10 <|
sto s13 169 9 x12.2.2 (irm x12.1 10) fun s16 =>
lod s16 169 9 x12.2.2 fun v17 =>
lb (ior x12.2.1 (ishl 1 v17)) fun v19 =>
dvc 10 <|
lb (idv x12.1 10) fun v22 =>
some (.inl (v22, v19, w32 (x12.2.2 + (-1))), s16)) (p1, 0, v10) s8) fun (y24 : Int) s25 =>
if y24 = w32 (ishl 1 y7.1 - 1) then (
some (y7.1, s25))
else
some ((-1), s25))
else
some ((-1), s8)
def fX4_longestRising (p1 : Int) (s0 : St) : Rs Int :=
bnd (itr FUEL (fun (x1 : Int × Int) s2 =>
if x1.2 < p1 then (
if x1.2 < 9 then (
sto s2 170 9 x1.2 1 fun s4 =>
bnd (itr FUEL (fun (x5 : Int) s6 =>
if x5 < x1.2 then (
lod s6 169 9 x5 fun v8 =>
lod s6 169 9 x1.2 fun v10 =>
if v8 < v10 then (
lod s6 170 9 x1.2 fun v12 =>
lod s6 170 9 x5 fun v14 =>
sto s6 170 9 x1.2 (imx v12 (w32 (v14 + 1))) fun s16 =>
some (.inl (w32 (x5 + 1)), s16))
else
some (.inl (w32 (x5 + 1)), s6))
else
some (.inr (), s6)) 0 s4) fun (y17 : Unit) s18 =>
lod s18 170 9 x1.2 fun v20 =>
lb (imx x1.1 v20) fun v22 =>
some (.inl (v22, w32 (x1.2 + 1)), s18))
else
some (.inr x1.1, s2))
else
some (.inr x1.1, s2)) (0, 0) s0) fun (y24 : Int) s25 =>
some (y24, s25)
def fX4_lesserBehind (p1 : Int) (p2 : Int) (s0 : St) : Rs Int :=
lb (w32 (p1 + 1)) fun v1 =>
bnd (itr FUEL (fun (x3 : Int × Int) s4 =>
if x3.2 < p2 then (
if x3.2 < 9 then (
lod s4 169 9 x3.2 fun v6 =>
lod s4 169 9 p1 fun v8 =>
if v6 < v8 then (
some (.inl (w32 (x3.1 + 1), w32 (x3.2 + 1)), s4))
else
some (.inl (x3.1, w32 (x3.2 + 1)), s4))
else
some (.inr x3.1, s4))
else
some (.inr x3.1, s4)) (0, v1) s0) fun (y10 : Int) s11 =>
some (y10, s11)
def fX4_wrongCouples (p1 : Int) (s0 : St) : Rs Int :=
bnd (itr FUEL (fun (x1 : Int × Int) s2 =>
if x1.2 < p1 then (
bnd (fX4_lesserBehind x1.2 p1 s2) fun r4 s5 =>
lb (w32 (x1.1 + r4)) fun v7 =>
some (.inl (v7, w32 (x1.2 + 1)), s5))
else
some (.inr x1.1, s2)) (0, 0) s0) fun (y9 : Int) s10 =>
some (y9, s10)
def fX4_placeAmongAll (p1 : Int) (s0 : St) : Rs Int :=
bnd (itr FUEL (fun (x1 : Int × Int) s2 =>
if x1.2 < p1 then (
bnd (fX4_lesserBehind x1.2 p1 s2) fun r4 s5 =>
lb (w32 (w32 (x1.1 * w32 (p1 - x1.2)) + r4)) fun v7 =>
some (.inl (v7, w32 (x1.2 + 1)), s5))
else
some (.inr x1.1, s2)) (0, 0) s0) fun (y9 : Int) s10 =>
some (y9, s10)
def fX11_hooks (p1 : Int) (p2 : Int) (s0 : St) : Rs Int :=
bnd (fX4_hang p1 s0) fun r1 s2 =>
if r1 = (-1) then (
some ((-1), s2))
else
if p2 = 0 then (
bnd (fX4_longestRising r1 s2) fun r5 s6 =>
some (r5, s6))
else if p2 = 1 then (
bnd (fX4_wrongCouples r1 s2) fun r9 s10 =>
some (r9, s10))
else if p2 = 2 then (
bnd (fX4_placeAmongAll r1 s2) fun r13 s14 =>
some (r13, s14))
else some ((-1), s2)
def fX6_copyFrom (ro rc rn : Nat) (ro2 rc2 rn2 : Nat) (s0 : St) : Rs Int :=
fld s0 ro2 0 fun v1 =>
fld s0 ro 0 fun v3 =>
if v1 = v3 then (
if (rn2 : Int) = (rn : Int) then (
fld s0 ro2 2 fun v5 =>
put s0 ro 2 v5 fun s7 =>
fld s7 ro 2 fun v8 =>
fld s7 ro 0 fun v10 =>
cpy s7 rc2 rn2 0 rc rn 0 (w32 (v8 * v10)) fun s12 =>
some (0, s12))
else
some (0, s0))
else
some (0, s0)
def fX9_copyFrom_17_199  (s0 : St) : Rs Int :=
bnd (fX6_copyFrom 18 19 64 200 201 64 s0) fun r1 s2 =>
bnd (fX6_copyFrom 20 21 400 202 203 400 s2) fun r4 s5 =>
bnd (fX6_copyFrom 22 23 64 204 205 64 s5) fun r7 s8 =>
bnd (fX6_copyFrom 24 25 64 206 207 64 s8) fun r10 s11 =>
bnd (fX6_copyFrom 26 27 64 208 209 64 s11) fun r13 s14 =>
bnd (fX6_copyFrom 28 29 50 210 211 50 s14) fun r16 s17 =>
bnd (fX6_copyFrom 30 31 10 212 213 10 s17) fun r19 s20 =>
bnd (fX6_copyFrom 32 33 48 214 215 48 s20) fun r22 s23 =>
bnd (fX6_copyFrom 34 35 8 216 217 8 s23) fun r25 s26 =>
bnd (fX6_copyFrom 36 37 12 218 219 12 s26) fun r28 s29 =>
bnd (fX6_copyFrom 38 39 24 220 221 24 s29) fun r31 s32 =>
bnd (fX6_copyFrom 40 41 12 222 223 12 s32) fun r34 s35 =>
bnd (fX6_copyFrom 42 43 12 224 225 12 s35) fun r37 s38 =>
bnd (fX6_copyFrom 44 45 24 226 227 24 s38) fun r40 s41 =>
bnd (fX6_copyFrom 46 47 8 228 229 8 s41) fun r43 s44 =>
bnd (fX6_copyFrom 48 49 16 230 231 16 s44) fun r46 s47 =>
some (0, s47)
def fX9_copyFrom_199_17  (s0 : St) : Rs Int :=
bnd (fX6_copyFrom 200 201 64 18 19 64 s0) fun r1 s2 =>
bnd (fX6_copyFrom 202 203 400 20 21 400 s2) fun r4 s5 =>
bnd (fX6_copyFrom 204 205 64 22 23 64 s5) fun r7 s8 =>
bnd (fX6_copyFrom 206 207 64 24 25 64 s8) fun r10 s11 =>
bnd (fX6_copyFrom 208 209 64 26 27 64 s11) fun r13 s14 =>
bnd (fX6_copyFrom 210 211 50 28 29 50 s14) fun r16 s17 =>
bnd (fX6_copyFrom 212 213 10 30 31 10 s17) fun r19 s20 =>
bnd (fX6_copyFrom 214 215 48 32 33 48 s20) fun r22 s23 =>
bnd (fX6_copyFrom 216 217 8 34 35 8 s23) fun r25 s26 =>
bnd (fX6_copyFrom 218 219 12 36 37 12 s26) fun r28 s29 =>
bnd (fX6_copyFrom 220 221 24 38 39 24 s29) fun r31 s32 =>
bnd (fX6_copyFrom 222 223 12 40 41 12 s32) fun r34 s35 =>
bnd (fX6_copyFrom 224 225 12 42 43 12 s35) fun r37 s38 =>
bnd (fX6_copyFrom 226 227 24 44 45 24 s38) fun r40 s41 =>
bnd (fX6_copyFrom 228 229 8 46 47 8 s41) fun r43 s44 =>
bnd (fX6_copyFrom 230 231 16 48 49 16 s44) fun r46 s47 =>
some (0, s47)
def fX11_image (p1 : Int) (s0 : St) : Rs Int :=
if p1 = 0 then (
fld s0 0 14 fun v1 =>
if v1 = 0 then (
some (0, s0))
else
bnd (fX2_copyFrom 3 185 s0) fun r3 s4 =>
bnd (fX9_copyFrom_17_199 s4) fun r6 s7 =>
bnd (fX6_copyFrom 50 51 750 232 233 750 s7) fun r9 s10 =>
bnd (fX10_forget s10) fun r12 s13 =>
some (1, s13))
else
bnd (fX2_copyFrom 185 3 s0) fun r15 s16 =>
bnd (fX9_copyFrom_199_17 s16) fun r18 s19 =>
bnd (fX6_copyFrom 232 233 750 50 51 750 s19) fun r21 s22 =>
put s22 0 14 1 fun s24 =>
some (1, s24)
def fX4_enqueue (p1 : Int) (p2 : Int) (s0 : St) : Rs Int :=
bnd (fX11_within p1 0 (w32 (169 - 1)) s0) fun r1 s2 =>
if r1 = 0 then (
some (0, s2))
else
fld s2 157 14 fun v4 =>
if v4 < 169 then (
lod s2 165 169 p1 fun v6 =>
if v6 = (-1) then (
sto s2 165 169 p1 p2 fun s8 =>
fld s8 157 14 fun v9 =>
sto s8 166 169 v9 p1 fun s11 =>
fld s11 157 14 fun v12 =>
put s11 157 14 (w32 (v12 + 1)) fun s14 =>
some (0, s14))
else
some (0, s2))
else
some (0, s2)
def fX4_seeCans (p1 : Int) (s0 : St) : Rs Int :=
dvc 13 <|
sto s0 167 3 1 (idv p1 13) fun s2 =>
dvc 13 <|
sto s2 167 3 2 (irm p1 13) fun s4 =>
lod s4 168 3 0 fun v5 =>
lod s4 167 3 1 fun v7 =>
lod s4 167 3 2 fun v9 =>
sto s4 167 3 0 (w32 (w32 (v5 - v7) - v9)) fun s11 =>
some (0, s11)
def fX4_pour (p1 : Int) (p2 : Int) (p3 : Int) (s0 : St) : Rs Int :=
bnd (fX4_seeCans p1 s0) fun r1 s2 =>
lod s2 167 3 p2 fun v4 =>
lod s2 168 3 p3 fun v6 =>
lod s2 167 3 p3 fun v8 =>
lb (imn v4 (w32 (v6 - v8))) fun v10 =>
lod s2 167 3 p2 fun v12 =>
sto s2 167 3 p2 (w32 (v12 - v10)) fun s14 =>
lod s14 167 3 p3 fun v15 =>
sto s14 167 3 p3 (w32 (v15 + v10)) fun s17 =>
lod s17 167 3 1 fun v18 =>
lod s17 167 3 2 fun v20 =>
lod s17 165 169 p1 fun v22 =>
bnd (fX4_enqueue (w32 (w32 (v18 * 13) + v20)) (w32 (v22 + 1)) s17) fun r24 s25 =>
some (0, s25)
def fX4_fewestPourings (p1 : Int) (p2 : Int) (p3 : Int) (p4 : Int) (s0 : St) : Rs Int :=
sto s0 168 3 0 p1 fun s1 =>
sto s1 168 3 1 p2 fun s2 =>
sto s2 168 3 2 p3 fun s3 =>
bnd (fJ7_fill_53178 165 169 (-1) s3) fun r4 s5 =>
put s5 157 14 0 fun s7 =>
bnd (fX4_enqueue 0 0 s7) fun r8 s9 =>
bnx (itr FUEL (fun (x11 : Int) s12 =>
fld s12 157 14 fun v14 =>
if x11 < v14 then (
if x11 < 169 then (
lod s12 166 169 x11 fun v16 =>
bnd (fX11_within v16 0 (w32 (169 - 1)) s12) fun r18 s19 =>
if r18 = 0 then (
some (.inl (w32 (x11 + 1)), s19))
else
bnd (fX4_seeCans v16 s19) fun r21 s22 =>
lod s22 167 3 0 fun v24 =>
if v24 = p4 then (
some (.inr (.inl v16), s22))
else
lod s22 167 3 1 fun v26 =>
if v26 = p4 then (
some (.inr (.inl v16), s22))
else
lod s22 167 3 2 fun v28 =>
if v28 = p4 then (
some (.inr (.inl v16), s22))
else
bnd (itr FUEL (fun (x30 : Int) s31 =>
if x30 < 3 then (
bnd (itr FUEL (fun (x33 : Int) s34 =>
if x33 < 3 then (
if x30 = x33 then (
some (.inl (w32 (x33 + 1)), s34))
else
bnd (fX4_pour v16 x30 x33 s34) fun r36 s37 =>
some (.inl (w32 (x33 + 1)), s37))
else
some (.inr (), s34)) 0 s31) fun (y39 : Unit) s40 =>
some (.inl (w32 (x30 + 1)), s40))
else
some (.inr (), s31)) 0 s22) fun (y42 : Unit) s43 =>
some (.inl (w32 (x11 + 1)), s43))
else
some (.inr (.inr (-1)), s12))
else
some (.inr (.inr (-1)), s12)) 0 s9) fun (y45 : Int) s46 =>
lod s46 165 169 y45 fun v48 =>
some (v48, s46)
def fX11_lamps (p1 : Int) (p2 : Int) (p3 : Int) (p4 : Int) (s0 : St) : Rs Int :=
bnd (fX11_within p1 1 12 s0) fun r1 s2 =>
if r1 = 0 then (
some ((-1), s2))
else
bnd (fX11_within p2 1 12 s2) fun r4 s5 =>
if r4 = 0 then (
some ((-1), s5))
else
bnd (fX11_within p3 1 12 s5) fun r7 s8 =>
if r7 = 0 then (
some ((-1), s8))
else
bnd (fX11_within p4 0 12 s8) fun r10 s11 =>
if r10 = 0 then (
some ((-1), s11))
else
bnd (fX4_fewestPourings p1 p2 p3 p4 s11) fun r13 s14 =>
some (r13, s14)
def fX4_walk (p1 : Int) (p2 : Int) (p3 : Int) (s0 : St) : Rs Int :=
bnd (fX11_within p1 0 11 s0) fun r1 s2 =>
if r1 = 0 then (
some (0, s2))
else
bnd (fX11_within p2 0 11 s2) fun r4 s5 =>
if r4 = 0 then (
some (0, s5))
else
lod s5 161 12 p1 fun v7 =>
if v7 = (-1) then (
some (0, s5))
else
lod s5 161 12 p1 fun v9 =>
lb (w32 (v9 + p3)) fun v11 =>
lod s5 161 12 p2 fun v13 =>
if v13 = (-1) then (
sto s5 161 12 p2 v11 fun s15 =>
some (0, s15))
else
lod s5 161 12 p2 fun v16 =>
if v11 < v16 then (
sto s5 161 12 p2 v11 fun s18 =>
some (0, s18))
else
some (0, s5)
def fX4_lastToHear (p1 : Int) (p2 : Int) (s0 : St) : Rs Int :=
bnd (fX11_within p1 0 11 s0) fun r1 s2 =>
if r1 = 0 then (
some ((-1), s2))
else
bnd (fJ7_fill_53178 161 12 (-1) s2) fun r4 s5 =>
sto s5 161 12 p1 0 fun s7 =>
bnd (itr FUEL (fun (x8 : Int) s9 =>
if x8 < 12 then (
bnd (itr FUEL (fun (x11 : Int) s12 =>
bnd (fX6_size 26 27 64 s12) fun r14 s15 =>
if x11 < r14 then (
bnd (fX6_get 26 27 64 x11 0 s15) fun r17 s18 =>
bnd (fX6_get 26 27 64 x11 1 s18) fun r20 s21 =>
bnd (fX6_get 26 27 64 x11 2 s21) fun r23 s24 =>
bnd (fX4_walk r17 r20 r23 s24) fun r26 s27 =>
bnd (fX6_get 26 27 64 x11 1 s27) fun r29 s30 =>
bnd (fX6_get 26 27 64 x11 0 s30) fun r32 s33 =>
bnd (fX6_get 26 27 64 x11 2 s33) fun r35 s36 =>
bnd (fX4_walk r29 r32 r35 s36) fun r38 s39 =>
some (.inl (w32 (x11 + 1)), s39))
else
some (.inr (), s15)) 0 s9) fun (y41 : Unit) s42 =>
some (.inl (w32 (x8 + 1)), s42))
else
some (.inr (), s9)) 0 s7) fun (y44 : Unit) s45 =>
bnd (itr FUEL (fun (x47 : Int × Int × Int) s48 =>
if x47.2.2 < 12 then (
lod s48 161 12 x47.2.2 fun v50 =>
bnd (
if v50 = (-1) then (
some (x47.2.1, s48))
else
some (w32 (x47.2.1 + 1), s48)) fun (y52 : Int) s53 =>
lod s53 161 12 x47.2.2 fun v55 =>
lod s53 161 12 x47.1 fun v57 =>
if v57 < v55 then (
some (.inl (x47.2.2, y52, w32 (x47.2.2 + 1)), s53))
else
some (.inl (x47.1, y52, w32 (x47.2.2 + 1)), s53))
else
some (.inr (x47.1, x47.2.1), s48)) (p1, 0, 0) s45) fun (y59 : Int × Int) s60 =>
if p2 = 0 then (
some (y59.1, s60))
else
if p2 = 1 then (
lod s60 161 12 y59.1 fun v62 =>
some (v62, s60))
else
some (y59.2, s60)
def fX11_last (p1 : Int) (p2 : Int) (s0 : St) : Rs Int :=
bnd (fX2_hasPorch p1 s0) fun r1 s2 =>
if r1 = 0 then (
some ((-1), s2))
else
bnd (fX11_within p2 0 2 s2) fun r4 s5 =>
if r4 = 0 then (
some ((-1), s5))
else
bnd (fX4_lastToHear p1 p2 s5) fun r7 s8 =>
some (r7, s8)
def fX4_ditch  (s0 : St) : Rs Int :=
bnd (itr FUEL (fun (x1 : Int × Int) s2 =>
bnd (fX6_size 36 37 12 s2) fun r4 s5 =>
if x1.2 < r4 then (
bnd (itr FUEL (fun (x7 : Int × Int) s8 =>
if x1.2 < x7.2 then (
some (.inr x7.1, s8))
else
bnd (fX6_get 36 37 12 x7.2 0 s8) fun r10 s11 =>
lb (imx x7.1 r10) fun v13 =>
some (.inl (v13, w32 (x7.2 + 1)), s11)) (0, 0) s5) fun (y15 : Int) s16 =>
bnd (itr FUEL (fun (x18 : Int × Int) s19 =>
bnd (fX6_size 36 37 12 s19) fun r21 s22 =>
if x18.2 < r21 then (
bnd (fX6_get 36 37 12 x18.2 0 s22) fun r24 s25 =>
lb (imx x18.1 r24) fun v27 =>
some (.inl (v27, w32 (x18.2 + 1)), s25))
else
some (.inr x18.1, s22)) (0, x1.2) s16) fun (y29 : Int) s30 =>
bnd (fX6_get 36 37 12 x1.2 0 s30) fun r32 s33 =>
lb (w32 (x1.1 + w32 (imn y15 y29 - r32))) fun v35 =>
some (.inl (v35, w32 (x1.2 + 1)), s33))
else
some (.inr x1.1, s5)) (0, 0) s0) fun (y37 : Int) s38 =>
some (y37, s38)
def fX4_fewestShovels  (s0 : St) : Rs Int :=
bnd (fX6_size 36 37 12 s0) fun r1 s2 =>
if r1 = 0 then (
some (0, s2))
else
bnd (itr FUEL (fun (x4 : Int × Int) s5 =>
if x4.2 < r1 then (
bnd (fX6_get 36 37 12 x4.2 0 s5) fun r7 s8 =>
lb (w32 (x4.1 + r7)) fun v10 =>
some (.inl (v10, w32 (x4.2 + 1)), s8))
else
some (.inr x4.1, s5)) (0, 0) s2) fun (y12 : Int) s13 =>
dvc r1 <|
if irm y12 r1 = 0 then (
bnd (itr FUEL (fun (x16 : Int × Int × Int) s17 =>
if x16.2.2 < r1 then (
bnd (fX6_get 36 37 12 x16.2.2 0 s17) fun r19 s20 =>
dvc r1 <|
lb (w32 (x16.1 + w32 (r19 - idv y12 r1))) fun v23 =>
lb (w32 (x16.2.1 + iab v23)) fun v25 =>
some (.inl (v23, v25, w32 (x16.2.2 + 1)), s20))
else
some (.inr x16.2.1, s17)) (0, 0, 0) s13) fun (y27 : Int) s28 =>
some (y27, s28))
else
some ((-1), s13)
def fX11_level (p1 : Int) (s0 : St) : Rs Int :=
if p1 = 0 then (
bnd (fX4_fewestShovels s0) fun r4 s5 =>
some (r4, s5))
else
if p1 = 1 then (
bnd (fX4_ditch s0) fun r1 s2 =>
some (r1, s2))
else
some ((-1), s0)
def fX2_allSitters  (s0 : St) : Rs Int :=
bnd (itr FUEL (fun (x1 : Int × Int) s2 =>
fld s2 3 5 fun v4 =>
if x1.2 < v4 then (
lod s2 11 20 x1.2 fun v6 =>
if v6 = (-1) then (
some (.inl (x1.1, w32 (x1.2 + 1)), s2))
else
lb (ior x1.1 (ishl 1 x1.2)) fun v8 =>
some (.inl (v8, w32 (x1.2 + 1)), s2))
else
some (.inr x1.1, s2)) (0, 0) s0) fun (y10 : Int) s11 =>
some (y10, s11)
def fX2_allAccepted  (s0 : St) : Rs Int :=
bnd (itr FUEL (fun (x1 : Int × Int) s2 =>
fld s2 3 5 fun v4 =>
if x1.2 < v4 then (
lod s2 16 20 x1.2 fun v6 =>
if v6 = (-1) then (
some (.inl (x1.1, w32 (x1.2 + 1)), s2))
else
lb (ior x1.1 (ishl 1 x1.2)) fun v8 =>
some (.inl (v8, w32 (x1.2 + 1)), s2))
else
some (.inr x1.1, s2)) (0, 0) s0) fun (y10 : Int) s11 =>
some (y10, s11)
def fX11_look (p1 : Int) (s0 : St) : Rs Int :=
if p1 = 0 then (
fld s0 3 4 fun v2 =>
some (v2, s0))
else if p1 = 1 then (
fld s0 3 5 fun v5 =>
some (v5, s0))
else if p1 = 2 then (
fld s0 3 1 fun v8 =>
some (v8, s0))
else if p1 = 3 then (
fld s0 3 2 fun v11 =>
some (v11, s0))
else if p1 = 4 then (
fld s0 3 3 fun v14 =>
some (v14, s0))
else if p1 = 5 then (
bnd (fX2_allSitters s0) fun r17 s18 =>
some (r17, s18))
else if p1 = 6 then (
bnd (fX2_allAccepted s0) fun r21 s22 =>
some (r21, s22))
else if p1 = 7 then (
bnd (fX6_size 50 51 750 s0) fun r25 s26 =>
some (r25, s26))
else if p1 = 8 then (
fld s0 3 0 fun v29 =>
some (v29, s0))
else if p1 = 9 then (
bnd (fX6_size 18 19 64 s0) fun r32 s33 =>
some (r32, s33))
else if p1 = 10 then (
bnd (fX6_size 22 23 64 s0) fun r36 s37 =>
some (r36, s37))
else if p1 = 11 then (
bnd (fX6_size 24 25 64 s0) fun r40 s41 =>
some (r40, s41))
else if p1 = 12 then (
bnd (fX6_size 26 27 64 s0) fun r44 s45 =>
some (r44, s45))
else if p1 = 13 then (
bnd (fX10_size s0) fun r48 s49 =>
some (r48, s49))
else some ((-1), s0)
def fX11_matched (p1 : Int) (p2 : Int) (p3 : Int) (s0 : St) : Rs Int :=
if p1 = (-1) then (
bnd (fX0_settled s0) fun r13 s14 =>
some (r13, s14))
else
bnd (fX11_within p1 0 1 s0) fun r1 s2 =>
if r1 = 0 then (
some ((-1), s2))
else
bnd (fX11_within p2 0 4 s2) fun r4 s5 =>
if r4 = 0 then (
some ((-1), s5))
else
bnd (fX11_within p3 0 1 s5) fun r7 s8 =>
if r7 = 0 then (
some ((-1), s8))
else
bnd (fX0_partner p1 p2 p3 s8) fun r10 s11 =>
some (r10, s11)
def fX11_minutes (p1 : Int) (s0 : St) : Rs Int :=
bnd (fX11_within p1 1 60 s0) fun r1 s2 =>
if r1 = 0 then (
some ((-1), s2))
else
fld s2 3 2 fun v4 =>
fld s2 3 1 fun v6 =>
dvc 60 <|
if 9990 < w32 (v4 + idv (w32 (v6 + p1)) 60) then (
some ((-1), s2))
else
bnd (itr FUEL (fun (x9 : Int × Int) s10 =>
if x9.2 < p1 then (
bnd (fX6_size 50 51 750 s10) fun r12 s13 =>
bnd (fX10_keep r12 s13) fun r15 s16 =>
bnd (fX1_pass 0 s16) fun r18 s19 =>
lb (w32 (x9.1 + r18)) fun v21 =>
some (.inl (v21, w32 (x9.2 + 1)), s19))
else
some (.inr x9.1, s10)) (0, 0) s2) fun (y23 : Int) s24 =>
some (y23, s24)
def fX11_of (p1 : Int) (p2 : Int) (s0 : St) : Rs Int :=
bnd (fX2_hasPerson p1 s0) fun r1 s2 =>
if r1 = 0 then (
some ((-2), s2))
else
if p2 = 0 then (
lod s2 9 20 p1 fun v5 =>
some (v5, s2))
else if p2 = 1 then (
lod s2 10 20 p1 fun v8 =>
some (v8, s2))
else if p2 = 2 then (
lod s2 11 20 p1 fun v11 =>
some (v11, s2))
else if p2 = 3 then (
lod s2 12 20 p1 fun v14 =>
some (v14, s2))
else if p2 = 4 then (
lod s2 14 20 p1 fun v17 =>
some (v17, s2))
else if p2 = 5 then (
lod s2 15 20 p1 fun v20 =>
some (v20, s2))
else if p2 = 6 then (
lod s2 16 20 p1 fun v23 =>
some (v23, s2))
else if p2 = 7 then (
lod s2 11 20 p1 fun v26 =>
if v26 = (-1) then (
some ((-1), s2))
else
lod s2 11 20 p1 fun v28 =>
bnd (fX3_tells 260 p1 v28 s2) fun r30 s31 =>
some (r30, s31))
else some ((-2), s2)
def fX2_addPerson (p1 : Int) (p2 : Int) (s0 : St) : Rs Int :=
fld s0 3 5 fun v1 =>
if v1 < 20 then (
fld s0 3 5 fun v3 =>
sto s0 9 20 v3 p1 fun s5 =>
fld s5 3 5 fun v6 =>
sto s5 10 20 v6 p2 fun s8 =>
fld s8 3 5 fun v9 =>
sto s8 11 20 v9 (-1) fun s11 =>
fld s11 3 5 fun v12 =>
sto s11 12 20 v12 0 fun s14 =>
fld s14 3 5 fun v15 =>
sto s14 13 20 v15 0 fun s17 =>
fld s17 3 5 fun v18 =>
sto s17 14 20 v18 0 fun s20 =>
fld s20 3 5 fun v21 =>
sto s20 15 20 v21 0 fun s23 =>
fld s23 3 5 fun v24 =>
sto s23 16 20 v24 (-1) fun s26 =>
fld s26 3 5 fun v27 =>
put s26 3 5 (w32 (v27 + 1)) fun s29 =>
fld s29 3 5 fun v30 =>
some (w32 (v30 - 1), s29))
else
some ((-1), s0)
def fX11_person (p1 : Int) (p2 : Int) (s0 : St) : Rs Int :=
bnd (fX11_within p1 0 9 s0) fun r1 s2 =>
if r1 = 0 then (
some ((-1), s2))
else
bnd (fX11_within p2 0 9 s2) fun r4 s5 =>
if r4 = 0 then (
some ((-1), s5))
else
bnd (fX2_addPerson p1 p2 s5) fun r7 s8 =>
if r7 = (-1) then (
some (r7, s8))
else
bnd (fX10_forget s8) fun r10 s11 =>
some (r7, s11)
def fX2_addPorch (p1 : Int) (p2 : Int) (s0 : St) : Rs Int :=
fld s0 3 4 fun v1 =>
if v1 < 12 then (
fld s0 3 4 fun v3 =>
sto s0 4 12 v3 p1 fun s5 =>
fld s5 3 4 fun v6 =>
sto s5 5 12 v6 p2 fun s8 =>
fld s8 3 4 fun v9 =>
sto s8 6 12 v9 0 fun s11 =>
fld s11 3 4 fun v12 =>
sto s11 7 12 v12 (-1) fun s14 =>
fld s14 3 4 fun v15 =>
sto s14 8 12 v15 0 fun s17 =>
fld s17 3 4 fun v18 =>
put s17 3 4 (w32 (v18 + 1)) fun s20 =>
fld s20 3 4 fun v21 =>
some (w32 (v21 - 1), s20))
else
some ((-1), s0)
def fX11_porch (p1 : Int) (p2 : Int) (s0 : St) : Rs Int :=
bnd (fX11_within p1 1 6 s0) fun r1 s2 =>
if r1 = 0 then (
some ((-1), s2))
else
bnd (fX11_within p2 0 99 s2) fun r4 s5 =>
if r4 = 0 then (
some ((-1), s5))
else
bnd (fX2_addPorch p1 p2 s5) fun r7 s8 =>
if r7 = (-1) then (
some (r7, s8))
else
bnd (fX10_forget s8) fun r10 s11 =>
some (r7, s11)
def fX2_sittersOf (p1 : Int) (s0 : St) : Rs Int :=
bnd (itr FUEL (fun (x1 : Int × Int) s2 =>
fld s2 3 5 fun v4 =>
if x1.2 < v4 then (
lod s2 11 20 x1.2 fun v6 =>
if v6 = p1 then (
lb (ior x1.1 (ishl 1 x1.2)) fun v8 =>
some (.inl (v8, w32 (x1.2 + 1)), s2))
else
some (.inl (x1.1, w32 (x1.2 + 1)), s2))
else
some (.inr x1.1, s2)) (0, 0) s0) fun (y10 : Int) s11 =>
some (y10, s11)
def fX11_porchOf (p1 : Int) (p2 : Int) (s0 : St) : Rs Int :=
bnd (fX2_hasPorch p1 s0) fun r1 s2 =>
if r1 = 0 then (
some ((-2), s2))
else
if p2 = 0 then (
lod s2 4 12 p1 fun v5 =>
some (v5, s2))
else if p2 = 1 then (
lod s2 5 12 p1 fun v8 =>
some (v8, s2))
else if p2 = 2 then (
lod s2 6 12 p1 fun v11 =>
some (v11, s2))
else if p2 = 3 then (
lod s2 7 12 p1 fun v14 =>
some (v14, s2))
else if p2 = 4 then (
bnd (fX2_sittersOf p1 s2) fun r17 s18 =>
some (r17, s18))
else if p2 = 5 then (
bnd (fX3_tells 262 (-1) p1 s2) fun r21 s22 =>
some (r21, s22))
else bnd (fX2_hasPorch (w32 (p2 - 10)) s2) fun r24 s25 =>
if r24 = 0 then (
some ((-2), s25))
else
bnd (fX9_feet p1 (w32 (p2 - 10)) s25) fun r27 s28 =>
some (r27, s28)
def fX11_quarrel (p1 : Int) (p2 : Int) (s0 : St) : Rs Int :=
if p1 = (-1) then (
bnd (fX6_clear 48 49 16 s0) fun r10 s11 =>
some (r10, s11))
else
bnd (fX11_within p1 0 7 s0) fun r1 s2 =>
if r1 = 0 then (
some ((-1), s2))
else
bnd (fX11_within p2 0 7 s2) fun r4 s5 =>
if r4 = 0 then (
some ((-1), s5))
else
if p1 = p2 then (
some ((-1), s5))
else
bnd (fX6_add_ 48 49 16 p1 p2 0 0 0 s5) fun r7 s8 =>
some (r7, s8)
def fX4_carryOn (p1 : Int) (s0 : St) : Rs Int :=
bnd (fX6_get 32 33 48 p1 0 s0) fun r1 s2 =>
bnd (fX6_get 32 33 48 p1 1 s2) fun r4 s5 =>
bnd (fX6_get 32 33 48 p1 3 s5) fun r7 s8 =>
bnd (fX11_within r1 0 7 s8) fun r10 s11 =>
if r10 = 0 then (
some (0, s11))
else
bnd (fX11_within r4 0 7 s11) fun r13 s14 =>
if r13 = 0 then (
some (0, s14))
else
lod s14 161 12 r1 fun v16 =>
if v16 = (-1) then (
some (0, s14))
else
lod s14 161 12 r1 fun v18 =>
bnd (fX6_get 32 33 48 p1 2 s14) fun r20 s21 =>
if r20 < v18 then (
some (0, s21))
else
lod s21 161 12 r4 fun v23 =>
if v23 = (-1) then (
sto s21 161 12 r4 r7 fun s25 =>
some (0, s25))
else
lod s21 161 12 r4 fun v26 =>
if r7 < v26 then (
sto s21 161 12 r4 r7 fun s28 =>
some (0, s28))
else
some (0, s21)
def fX4_carried (p1 : Int) (p2 : Int) (p3 : Int) (s0 : St) : Rs Int :=
bnd (fJ7_fill_53178 161 12 (-1) s0) fun r1 s2 =>
bnd (fX11_within p1 0 7 s2) fun r4 s5 =>
if r4 = 0 then (
some ((-1), s5))
else
bnd (fX11_within p3 0 7 s5) fun r7 s8 =>
if r7 = 0 then (
some ((-1), s8))
else
sto s8 161 12 p1 p2 fun s10 =>
bnd (itr FUEL (fun (x11 : Int) s12 =>
bnd (fX6_size 32 33 48 s12) fun r14 s15 =>
if x11 < r14 then (
bnd (itr FUEL (fun (x17 : Int) s18 =>
bnd (fX6_size 32 33 48 s18) fun r20 s21 =>
if x17 < r20 then (
bnd (fX4_carryOn x17 s21) fun r23 s24 =>
some (.inl (w32 (x17 + 1)), s24))
else
some (.inr (), s21)) 0 s15) fun (y26 : Unit) s27 =>
some (.inl (w32 (x11 + 1)), s27))
else
some (.inr (), s15)) 0 s10) fun (y29 : Unit) s30 =>
lod s30 161 12 p3 fun v32 =>
some (v32, s30)
def fX11_reply (p1 : Int) (p2 : Int) (p3 : Int) (s0 : St) : Rs Int :=
bnd (fX11_within p1 0 7 s0) fun r1 s2 =>
if r1 = 0 then (
some ((-1), s2))
else
bnd (fX11_within p2 0 99 s2) fun r4 s5 =>
if r4 = 0 then (
some ((-1), s5))
else
bnd (fX11_within p3 0 7 s5) fun r7 s8 =>
if r7 = 0 then (
some ((-1), s8))
else
bnd (fX4_carried p1 p2 p3 s8) fun r10 s11 =>
some (r10, s11)
def fX4_mostForward  (s0 : St) : Rs Int :=
bnd (itr FUEL (fun (x1 : Int × Int) s2 =>
if x1.2 < 100 then (
bnd (itr FUEL (fun (x4 : Int × Int) s5 =>
bnd (fX6_size 30 31 10 s5) fun r7 s8 =>
if x4.2 < r7 then (
bnd (fX6_get 30 31 10 x4.2 0 s8) fun r10 s11 =>
if 0 < r10 then (
dvc r10 <|
bnd (fX6_get 30 31 10 x4.2 1 s11) fun r14 s15 =>
if irm x1.2 r10 = r14 then (
some (.inl (w32 (x4.1 + 1), w32 (x4.2 + 1)), s15))
else
some (.inl (x4.1, w32 (x4.2 + 1)), s15))
else
some (.inl (x4.1, w32 (x4.2 + 1)), s11))
else
some (.inr x4.1, s8)) (0, 0) s2) fun (y17 : Int) s18 =>
lb (imx x1.1 y17) fun v20 =>
some (.inl (v20, w32 (x1.2 + 1)), s18))
else
some (.inr x1.1, s2)) (0, 0) s0) fun (y22 : Int) s23 =>
some (y22, s23)
def fX4_commonStride (p1 : Int) (p2 : Int) (s0 : St) : Rs Int :=
bnd (itr FUEL (fun (x1 : Int × Int) s2 =>
if x1.2 < p2 then (
dvc p2 <|
if irm x1.1 p2 = 0 then (
some (.inr x1.1, s2))
else
lb (w32 (x1.1 + p1)) fun v5 =>
some (.inl (v5, w32 (x1.2 + 1)), s2))
else
some (.inr x1.1, s2)) (p1, 1) s0) fun (y7 : Int) s8 =>
some (y7, s8)
def fX4_allForward  (s0 : St) : Rs Int :=
bnx (itr FUEL (fun (x1 : Int × Int × Int) s2 =>
bnd (fX6_size 30 31 10 s2) fun r4 s5 =>
if x1.2.2 < r4 then (
bnd (fX6_get 30 31 10 x1.2.2 0 s5) fun r7 s8 =>
bnd (fX6_get 30 31 10 x1.2.2 1 s8) fun r10 s11 =>
if r7 < 1 then (
some (.inr (.inl ()), s11))
else
bnd (itr FUEL (fun (x13 : Int × Int) s14 =>
if x13.2 < r7 then (
dvc r7 <|
if irm x13.1 r7 = r10 then (
some (.inr x13.1, s14))
else
lb (w32 (x13.1 + x1.2.1)) fun v17 =>
some (.inl (v17, w32 (x13.2 + 1)), s14))
else
some (.inr x13.1, s14)) (x1.1, 1) s11) fun (y19 : Int) s20 =>
dvc r7 <|
if irm y19 r7 = r10 then (
bnd (fX4_commonStride x1.2.1 r7 s20) fun r23 s24 =>
some (.inl (y19, r23, w32 (x1.2.2 + 1)), s24))
else
some (.inr (.inr (-1)), s20))
else
if 9999 < x1.1 then (
some (.inr (.inr (-1)), s5))
else
some (.inr (.inr x1.1), s5)) (0, 1, 0) s0) fun (y26 : Unit) s27 =>
some ((-1), s27)
def fX11_rocks (p1 : Int) (s0 : St) : Rs Int :=
if p1 = 0 then (
bnd (fX4_allForward s0) fun r4 s5 =>
some (r4, s5))
else
if p1 = 1 then (
bnd (fX4_mostForward s0) fun r1 s2 =>
some (r1, s2))
else
some ((-1), s0)
def fX4_findEnemies (p1 : Int) (s0 : St) : Rs Int :=
bnd (fJ7_fill_53178 162 8 0 s0) fun r1 s2 =>
bnd (itr FUEL (fun (x4 : Int) s5 =>
bnd (fX6_size 48 49 16 s5) fun r7 s8 =>
if x4 < r7 then (
bnd (fX6_get 48 49 16 x4 0 s8) fun r10 s11 =>
bnd (fX6_get 48 49 16 x4 1 s11) fun r13 s14 =>
bnd (fX11_within r10 0 (w32 (p1 - 1)) s14) fun r16 s17 =>
if r16 = 0 then (
some (.inl (w32 (x4 + 1)), s17))
else
bnd (fX11_within r13 0 (w32 (p1 - 1)) s17) fun r19 s20 =>
if r19 = 0 then (
some (.inl (w32 (x4 + 1)), s20))
else
lod s20 162 8 r10 fun v22 =>
sto s20 162 8 r10 (ior v22 (ishl 1 r13)) fun s24 =>
lod s24 162 8 r13 fun v25 =>
sto s24 162 8 r13 (ior v25 (ishl 1 r10)) fun s27 =>
some (.inl (w32 (x4 + 1)), s27))
else
some (.inr (), s8)) 0 s2) fun (y28 : Unit) s29 =>
some (0, s29)
def fX4_seatBehind (p1 : Int) (p2 : Int) (p3 : Int) (p4 : Int) (s0 : St) : Rs Int :=
if iand (ishr p1 p2) 1 = 0 then (
some (0, s0))
else
lb (w32 (p1 - ishl 1 p2)) fun v1 =>
if v1 = 0 then (
if p4 = 0 then (
some (1, s0))
else
if p2 = 0 then (
some (1, s0))
else
some (0, s0))
else
bnd (itr FUEL (fun (x3 : Int × Int) s4 =>
if x3.2 < p3 then (
lod s4 162 8 p2 fun v6 =>
if iand (ishr v6 x3.2) 1 = 0 then (
lod s4 160 2048 (w32 (w32 (v1 * 8) + x3.2)) fun v8 =>
lb (w32 (x3.1 + v8)) fun v10 =>
some (.inl (v10, w32 (x3.2 + 1)), s4))
else
some (.inl (x3.1, w32 (x3.2 + 1)), s4))
else
some (.inr x3.1, s4)) (0, 0) s0) fun (y12 : Int) s13 =>
some (y12, s13)
def fX4_waysToSit (p1 : Int) (p2 : Int) (s0 : St) : Rs Int :=
bnd (fX11_within p1 1 8 s0) fun r1 s2 =>
if r1 = 0 then (
some ((-1), s2))
else
bnd (fX4_findEnemies p1 s2) fun r4 s5 =>
lb (w32 (ishl 1 p1 - 1)) fun v7 =>
bnd (itr FUEL (fun (x9 : Int) s10 =>
if v7 < x9 then (
some (.inr (), s10))
else
bnd (itr FUEL (fun (x12 : Int) s13 =>
if x12 < p1 then (
bnd (fX4_seatBehind x9 x12 p1 p2 s13) fun r15 s16 =>
sto s16 160 2048 (w32 (w32 (x9 * 8) + x12)) r15 fun s18 =>
some (.inl (w32 (x12 + 1)), s18))
else
some (.inr (), s13)) 0 s10) fun (y19 : Unit) s20 =>
some (.inl (w32 (x9 + 1)), s20)) 1 s5) fun (y22 : Unit) s23 =>
bnd (itr FUEL (fun (x25 : Int × Int) s26 =>
if x25.2 < p1 then (
bnd (
if p2 = 0 then (
some (0, s26))
else
lod s26 162 8 0 fun v28 =>
if iand (ishr v28 x25.2) 1 = 1 then (
some (1, s26))
else
some (0, s26)) fun (y30 : Int) s31 =>
if y30 = 0 then (
lod s31 160 2048 (w32 (w32 (v7 * 8) + x25.2)) fun v33 =>
lb (w32 (x25.1 + v33)) fun v35 =>
some (.inl (v35, w32 (x25.2 + 1)), s31))
else
some (.inl (x25.1, w32 (x25.2 + 1)), s31))
else
some (.inr x25.1, s26)) (0, 0) s23) fun (y37 : Int) s38 =>
some (y37, s38)
def fX11_seated (p1 : Int) (p2 : Int) (s0 : St) : Rs Int :=
bnd (fX11_within p1 1 8 s0) fun r1 s2 =>
if r1 = 0 then (
some ((-1), s2))
else
bnd (fX11_within p2 0 1 s2) fun r4 s5 =>
if r4 = 0 then (
some ((-1), s5))
else
bnd (
if p2 = 1 then (
some (1, s5))
else
some (0, s5)) fun (y7 : Int) s8 =>
bnd (fX4_waysToSit p1 y7 s8) fun r10 s11 =>
some (r10, s11)
def fX11_set (p1 : Int) (p2 : Int) (p3 : Int) (s0 : St) : Rs Int :=
bnd (
if p1 = 0 then (
bnd (fX11_changePorch p1 p2 p3 s0) fun r1 s2 =>
some (r1, s2))
else
if p1 = 1 then (
bnd (fX11_changePorch p1 p2 p3 s0) fun r7 s8 =>
some (r7, s8))
else
bnd (fX11_changePerson p1 p2 p3 s0) fun r4 s5 =>
some (r4, s5)) fun (y10 : Int) s11 =>
if y10 = 0 then (
some (y10, s11))
else
bnd (fX10_forget s11) fun r13 s14 =>
some (y10, s14)
def fX11_soonest (p1 : Int) (s0 : St) : Rs Int :=
bnd (fX2_hasPerson p1 s0) fun r1 s2 =>
if r1 = 0 then (
some ((-1), s2))
else
bnd (fX2_copyFrom 171 3 s2) fun r4 s5 =>
bnd (itr FUEL (fun (x7 : Int) s8 =>
lod s8 16 20 p1 fun v10 =>
if v10 = (-1) then (
if x7 < 60 then (
bnd (fX1_pass 1 s8) fun r12 s13 =>
some (.inl (w32 (x7 + 1)), s13))
else
some (.inr x7, s8))
else
some (.inr x7, s8)) 0 s5) fun (y15 : Int) s16 =>
lod s16 16 20 p1 fun v18 =>
bnd (
if v18 = (-1) then (
some (0, s16))
else
some (1, s16)) fun (y20 : Int) s21 =>
bnd (fX2_copyFrom 3 171 s21) fun r23 s24 =>
if y20 = 0 then (
some ((-1), s24))
else
some (y15, s24)
def fX11_state (p1 : Int) (s0 : St) : Rs Int :=
fld s0 3 0 fun v1 =>
put s0 3 0 p1 fun s3 =>
bnd (fX10_forget s3) fun r4 s5 =>
some (v1, s5)
def fX4_hasPace (p1 : Int) (p2 : Int) (s0 : St) : Rs Int :=
if iand (ishr p1 (w32 (p2 - 1))) 1 = 1 then (
some (1, s0))
else
some (0, s0)
def fX4_waysUp (p1 : Int) (p2 : Int) (s0 : St) : Rs Int :=
bnd (fX11_within p1 0 40 s0) fun r1 s2 =>
if r1 = 0 then (
some ((-1), s2))
else
sto s2 163 41 0 1 fun s4 =>
bnd (itr FUEL (fun (x5 : Int) s6 =>
if p1 < x5 then (
some (.inr (), s6))
else
bnd (itr FUEL (fun (x8 : Int × Int) s9 =>
if 5 < x8.2 then (
some (.inr x8.1, s9))
else
if x5 < x8.2 then (
some (.inl (x8.1, w32 (x8.2 + 1)), s9))
else
bnd (fX4_hasPace p2 x8.2 s9) fun r11 s12 =>
if r11 = 0 then (
some (.inl (x8.1, w32 (x8.2 + 1)), s12))
else
lod s12 163 41 (w32 (x5 - x8.2)) fun v14 =>
lb (w64 (x8.1 + v14)) fun v16 =>
some (.inl (v16, w32 (x8.2 + 1)), s12)) (0, 1) s6) fun (y18 : Int) s19 =>
dvc 1000000007 <|
sto s19 163 41 x5 (lrm y18 1000000007) fun s22 =>
some (.inl (w32 (x5 + 1)), s22)) 1 s4) fun (y23 : Unit) s24 =>
lod s24 163 41 p1 fun v26 =>
some (l2i v26, s24)
def fX4_waysUpAlike (p1 : Int) (p2 : Int) (s0 : St) : Rs Int :=
bnd (fX4_waysUp p1 p2 s0) fun r1 s2 =>
if 0 < p1 then (
if 40 < p1 then (
some (r1, s2))
else
bnd (itr FUEL (fun (x4 : Int × Int) s5 =>
if 5 < x4.2 then (
some (.inr x4.1, s5))
else
bnd (fX4_hasPace p2 x4.2 s5) fun r7 s8 =>
if r7 = 0 then (
some (.inl (x4.1, w32 (x4.2 + 1)), s8))
else
bnd (
if p1 = x4.2 then (
lb (w64 (x4.1 + 1)) fun v10 =>
some (v10, s8))
else
some (x4.1, s8)) fun (y12 : Int) s13 =>
if p1 < w32 (2 * x4.2) then (
some (.inl (y12, w32 (x4.2 + 1)), s13))
else
lod s13 163 41 (w32 (p1 - w32 (2 * x4.2))) fun v15 =>
lb (w64 (y12 + v15)) fun v17 =>
some (.inl (v17, w32 (x4.2 + 1)), s13)) (0, 1) s2) fun (y19 : Int) s20 =>
dvc 1000000007 <|
some (l2i (lrm y19 1000000007), s20))
else
some (r1, s2)
def fX11_steps (p1 : Int) (p2 : Int) (p3 : Int) (s0 : St) : Rs Int :=
bnd (fX11_within p1 0 40 s0) fun r1 s2 =>
if r1 = 0 then (
some ((-1), s2))
else
bnd (fX11_within p2 0 31 s2) fun r4 s5 =>
if r4 = 0 then (
some ((-1), s5))
else
if p3 = 0 then (
bnd (fX4_waysUp p1 p2 s5) fun r10 s11 =>
some (r10, s11))
else
if p3 = 1 then (
bnd (fX4_waysUpAlike p1 p2 s5) fun r7 s8 =>
some (r7, s8))
else
some ((-1), s5)
def fX4_countFamilies  (s0 : St) : Rs Int :=
sto s0 158 256 0 0 fun s1 =>
bnd (fX6_size 34 35 8 s1) fun r2 s3 =>
lb (imn 8 r2) fun v5 =>
bnd (itr FUEL (fun (x7 : Int) s8 =>
if x7 < v5 then (
lb (ishl 1 x7) fun v10 =>
bnd (itr FUEL (fun (x12 : Int) s13 =>
if x12 < w32 (2 * v10) then (
lod s13 158 256 (w32 (x12 - v10)) fun v15 =>
bnd (fX6_get 34 35 8 x7 0 s13) fun r17 s18 =>
sto s18 158 256 x12 (w32 (v15 + r17)) fun s20 =>
some (.inl (w32 (x12 + 1)), s20))
else
some (.inr (), s13)) v10 s8) fun (y21 : Unit) s22 =>
some (.inl (w32 (x7 + 1)), s22))
else
some (.inr (), s8)) 0 s3) fun (y24 : Unit) s25 =>
some (w32 (ishl 1 v5 - 1), s25)
def fX4_shelterOneMore (p1 : Int) (p2 : Int) (s0 : St) : Rs Int :=
lod s0 159 256 p1 fun v1 =>
bnd (itr FUEL (fun (x3 : Int × Int) s4 =>
if 0 < x3.2 then (
lod s4 158 256 x3.2 fun v6 =>
if p2 < v6 then (
lb (iand (w32 (x3.2 - 1)) p1) fun v8 =>
some (.inl (x3.1, v8), s4))
else
lod s4 159 256 (w32 (p1 - x3.2)) fun v10 =>
lb (w64 (x3.1 + v10)) fun v12 =>
lb (iand (w32 (x3.2 - 1)) p1) fun v14 =>
some (.inl (v12, v14), s4))
else
some (.inr x3.1, s4)) (v1, p1) s0) fun (y16 : Int) s17 =>
dvc 1000000007 <|
some (l2i (lrm y16 1000000007), s17)
def fX4_waysToShelter (p1 : Int) (p2 : Int) (s0 : St) : Rs Int :=
bnd (fX4_countFamilies s0) fun r1 s2 =>
bnd (fJ7_fill_53178 159 256 0 s2) fun r4 s5 =>
sto s5 159 256 0 1 fun s7 =>
bnd (itr FUEL (fun (x8 : Int) s9 =>
if x8 < p2 then (
bnd (itr FUEL (fun (x11 : Int) s12 =>
if x11 < 0 then (
some (.inr (), s12))
else
bnd (fX4_shelterOneMore x11 p1 s12) fun r14 s15 =>
sto s15 159 256 x11 r14 fun s17 =>
some (.inl (w32 (x11 + (-1))), s17)) r1 s9) fun (y18 : Unit) s19 =>
some (.inl (w32 (x8 + 1)), s19))
else
some (.inr (), s9)) 0 s7) fun (y21 : Unit) s22 =>
lod s22 159 256 r1 fun v24 =>
some (v24, s22)
def fX4_fewestShelters (p1 : Int) (s0 : St) : Rs Int :=
bnd (fX4_countFamilies s0) fun r1 s2 =>
sto s2 159 256 0 0 fun s4 =>
bnd (itr FUEL (fun (x5 : Int) s6 =>
if r1 < x5 then (
some (.inr (), s6))
else
bnd (itr FUEL (fun (x8 : Int × Int) s9 =>
if 0 < x8.2 then (
lod s9 159 256 (w32 (x5 - x8.2)) fun v11 =>
lod s9 158 256 x8.2 fun v13 =>
if p1 < v13 then (
lb (iand (w32 (x8.2 - 1)) x5) fun v15 =>
some (.inl (x8.1, v15), s9))
else
if v11 = (-1) then (
lb (iand (w32 (x8.2 - 1)) x5) fun v26 =>
some (.inl (x8.1, v26), s9))
else
bnx (
if x8.1 = (-1) then (
some (.inl x8.2, s9))
else
if w32 (v11 + 1) < x8.1 then (
some (.inl x8.2, s9))
else
lb (iand (w32 (x8.2 - 1)) x5) fun v17 =>
some (.inr (.inl (x8.1, v17)), s9)) fun (y19 : Int) s20 =>
lb (w32 (v11 + 1)) fun v22 =>
lb (iand (w32 (y19 - 1)) x5) fun v24 =>
some (.inl (v22, v24), s20))
else
some (.inr x8.1, s9)) ((-1), x5) s6) fun (y28 : Int) s29 =>
sto s29 159 256 x5 y28 fun s31 =>
some (.inl (w32 (x5 + 1)), s31)) 1 s4) fun (y32 : Unit) s33 =>
lod s33 159 256 r1 fun v35 =>
some (v35, s33)
def fX11_storm (p1 : Int) (p2 : Int) (s0 : St) : Rs Int :=
bnd (fX11_within p1 1 30 s0) fun r1 s2 =>
if r1 = 0 then (
some ((-1), s2))
else
if p2 = (-1) then (
bnd (fX4_fewestShelters p1 s2) fun r10 s11 =>
some (r10, s11))
else
bnd (fX11_within p2 1 4 s2) fun r4 s5 =>
if r4 = 0 then (
some ((-1), s5))
else
bnd (fX4_waysToShelter p1 p2 s5) fun r7 s8 =>
some (r7, s8)
def fX11_swing (p1 : Int) (s0 : St) : Rs Int :=
if p1 = (-1) then (
bnd (fX6_clear 46 47 8 s0) fun r7 s8 =>
some (r7, s8))
else
bnd (fX11_within p1 1 60 s0) fun r1 s2 =>
if r1 = 0 then (
some ((-1), s2))
else
bnd (fX6_add 46 47 8 p1 s2) fun r4 s5 =>
some (r4, s5)
def fJ6_bitCount_0f7a4 (p1 : Int) (s0 : St) : Rs Int :=
lb (w32 (p1 - iand (iushr p1 1) 1431655765)) fun v1 =>
lb (w32 (iand v1 858993459 + iand (iushr v1 2) 858993459)) fun v3 =>
lb (iand (w32 (v3 + iushr v3 4)) 252645135) fun v5 =>
lb (w32 (v5 + iushr v5 8)) fun v7 =>
lb (w32 (v7 + iushr v7 16)) fun v9 =>
some (iand v9 63, s0)
def fX4_heavierBy (p1 : Int) (s0 : St) : Rs Int :=
bnd (itr FUEL (fun (x1 : Int × Int) s2 =>
bnd (fX6_size 46 47 8 s2) fun r4 s5 =>
if x1.2 < r4 then (
bnd (fX6_get 46 47 8 x1.2 0 s5) fun r7 s8 =>
if iand (ishr p1 x1.2) 1 = 1 then (
lb (w32 (x1.1 + r7)) fun v12 =>
some (.inl (v12, w32 (x1.2 + 1)), s8))
else
lb (w32 (x1.1 + w32 (-r7))) fun v10 =>
some (.inl (v10, w32 (x1.2 + 1)), s8))
else
some (.inr x1.1, s5)) (0, 0) s0) fun (y14 : Int) s15 =>
some (iab y14, s15)
def fX4_fairestSeat  (s0 : St) : Rs Int :=
bnd (fX6_size 46 47 8 s0) fun r1 s2 =>
bnd (itr FUEL (fun (x4 : Int × Int) s5 =>
if x4.2 < ishl 1 r1 then (
bnd (fJ6_bitCount_0f7a4 x4.2 s5) fun r7 s8 =>
if w32 (2 * r7) = r1 then (
if x4.1 = 0 then (
some (.inl (x4.2, w32 (x4.2 + 2)), s8))
else
bnd (fX4_heavierBy x4.2 s8) fun r10 s11 =>
bnd (fX4_heavierBy x4.1 s11) fun r13 s14 =>
if r10 < r13 then (
some (.inl (x4.2, w32 (x4.2 + 2)), s14))
else
some (.inl (x4.1, w32 (x4.2 + 2)), s14))
else
some (.inl (x4.1, w32 (x4.2 + 2)), s8))
else
some (.inr x4.1, s5)) (0, 1) s2) fun (y16 : Int) s17 =>
some (y16, s17)
def fX11_swings (p1 : Int) (s0 : St) : Rs Int :=
bnd (fX11_within p1 0 1 s0) fun r1 s2 =>
if r1 = 0 then (
some ((-1), s2))
else
bnd (fX6_size 46 47 8 s2) fun r4 s5 =>
dvc 2 <|
if irm r4 2 = 0 then (
bnd (fX4_fairestSeat s5) fun r8 s9 =>
if p1 = 1 then (
some (r8, s9))
else
bnd (fX4_heavierBy r8 s9) fun r11 s12 =>
some (r11, s12))
else
some ((-1), s5)
def fX11_talk (p1 : Int) (s0 : St) : Rs Int :=
if p1 = (-1) then (
bnd (fX6_clear 38 39 24 s0) fun r7 s8 =>
some (r7, s8))
else
bnd (fX11_within p1 0 2 s0) fun r1 s2 =>
if r1 = 0 then (
some ((-1), s2))
else
bnd (fX6_add 38 39 24 p1 s2) fun r4 s5 =>
some (r4, s5)
def fX4_waysOfMatters (p1 : Int) (s0 : St) : Rs Int :=
bnd (itr FUEL (fun (x1 : Int × Int) s2 =>
if x1.2 < p1 then (
dvc (w32 (x1.2 + 2)) <|
lb (ldv (w64 (w64 (x1.1 * 2) * w32 (w32 (2 * x1.2) + 1))) (w32 (x1.2 + 2))) fun v5 =>
some (.inl (v5, w32 (x1.2 + 1)), s2))
else
some (.inr x1.1, s2)) (1, 0) s0) fun (y7 : Int) s8 =>
some (l2i y7, s8)
def fX4_firstUnbegun  (s0 : St) : Rs Int :=
bnx (itr FUEL (fun (x1 : Int × Int) s2 =>
bnd (fX6_size 38 39 24 s2) fun r4 s5 =>
if x1.2 < r4 then (
bnd (fX6_get 38 39 24 x1.2 0 s5) fun r7 s8 =>
bnx (
if r7 = 2 then (
if x1.1 = 0 then (
some (.inr (.inr (.inl x1.2)), s8))
else
some (.inl (), s8))
else
some (.inl (), s8)) fun (y10 : Unit) s11 =>
if r7 = 1 then (
if r7 = 2 then (
some (.inl (w32 (w32 (x1.1 + 1) + (-1)), w32 (x1.2 + 1)), s11))
else
some (.inl (w32 (x1.1 + 1), w32 (x1.2 + 1)), s11))
else
if r7 = 2 then (
some (.inl (w32 (x1.1 + (-1)), w32 (x1.2 + 1)), s11))
else
some (.inl (x1.1, w32 (x1.2 + 1)), s11))
else
some (.inr (.inr (-1)), s5)) (0, 0) s0) fun (y13 : Int) s14 =>
some (y13, s14)
def fX4_deepest  (s0 : St) : Rs Int :=
bnd (itr FUEL (fun (x1 : Int × Int × Int) s2 =>
bnd (fX6_size 38 39 24 s2) fun r4 s5 =>
if x1.2.2 < r4 then (
bnd (fX6_get 38 39 24 x1.2.2 0 s5) fun r7 s8 =>
bnd (
if r7 = 1 then (
some (w32 (x1.1 + 1), s8))
else
some (x1.1, s8)) fun (y10 : Int) s11 =>
bnd (
if r7 = 2 then (
if 0 < y10 then (
some (w32 (y10 + (-1)), s11))
else
some (y10, s11))
else
some (y10, s11)) fun (y13 : Int) s14 =>
lb (imx x1.2.1 y13) fun v16 =>
some (.inl (y13, v16, w32 (x1.2.2 + 1)), s14))
else
some (.inr x1.2.1, s5)) (0, 0, 0) s0) fun (y18 : Int) s19 =>
some (y18, s19)
def fX11_talks (p1 : Int) (s0 : St) : Rs Int :=
if p1 = 0 then (
bnd (fX4_deepest s0) fun r10 s11 =>
some (r10, s11))
else
if p1 = 1 then (
bnd (fX4_firstUnbegun s0) fun r7 s8 =>
some (r7, s8))
else
bnd (fX11_within p1 10 25 s0) fun r1 s2 =>
if r1 = 0 then (
some ((-1), s2))
else
bnd (fX4_waysOfMatters (w32 (p1 - 10)) s2) fun r4 s5 =>
some (r4, s5)
def fX7_at (p1 : Int) (s0 : St) : Rs Int :=
if p1 < 0 then (
some ((-1), s0))
else
fld s0 1 1 fun v1 =>
if p1 < v1 then (
lod s0 2 400 p1 fun v3 =>
some (iand v3 255, s0))
else
some ((-1), s0)
def fX8_isDigit (p1 : Int) (s0 : St) : Rs Int :=
if p1 < 48 then (
some (0, s0))
else
if 57 < p1 then (
some (0, s0))
else
some (1, s0)
def fX8_isLetter (p1 : Int) (s0 : St) : Rs Int :=
bnx (
if p1 < 97 then (
some (.inl (), s0))
else
if 122 < p1 then (
some (.inl (), s0))
else
some (.inr 1, s0)) fun (y1 : Unit) s2 =>
if p1 < 65 then (
some (0, s2))
else
if 90 < p1 then (
some (0, s2))
else
some (1, s2)
def fX8_behind (p1 : Int) (s0 : St) : Rs Int :=
lb (w32 (p1 + 1)) fun v1 =>
bnd (fX7_at p1 s0) fun r3 s4 =>
bnd (fX8_isDigit r3 s4) fun r6 s7 =>
if r6 = 0 then (
bnd (fX7_at p1 s7) fun r9 s10 =>
bnd (fX8_isLetter r9 s10) fun r12 s13 =>
if r12 = 0 then (
some (v1, s13))
else
bnd (itr FUEL (fun (x15 : Int) s16 =>
if x15 < 400 then (
bnd (fX7_at x15 s16) fun r18 s19 =>
bnd (fX8_isLetter r18 s19) fun r21 s22 =>
if r21 = 0 then (
some (.inr x15, s22))
else
some (.inl (w32 (x15 + 1)), s22))
else
some (.inr x15, s16)) v1 s13) fun (y24 : Int) s25 =>
some (y24, s25))
else
bnd (itr FUEL (fun (x27 : Int) s28 =>
if x27 < 400 then (
bnd (fX7_at x27 s28) fun r30 s31 =>
bnd (fX8_isDigit r30 s31) fun r33 s34 =>
if r33 = 0 then (
some (.inr x27, s34))
else
some (.inl (w32 (x27 + 1)), s34))
else
some (.inr x27, s28)) v1 s7) fun (y36 : Int) s37 =>
some (y36, s37)
def fX8_isBlank (p1 : Int) (s0 : St) : Rs Int :=
if p1 = 32 then (
some (1, s0))
else
if p1 = 10 then (
some (1, s0))
else
some (0, s0)
def fJ0_coder_7d493 (w : Nat) (s0 : St) : Rs Int :=
if (1 : Int) = 0 then (
some (1, s0))
else
some (0, s0)
def fJ0_length_8abf5 (w : Nat) (s0 : St) : Rs Int :=
bnd (fJ0_coder_7d493 w s0) fun r1 s2 =>
some (ishr (strL.getD w 0 : Int) r1, s2)
def fJ0_isLatin1_aae02 (w : Nat) (s0 : St) : Rs Int :=
if (1 : Int) = 0 then (
some (0, s0))
else
if (0 : Int) = 0 then (
some (1, s0))
else
some (0, s0)
def fJ3_checkIndex_8e157 (p1 : Int) (p2 : Int) (s0 : St) : Rs Int :=
bnx (
if p1 < 0 then (
some (.inl (), s0))
else
if p1 < p2 then (
some (.inr p1, s0))
else
some (.inl (), s0)) fun (y1 : Unit) s2 =>
none
def fJ0_checkIndex_df160 (p1 : Int) (p2 : Int) (s0 : St) : Rs Int :=
bnd (fJ3_checkIndex_8e157 p1 p2 s0) fun r3 s4 =>
some (0, s4)
def fJ1_charAt_3b067 (w : Nat) (p2 : Int) (s0 : St) : Rs Int :=
bnd (fJ0_checkIndex_df160 p2 (strL.getD w 0 : Int) s0) fun r1 s2 =>
lsc w p2 fun v4 =>
some (i2c (iand v4 255), s2)
def fJ0_charAt_5068e (w : Nat) (p1 : Int) (s0 : St) : Rs Int :=
bnd (fJ0_isLatin1_aae02 w s0) fun r1 s2 =>
if r1 = 0 then (
none)
else
bnd (fJ1_charAt_3b067 w p1 s2) fun r4 s5 =>
some (r4, s5)
def fX8_spells (p1 : Int) (p2 : Int) (w : Nat) (s0 : St) : Rs Int :=
bnd (fJ0_length_8abf5 w s0) fun r1 s2 =>
if w32 (p2 - p1) = r1 then (
bnx (itr FUEL (fun (x4 : Int) s5 =>
bnd (fJ0_length_8abf5 w s5) fun r7 s8 =>
if x4 < r7 then (
bnd (fX7_at (w32 (p1 + x4)) s8) fun r10 s11 =>
bnd (fJ0_charAt_5068e w x4 s11) fun r13 s14 =>
if r10 = r13 then (
some (.inl (w32 (x4 + 1)), s14))
else
some (.inr (.inl ()), s14))
else
some (.inr (.inr 1), s8)) 0 s2) fun (y16 : Unit) s17 =>
some (0, s17))
else
some (0, s2)
def fX8_nounOf (p1 : Int) (p2 : Int) (s0 : St) : Rs Int :=
bnd (fX8_spells p1 p2 18 s0) fun r1 s2 =>
if r1 = 0 then (
bnd (fX8_spells p1 p2 19 s2) fun r4 s5 =>
if r4 = 0 then (
bnd (fX8_spells p1 p2 20 s5) fun r7 s8 =>
if r7 = 0 then (
bnd (fX8_spells p1 p2 21 s8) fun r10 s11 =>
if r10 = 0 then (
bnd (fX8_spells p1 p2 22 s11) fun r13 s14 =>
if r13 = 0 then (
bnd (fX8_spells p1 p2 23 s14) fun r16 s17 =>
if r16 = 0 then (
bnd (fX8_spells p1 p2 24 s17) fun r19 s20 =>
if r19 = 0 then (
bnd (fX8_spells p1 p2 25 s20) fun r22 s23 =>
if r22 = 0 then (
bnd (fX8_spells p1 p2 26 s23) fun r25 s26 =>
if r25 = 0 then (
bnd (fX8_spells p1 p2 27 s26) fun r28 s29 =>
if r28 = 0 then (
some (258, s29))
else
some (279, s29))
else
some (278, s26))
else
some (277, s23))
else
some (276, s20))
else
some (275, s17))
else
some (274, s14))
else
some (273, s11))
else
some (272, s8))
else
some (271, s5))
else
some (270, s2)
def fX8_wordOf (p1 : Int) (p2 : Int) (s0 : St) : Rs Int :=
bnd (fX8_spells p1 p2 0 s0) fun r1 s2 =>
if r1 = 0 then (
bnd (fX8_spells p1 p2 1 s2) fun r4 s5 =>
if r4 = 0 then (
bnd (fX8_spells p1 p2 2 s5) fun r7 s8 =>
if r7 = 0 then (
bnd (fX8_spells p1 p2 3 s8) fun r10 s11 =>
if r10 = 0 then (
bnd (fX8_spells p1 p2 4 s11) fun r13 s14 =>
if r13 = 0 then (
bnd (fX8_spells p1 p2 5 s14) fun r16 s17 =>
if r16 = 0 then (
bnd (fX8_spells p1 p2 6 s17) fun r19 s20 =>
if r19 = 0 then (
bnd (fX8_spells p1 p2 7 s20) fun r22 s23 =>
if r22 = 0 then (
bnd (fX8_spells p1 p2 8 s23) fun r25 s26 =>
if r25 = 0 then (
bnd (fX8_spells p1 p2 9 s26) fun r28 s29 =>
if r28 = 0 then (
bnd (fX8_spells p1 p2 10 s29) fun r31 s32 =>
if r31 = 0 then (
bnd (fX8_spells p1 p2 11 s32) fun r34 s35 =>
if r34 = 0 then (
bnd (fX8_spells p1 p2 12 s35) fun r37 s38 =>
if r37 = 0 then (
bnd (fX8_spells p1 p2 13 s38) fun r40 s41 =>
if r40 = 0 then (
bnd (fX8_spells p1 p2 14 s41) fun r43 s44 =>
if r43 = 0 then (
bnd (fX8_spells p1 p2 15 s44) fun r46 s47 =>
if r46 = 0 then (
bnd (fX8_spells p1 p2 16 s47) fun r49 s50 =>
if r49 = 0 then (
bnd (fX8_spells p1 p2 17 s50) fun r52 s53 =>
if r52 = 0 then (
bnd (fX8_nounOf p1 p2 s53) fun r55 s56 =>
some (r55, s56))
else
some (290, s53))
else
some (289, s50))
else
some (288, s47))
else
some (287, s44))
else
some (286, s41))
else
some (285, s38))
else
some (284, s35))
else
some (283, s32))
else
some (282, s29))
else
some (281, s26))
else
some (280, s23))
else
some (266, s20))
else
some (265, s17))
else
some (264, s14))
else
some (263, s11))
else
some (262, s8))
else
some (261, s5))
else
some (260, s2)
def fX8_note (p1 : Int) (p2 : Int) (s0 : St) : Rs Int :=
fld s0 145 4 fun v1 =>
if v1 < 400 then (
bnd (fX7_at p1 s0) fun r3 s4 =>
fld s4 145 4 fun v6 =>
sto s4 146 401 v6 r3 fun s8 =>
fld s8 145 4 fun v9 =>
sto s8 147 401 v9 0 fun s11 =>
fld s11 145 4 fun v12 =>
sto s11 148 401 v12 p1 fun s14 =>
bnd (fX8_isLetter r3 s14) fun r15 s16 =>
bnd (
if r15 = 0 then (
some ((), s16))
else
fld s16 145 4 fun v18 =>
bnd (fX8_wordOf p1 p2 s16) fun r20 s21 =>
sto s21 146 401 v18 r20 fun s23 =>
some ((), s23)) fun (y24 : Unit) s25 =>
bnd (fX8_isDigit r3 s25) fun r27 s28 =>
if r27 = 0 then (
fld s28 145 4 fun v30 =>
put s28 145 4 (w32 (v30 + 1)) fun s32 =>
some (0, s32))
else
bnd (
if 4 < w32 (p2 - p1) then (
some (0, s28))
else
some (1, s28)) fun (y33 : Int) s34 =>
fld s34 145 4 fun v36 =>
bnd (
if y33 = 0 then (
some (258, s34))
else
some (257, s34)) fun (y38 : Int) s39 =>
sto s39 146 401 v36 y38 fun s41 =>
bnd (itr FUEL (fun (x42 : Int) s43 =>
if y33 = 0 then (
some (.inr (), s43))
else
if x42 < p2 then (
fld s43 145 4 fun v45 =>
fld s43 145 4 fun v47 =>
lod s43 147 401 v47 fun v49 =>
bnd (fX7_at x42 s43) fun r51 s52 =>
sto s52 147 401 v45 (w32 (w32 (w32 (10 * v49) + r51) - 48)) fun s54 =>
some (.inl (w32 (x42 + 1)), s54))
else
some (.inr (), s43)) p1 s41) fun (y55 : Unit) s56 =>
fld s56 145 4 fun v58 =>
put s56 145 4 (w32 (v58 + 1)) fun s60 =>
some (0, s60))
else
some (0, s0)
def fX8_scan  (s0 : St) : Rs Int :=
put s0 145 4 0 fun s1 =>
put s1 145 5 0 fun s2 =>
bnd (itr FUEL (fun (x3 : Int × Int) s4 =>
if x3.2 < 400 then (
bnd (fX7_length s4) fun r6 s7 =>
if x3.1 < r6 then (
bnd (fX8_behind x3.1 s7) fun r9 s10 =>
bnd (fX7_at x3.1 s10) fun r12 s13 =>
bnd (fX8_isBlank r12 s13) fun r15 s16 =>
if r15 = 0 then (
bnd (fX8_note x3.1 r9 s16) fun r18 s19 =>
some (.inl (r9, w32 (x3.2 + 1)), s19))
else
some (.inl (r9, w32 (x3.2 + 1)), s16))
else
some (.inr (), s7))
else
some (.inr (), s4)) (0, 0) s2) fun (y21 : Unit) s22 =>
fld s22 145 4 fun v24 =>
sto s22 146 401 v24 256 fun s26 =>
fld s26 145 4 fun v27 =>
bnd (fX7_length s26) fun r29 s30 =>
sto s30 148 401 v27 r29 fun s32 =>
some (0, s32)
def fX8_kind  (s0 : St) : Rs Int :=
fld s0 145 5 fun v1 =>
lod s0 146 401 v1 fun v3 =>
some (v3, s0)
def fX8_advance  (s0 : St) : Rs Int :=
fld s0 145 5 fun v1 =>
fld s0 145 4 fun v3 =>
if v1 < v3 then (
fld s0 145 5 fun v5 =>
put s0 145 5 (w32 (v5 + 1)) fun s7 =>
some (0, s7))
else
some (0, s0)
def fX5_refuse (p1 : Int) (s0 : St) : Rs Int :=
put s0 139 7 p1 fun s1 =>
some (0, s1)
def fX5_beginLine (p1 : Int) (s0 : St) : Rs Int :=
bnd (fX8_kind s0) fun r1 s2 =>
if r1 = p1 then (
bnd (fX6_isFull 140 141 64 s2) fun r4 s5 =>
if r4 = 0 then (
bnd (fX8_advance s5) fun r7 s8 =>
some (1, s8))
else
bnd (fX5_refuse 3 s5) fun r10 s11 =>
some (r10, s11))
else
bnd (fX5_refuse 1 s2) fun r13 s14 =>
some (r13, s14)
def fX8_number  (s0 : St) : Rs Int :=
fld s0 145 5 fun v1 =>
lod s0 147 401 v1 fun v3 =>
some (v3, s0)
def fX5_readOperand (p1 : Int) (s0 : St) : Rs Int :=
bnd (fX8_kind s0) fun r1 s2 =>
bnd (
if p1 = 0 then (
bnd (fX11_within r1 270 279 s2) fun r4 s5 =>
if r4 = 0 then (
some (0, s5))
else
some (1, s5))
else
some (0, s2)) fun (y7 : Int) s8 =>
bnx (
if r1 = 257 then (
some (.inl (), s8))
else
if y7 = 0 then (
bnd (fX5_refuse 1 s8) fun r10 s11 =>
some (.inr r10, s11))
else
some (.inl (), s8)) fun (y13 : Unit) s14 =>
bnx (
if p1 = 0 then (
some (.inl (), s14))
else
bnd (fX8_number s14) fun r16 s17 =>
if r16 = 0 then (
bnd (fX5_refuse 2 s17) fun r19 s20 =>
some (.inr r19, s20))
else
some (.inl (), s17)) fun (y22 : Unit) s23 =>
bnd (
if y7 = 0 then (
bnd (fX8_number s23) fun r25 s26 =>
some (r25, s26))
else
some (w32 (-r1), s23)) fun (y28 : Int) s29 =>
bnd (fX6_add 142 143 400 y28 s29) fun r31 s32 =>
bnd (fX8_advance s32) fun r34 s35 =>
some (1, s35)
def fX5_readSum  (s0 : St) : Rs Int :=
bnx (itr FUEL (fun (x1 : Int × Int × Int) s2 =>
if x1.2.2 < 400 then (
bnd (
if x1.2.1 = 47 then (
some (1, s2))
else
some (0, s2)) fun (y4 : Int) s5 =>
bnd (fX5_readOperand y4 s5) fun r7 s8 =>
if r7 = 0 then (
some (.inr (.inl ()), s8))
else
bnd (
if x1.2.1 = (-1) then (
some ((), s8))
else
bnd (fX6_add 142 143 400 (w32 (-x1.2.1)) s8) fun r10 s11 =>
some ((), s11)) fun (y13 : Unit) s14 =>
bnd (fX8_kind s14) fun r16 s17 =>
bnx (
if r16 = 42 then (
some (.inl (x1.1, r16), s17))
else
if r16 = 47 then (
some (.inl (x1.1, r16), s17))
else
bnd (
if x1.1 = (-1) then (
some ((), s17))
else
bnd (fX6_add 142 143 400 (w32 (-x1.1)) s17) fun r19 s20 =>
some ((), s20)) fun (y22 : Unit) s23 =>
if r16 = 43 then (
some (.inl (r16, (-1)), s23))
else
if r16 = 45 then (
some (.inl (r16, (-1)), s23))
else
some (.inr (.inr (.inr 1)), s23)) fun (y25 : Int × Int) s26 =>
bnd (fX8_advance s26) fun r28 s29 =>
some (.inl (y25.1, y25.2, w32 (x1.2.2 + 1)), s29))
else
some (.inr (.inr 0), s2)) ((-1), (-1), 0) s0) fun (y31 : Unit) s32 =>
some (0, s32)
def fX5_putOff (p1 : Int) (s0 : St) : Rs Int :=
fld s0 139 5 fun v1 =>
if v1 < 28 then (
fld s0 139 5 fun v3 =>
sto s0 144 28 v3 p1 fun s5 =>
fld s5 139 5 fun v6 =>
put s5 139 5 (w32 (v6 + 1)) fun s8 =>
some (0, s8))
else
some (0, s0)
def fX5_readOpenings  (s0 : St) : Rs Int :=
bnx (itr FUEL (fun (x1 : Int) s2 =>
if 8 < x1 then (
some (.inr (.inr 1), s2))
else
bnd (fX8_kind s2) fun r4 s5 =>
bnx (
if r4 = 40 then (
some (.inl (), s5))
else
if r4 = 266 then (
some (.inl (), s5))
else
some (.inr (.inr (.inr 1)), s5)) fun (y7 : Unit) s8 =>
fld s8 139 6 fun v10 =>
if v10 < 8 then (
bnd (fX5_putOff r4 s8) fun r12 s13 =>
fld s13 139 6 fun v15 =>
put s13 139 6 (w32 (v15 + 1)) fun s17 =>
bnd (fX8_advance s17) fun r18 s19 =>
some (.inl (w32 (x1 + 1)), s19))
else
some (.inr (.inl ()), s8)) 0 s0) fun (y21 : Unit) s22 =>
bnd (fX5_refuse 3 s22) fun r24 s25 =>
some (r24, s25)
def fX5_readComparison  (s0 : St) : Rs Int :=
bnd (fX5_readSum s0) fun r1 s2 =>
if r1 = 0 then (
some (0, s2))
else
bnd (fX8_kind s2) fun r4 s5 =>
bnx (
if r4 = 60 then (
some (.inl (), s5))
else
if r4 = 61 then (
some (.inl (), s5))
else
if r4 = 62 then (
some (.inl (), s5))
else
bnd (fX5_refuse 1 s5) fun r7 s8 =>
some (.inr r7, s8)) fun (y10 : Unit) s11 =>
bnd (fX8_advance s11) fun r13 s14 =>
bnd (fX5_readSum s14) fun r16 s17 =>
if r16 = 0 then (
some (0, s17))
else
bnd (fX6_add 142 143 400 (w32 (-r4)) s17) fun r19 s20 =>
some (1, s20)
def fX5_noteDown (p1 : Int) (s0 : St) : Rs Int :=
bnd (itr FUEL (fun (x1 : Unit) s2 =>
fld s2 139 5 fun v4 =>
if 0 < v4 then (
fld s2 139 5 fun v6 =>
lod s2 144 28 (w32 (v6 - 1)) fun v8 =>
if v8 < p1 then (
some (.inr (), s2))
else
fld s2 139 5 fun v10 =>
put s2 139 5 (w32 (v10 - 1)) fun s12 =>
fld s12 139 5 fun v13 =>
lod s12 144 28 v13 fun v15 =>
bnd (
if v15 = 266 then (
fld s12 139 6 fun v17 =>
put s12 139 6 (w32 (v17 - 1)) fun s19 =>
some ((), s19))
else
some ((), s12)) fun (y20 : Unit) s21 =>
fld s21 139 5 fun v23 =>
lod s21 144 28 v23 fun v25 =>
bnd (fX6_add 142 143 400 (w32 (-v25)) s21) fun r27 s28 =>
some (.inl (), s28))
else
some (.inr (), s2)) () s0) fun (y30 : Unit) s31 =>
some (0, s31)
def fX5_readClosings  (s0 : St) : Rs Int :=
bnd (fX5_noteDown 266 s0) fun r1 s2 =>
bnx (itr FUEL (fun (x4 : Int) s5 =>
if 8 < x4 then (
some (.inr (.inr 1), s5))
else
bnd (fX8_kind s5) fun r7 s8 =>
if r7 = 41 then (
bnd (fX5_noteDown 264 s8) fun r10 s11 =>
fld s11 139 5 fun v13 =>
if v13 = 0 then (
some (.inr (.inl ()), s11))
else
fld s11 139 5 fun v15 =>
put s11 139 5 (w32 (v15 - 1)) fun s17 =>
fld s17 139 6 fun v18 =>
put s17 139 6 (w32 (v18 - 1)) fun s20 =>
bnd (fX5_noteDown 266 s20) fun r21 s22 =>
bnd (fX8_advance s22) fun r24 s25 =>
some (.inl (w32 (x4 + 1)), s25))
else
some (.inr (.inr 1), s8)) 0 s2) fun (y27 : Unit) s28 =>
bnd (fX5_refuse 1 s28) fun r30 s31 =>
some (r30, s31)
def fX5_readConditions  (s0 : St) : Rs Int :=
put s0 139 5 0 fun s1 =>
put s1 139 6 0 fun s2 =>
bnx (itr FUEL (fun (x3 : Int) s4 =>
if x3 < 400 then (
bnd (fX5_readOpenings s4) fun r6 s7 =>
if r6 = 0 then (
some (.inr (.inr 0), s7))
else
bnd (fX5_readComparison s7) fun r9 s10 =>
if r9 = 0 then (
some (.inr (.inr 0), s10))
else
bnd (fX5_readClosings s10) fun r12 s13 =>
if r12 = 0 then (
some (.inr (.inr 0), s13))
else
bnd (fX8_kind s13) fun r15 s16 =>
bnx (
if r15 = 265 then (
some (.inl (), s16))
else
if r15 = 264 then (
some (.inl (), s16))
else
some (.inr (.inr (.inl ())), s16)) fun (y18 : Unit) s19 =>
bnd (fX5_noteDown r15 s19) fun r21 s22 =>
bnd (fX5_putOff r15 s22) fun r24 s25 =>
bnd (fX8_advance s25) fun r27 s28 =>
some (.inl (w32 (x3 + 1)), s28))
else
some (.inr (.inr 0), s4)) 0 s2) fun (y30 : Unit) s31 =>
bnd (fX5_noteDown 264 s31) fun r33 s34 =>
fld s34 139 5 fun v36 =>
if v36 = 0 then (
some (1, s34))
else
bnd (fX5_refuse 1 s34) fun r38 s39 =>
if r38 = 0 then (
some (0, s39))
else
some (1, s39)
def fX5_take (p1 : Int) (s0 : St) : Rs Int :=
bnd (fX8_kind s0) fun r1 s2 =>
if r1 = p1 then (
bnd (fX8_advance s2) fun r4 s5 =>
some (1, s5))
else
bnd (fX5_refuse 1 s2) fun r7 s8 =>
some (r7, s8)
def fX5_readLawLine  (s0 : St) : Rs Int :=
bnd (fX8_kind s0) fun r1 s2 =>
bnd (fX11_within r1 260 262 s2) fun r4 s5 =>
if r4 = 0 then (
bnd (fX5_refuse 1 s5) fun r40 s41 =>
some (r40, s41))
else
bnd (fX5_beginLine r1 s5) fun r7 s8 =>
if r7 = 0 then (
some (0, s8))
else
bnd (fX6_size 142 143 400 s8) fun r10 s11 =>
bnd (fX5_readSum s11) fun r13 s14 =>
if r13 = 0 then (
some (0, s14))
else
bnd (fX6_size 142 143 400 s14) fun r16 s17 =>
bnd (fX8_kind s17) fun r19 s20 =>
bnx (
if r19 = 263 then (
bnd (fX8_advance s20) fun r22 s23 =>
bnd (fX5_readConditions s23) fun r25 s26 =>
if r25 = 0 then (
some (.inr 0, s26))
else
some (.inl (), s26))
else
some (.inl (), s20)) fun (y28 : Unit) s29 =>
bnd (fX5_take 59 s29) fun r31 s32 =>
if r31 = 0 then (
some (0, s32))
else
bnd (fX6_size 142 143 400 s32) fun r34 s35 =>
bnd (fX6_add_ 140 141 64 r1 r10 r16 r34 0 s35) fun r37 s38 =>
if r37 = (-1) then (
some (0, s38))
else
some (1, s38)
def fX5_takeNumber (p1 : Int) (p2 : Int) (p3 : Int) (s0 : St) : Rs Int :=
bnd (fX8_number s0) fun r1 s2 =>
bnd (fX11_within r1 p1 p2 s2) fun r4 s5 =>
bnd (
if r4 = 0 then (
some (0, s5))
else
if r1 = p3 then (
some (0, s5))
else
some (1, s5)) fun (y7 : Int) s8 =>
bnd (fX8_kind s8) fun r10 s11 =>
bnx (
if r10 = 257 then (
if y7 = 0 then (
some (.inl (), s11))
else
bnd (fX8_advance s11) fun r13 s14 =>
some (.inr r1, s14))
else
some (.inl (), s11)) fun (y16 : Unit) s17 =>
bnd (fX8_kind s17) fun r19 s20 =>
bnd (
if r19 = 257 then (
some (2, s20))
else
some (1, s20)) fun (y22 : Int) s23 =>
bnd (fX5_refuse y22 s23) fun r25 s26 =>
some ((-1), s26)
def fX5_takePerson  (s0 : St) : Rs Int :=
fld s0 3 5 fun v1 =>
bnd (fX5_takeNumber 0 (w32 (v1 - 1)) (-1) s0) fun r3 s4 =>
some (r3, s4)
def fX5_takeMinute  (s0 : St) : Rs Int :=
bnd (fX5_takeNumber 0 59 (-1) s0) fun r1 s2 =>
some (r1, s2)
def fX5_takePorch  (s0 : St) : Rs Int :=
fld s0 3 4 fun v1 =>
bnd (fX5_takeNumber 0 (w32 (v1 - 1)) (-1) s0) fun r3 s4 =>
some (r3, s4)
def fX5_readCall  (s0 : St) : Rs Int :=
bnd (fX5_beginLine 280 s0) fun r1 s2 =>
if r1 = 0 then (
some (0, s2))
else
bnd (fX5_takePerson s2) fun r4 s5 =>
if r4 = (-1) then (
some (0, s5))
else
bnd (fX5_take 281 s5) fun r7 s8 =>
if r7 = 0 then (
some (0, s8))
else
bnd (fX5_takeMinute s8) fun r10 s11 =>
if r10 = (-1) then (
some (0, s11))
else
bnd (fX5_take 282 s11) fun r13 s14 =>
if r13 = 0 then (
some (0, s14))
else
bnd (fX5_takePorch s14) fun r16 s17 =>
if r16 = (-1) then (
some (0, s17))
else
bnd (fX5_take 283 s17) fun r19 s20 =>
if r19 = 0 then (
some (0, s20))
else
bnd (fX5_takeNumber 1 60 (-1) s20) fun r22 s23 =>
if r22 = (-1) then (
some (0, s23))
else
bnd (fX5_take 59 s23) fun r25 s26 =>
if r25 = 0 then (
some (0, s26))
else
bnd (fX6_add_ 140 141 64 r4 r10 r16 r22 0 s26) fun r28 s29 =>
if r28 = (-1) then (
some (0, s29))
else
some (1, s29)
def fX5_readEvening  (s0 : St) : Rs Int :=
bnd (fX5_beginLine 284 s0) fun r1 s2 =>
if r1 = 0 then (
some (0, s2))
else
bnd (fX5_takeNumber 0 999 (-1) s2) fun r4 s5 =>
if r4 = (-1) then (
some (0, s5))
else
bnd (fX8_kind s5) fun r7 s8 =>
bnd (fX11_within r7 285 288 s8) fun r10 s11 =>
if r10 = 0 then (
bnd (fX5_refuse 1 s11) fun r43 s44 =>
some (r43, s44))
else
bnd (fX8_advance s11) fun r13 s14 =>
bnd (
if r7 = 287 then (
bnd (fX5_takeMinute s14) fun r19 s20 =>
some (r19, s20))
else
bnd (fX5_takePorch s14) fun r16 s17 =>
some (r16, s17)) fun (y22 : Int) s23 =>
if y22 = (-1) then (
some (0, s23))
else
bnd (
if r7 = 285 then (
bnd (fX5_takeNumber 0 99 (-1) s23) fun r25 s26 =>
some (r25, s26))
else
some (0, s23)) fun (y28 : Int) s29 =>
bnd (
if r7 = 288 then (
bnd (fX5_takePerson s29) fun r31 s32 =>
some (r31, s32))
else
some (y28, s29)) fun (y34 : Int) s35 =>
if y34 = (-1) then (
some (0, s35))
else
bnd (fX5_take 59 s35) fun r37 s38 =>
if r37 = 0 then (
some (0, s38))
else
bnd (fX6_add_ 140 141 64 r4 r7 y22 y34 0 s38) fun r40 s41 =>
if r40 = (-1) then (
some (0, s41))
else
some (1, s41)
def fX5_readStreetLine  (s0 : St) : Rs Int :=
bnd (fX5_beginLine 289 s0) fun r1 s2 =>
if r1 = 0 then (
some (0, s2))
else
bnd (fX5_takePorch s2) fun r4 s5 =>
if r4 = (-1) then (
some (0, s5))
else
bnd (fX5_take 290 s5) fun r7 s8 =>
if r7 = 0 then (
some (0, s8))
else
fld s8 3 4 fun v10 =>
bnd (fX5_takeNumber 0 (w32 (v10 - 1)) r4 s8) fun r12 s13 =>
if r12 = (-1) then (
some (0, s13))
else
bnd (fX5_takeNumber 1 99 (-1) s13) fun r15 s16 =>
if r15 = (-1) then (
some (0, s16))
else
bnd (fX5_take 59 s16) fun r18 s19 =>
if r18 = 0 then (
some (0, s19))
else
bnd (fX6_add_ 140 141 64 r4 r12 r15 0 0 s19) fun r21 s22 =>
if r21 = (-1) then (
some (0, s22))
else
some (1, s22)
def fX8_place  (s0 : St) : Rs Int :=
fld s0 145 5 fun v1 =>
lod s0 148 401 v1 fun v3 =>
some (v3, s0)
def fX5_read (p1 : Int) (s0 : St) : Rs Int :=
put s0 139 7 0 fun s1 =>
put s1 139 8 (-1) fun s2 =>
bnd (fX11_within p1 0 3 s2) fun r3 s4 =>
if r3 = 0 then (
some (0, s4))
else
bnd (fX6_clear 140 141 64 s4) fun r6 s7 =>
bnd (fX6_clear 142 143 400 s7) fun r9 s10 =>
bnd (fX8_scan s10) fun r12 s13 =>
bnd (itr FUEL (fun (x15 : Int × Int) s16 =>
if 16 < x15.2 then (
some (.inr x15.1, s16))
else
if x15.1 = 0 then (
some (.inr x15.1, s16))
else
bnd (fX8_kind s16) fun r18 s19 =>
if r18 = 256 then (
some (.inr x15.1, s19))
else
bnd (
if p1 = 0 then (
bnd (fX5_readLawLine s19) fun r21 s22 =>
some (r21, s22))
else
some (x15.1, s19)) fun (y24 : Int) s25 =>
bnd (
if p1 = 1 then (
bnd (fX5_readCall s25) fun r27 s28 =>
some (r27, s28))
else
some (y24, s25)) fun (y30 : Int) s31 =>
bnd (
if p1 = 2 then (
bnd (fX5_readEvening s31) fun r33 s34 =>
some (r33, s34))
else
some (y30, s31)) fun (y36 : Int) s37 =>
if p1 = 3 then (
bnd (fX5_readStreetLine s37) fun r39 s40 =>
some (.inl (r39, w32 (x15.2 + 1)), s40))
else
some (.inl (y36, w32 (x15.2 + 1)), s37)) (1, 0) s13) fun (y42 : Int) s43 =>
if y42 = 0 then (
bnd (fX8_place s43) fun r45 s46 =>
put s46 139 8 r45 fun s48 =>
some (y42, s48))
else
some (y42, s43)
def fX9_linesOf (p1 : Int) (s0 : St) : Rs Int :=
if p1 = 0 then (
some (((18 : Nat) : Int), s0))
else
if p1 = 1 then (
some (((22 : Nat) : Int), s0))
else
if p1 = 2 then (
some (((24 : Nat) : Int), s0))
else
some (((26 : Nat) : Int), s0)
def fX5_draft  (s0 : St) : Rs Int :=
some (((140 : Nat) : Int), s0)
def fX5_draftCode  (s0 : St) : Rs Int :=
some (((142 : Nat) : Int), s0)
def fX11_text (p1 : Int) (s0 : St) : Rs Int :=
bnd (fX5_read p1 s0) fun r1 s2 =>
bnd (fX7_cut 0 s2) fun r4 s5 =>
if r1 = 0 then (
some ((-1), s5))
else
bnd (fX9_linesOf p1 s5) fun r7 s8 =>
bnd (fX5_draft s8) fun _ s11 =>
bnd (fX6_copyFrom r7.toNat (r7.toNat + 1) 64 140 141 64 s11) fun r13 s14 =>
bnd (
if p1 = 0 then (
bnd (fX5_draftCode s14) fun _ s17 =>
bnd (fX6_copyFrom 20 21 400 142 143 400 s17) fun r19 s20 =>
some ((), s20))
else
some ((), s14)) fun (y22 : Unit) s23 =>
bnd (
if p1 = 1 then (
bnd (fX10_forget s23) fun r25 s26 =>
some ((), s26))
else
if p1 = 2 then (
bnd (fX10_forget s23) fun r28 s29 =>
some ((), s29))
else
some ((), s23)) fun (y31 : Unit) s32 =>
bnd (fX6_size r7.toNat (r7.toNat + 1) 64 s32) fun r34 s35 =>
some (r34, s35)
def fX6_cutTo (ro rc rn : Nat) (p1 : Int) (s0 : St) : Rs Int :=
if p1 < 0 then (
some (0, s0))
else
fld s0 ro 2 fun v1 =>
if p1 < v1 then (
put s0 ro 2 p1 fun s3 =>
some (0, s3))
else
some (0, s0)
def fX11_undo  (s0 : St) : Rs Int :=
bnd (fX10_goBack s0) fun r1 s2 =>
if r1 = (-1) then (
some (0, s2))
else
bnd (fX6_cutTo 50 51 750 r1 s2) fun r4 s5 =>
some (1, s5)
def fX11_wishes (p1 : Int) (p2 : Int) (p3 : Int) (s0 : St) : Rs Int :=
bnd (fX11_within p1 0 1 s0) fun r1 s2 =>
if r1 = 0 then (
some (0, s2))
else
bnd (fX11_within p2 0 4 s2) fun r4 s5 =>
if r4 = 0 then (
some (0, s5))
else
bnd (fX0_change p1 p2 p3 s5) fun r7 s8 =>
if r7 = 0 then (
some (0, s8))
else
some (1, s8)
def fX12_isPorch (p1 : Int) (s0 : St) : Rs Int :=
if p1 < 0 then (
some (0, s0))
else
fld s0 0 6 fun v1 =>
if p1 < v1 then (
some (1, s0))
else
some (0, s0)
def fX12_isIn (p1 : Int) (p2 : Int) (p3 : Int) (s0 : St) : Rs Int :=
if p1 < p2 then (
some (0, s0))
else
if p3 < p1 then (
some (0, s0))
else
some (1, s0)
def fX12_isPerson (p1 : Int) (s0 : St) : Rs Int :=
if p1 < 0 then (
some (0, s0))
else
fld s0 0 7 fun v1 =>
if p1 < v1 then (
some (1, s0))
else
some (0, s0)
def fX12_doesSit (p1 : Int) (s0 : St) : Rs Int :=
lod s0 1 161 (w32 (41 + p1)) fun v1 =>
if 0 < v1 then (
some (1, s0))
else
some (0, s0)
def fX12_sitsOn (p1 : Int) (s0 : St) : Rs Int :=
lod s0 1 161 (w32 (41 + p1)) fun v1 =>
some (w32 (v1 - 1), s0)
def fX12_sittersOn (p1 : Int) (s0 : St) : Rs Int :=
bnd (itr FUEL (fun (x1 : Int × Int) s2 =>
fld s2 0 7 fun v4 =>
if x1.2 < v4 then (
bnd (fX12_sitsOn x1.2 s2) fun r6 s7 =>
if r6 = p1 then (
lb (ior x1.1 (ishl 1 x1.2)) fun v9 =>
some (.inl (v9, w32 (x1.2 + 1)), s7))
else
some (.inl (x1.1, w32 (x1.2 + 1)), s7))
else
some (.inr x1.1, s2)) (0, 0) s0) fun (y11 : Int) s12 =>
some (y11, s12)
def fX12_onesOf (p1 : Int) (s0 : St) : Rs Int :=
bnd (itr FUEL (fun (x1 : Int × Int) s2 =>
if x1.2 = 0 then (
some (.inr x1.1, s2))
else
lb (w32 (x1.1 + 1)) fun v4 =>
lb (iand x1.2 (w32 (x1.2 - 1))) fun v6 =>
some (.inl (v4, v6), s2)) (0, p1) s0) fun (y8 : Int) s9 =>
some (y8, s9)
def fX12_canSit (p1 : Int) (p2 : Int) (s0 : St) : Rs Int :=
bnd (fX12_doesSit p1 s0) fun r1 s2 =>
if r1 = 0 then (
bnd (fX12_sittersOn p2 s2) fun r4 s5 =>
bnd (fX12_onesOf r4 s5) fun r7 s8 =>
lod s8 4 12 p2 fun v10 =>
if r7 < v10 then (
some (1, s8))
else
some (0, s8))
else
some (0, s2)
def fX12_canAct (p1 : Int) (p2 : Int) (p3 : Int) (s0 : St) : Rs Int :=
if p1 = 0 then (
bnd (fX12_isPerson p2 s0) fun r19 s20 =>
if r19 = 0 then (
some (0, s20))
else
bnd (fX12_isPorch p3 s20) fun r22 s23 =>
if r22 = 0 then (
some (0, s23))
else
bnd (fX12_canSit p2 p3 s23) fun r25 s26 =>
if r25 = 0 then (
some (0, s26))
else
some (1, s26))
else
if p1 = 1 then (
bnd (fX12_isPerson p2 s0) fun r13 s14 =>
if r13 = 0 then (
some (0, s14))
else
bnd (fX12_doesSit p2 s14) fun r16 s17 =>
if r16 = 0 then (
some (0, s17))
else
some (1, s17))
else
bnx (
if p1 = 2 then (
bnd (fX12_isPorch p2 s0) fun r1 s2 =>
if r1 = 0 then (
some (.inl (), s2))
else
some (.inr 1, s2))
else
some (.inl (), s0)) fun (y4 : Unit) s5 =>
if p1 = 3 then (
bnd (fX12_isPorch p2 s5) fun r7 s8 =>
if r7 = 0 then (
some (0, s8))
else
bnd (fX12_isIn p3 0 99 s8) fun r10 s11 =>
if r10 = 0 then (
some (0, s11))
else
some (1, s11))
else
some (0, s5)
def fX12_keepsAhead  (s0 : St) : Rs Int :=
fld s0 0 3 fun v1 =>
bnd (
if v1 = 6 then (
fld s0 0 3 fun v3 =>
put s0 0 3 (w32 (v3 - 1)) fun s5 =>
itr FUEL (fun (x6 : Int) s7 =>
fld s7 0 3 fun v9 =>
if x6 < w32 (161 * v9) then (
lod s7 2 966 (w32 (x6 + 161)) fun v11 =>
sto s7 2 966 x6 v11 fun s13 =>
some (.inl (w32 (x6 + 1)), s13))
else
some (.inr (), s7)) 0 s5)
else
some ((), s0)) fun (y14 : Unit) s15 =>
bnd (itr FUEL (fun (x17 : Int) s18 =>
if x17 < 161 then (
fld s18 0 3 fun v20 =>
lod s18 1 161 x17 fun v22 =>
sto s18 2 966 (w32 (w32 (161 * v20) + x17)) v22 fun s24 =>
some (.inl (w32 (x17 + 1)), s24))
else
some (.inr (), s18)) 0 s15) fun (y25 : Unit) s26 =>
fld s26 0 3 fun v28 =>
put s26 0 3 (w32 (v28 + 1)) fun s30 =>
some (0, s30)
def fX12_notes (p1 : Int) (p2 : Int) (p3 : Int) (s0 : St) : Rs Int :=
fld s0 0 5 fun v1 =>
if v1 = 0 then (
lod s0 1 161 3 fun v3 =>
if v3 = 150 then (
some (0, s0))
else
lod s0 1 161 3 fun v5 =>
lb (w32 (5 * v5)) fun v7 =>
lod s0 1 161 0 fun v9 =>
sto s0 7 750 v7 v9 fun s11 =>
lod s11 1 161 1 fun v12 =>
sto s11 7 750 (w32 (v7 + 1)) v12 fun s14 =>
sto s14 7 750 (w32 (v7 + 2)) p1 fun s15 =>
sto s15 7 750 (w32 (v7 + 3)) p2 fun s16 =>
sto s16 7 750 (w32 (v7 + 4)) p3 fun s17 =>
lod s17 1 161 3 fun v18 =>
sto s17 1 161 3 (w32 (v18 + 1)) fun s20 =>
some (0, s20))
else
some (0, s0)
def fX12_isSat (p1 : Int) (p2 : Int) (p3 : Int) (s0 : St) : Rs Int :=
sto s0 1 161 (w32 (41 + p1)) (w32 (p2 + 1)) fun s1 =>
sto s1 1 161 (w32 (61 + p1)) 0 fun s2 =>
sto s2 1 161 (w32 (81 + p1)) p3 fun s3 =>
bnd (fX12_notes 0 p1 p2 s3) fun r4 s5 =>
some (0, s5)
def fX12_getsUp (p1 : Int) (s0 : St) : Rs Int :=
sto s0 1 161 (w32 (41 + p1)) 0 fun s1 =>
sto s1 1 161 (w32 (61 + p1)) 0 fun s2 =>
sto s2 1 161 (w32 (81 + p1)) 0 fun s3 =>
some (0, s3)
def fX12_isSwept (p1 : Int) (s0 : St) : Rs Int :=
lod s0 1 161 (w32 (17 + p1)) fun v1 =>
bnd (fX12_notes 4 p1 v1 s0) fun r3 s4 =>
sto s4 1 161 (w32 (17 + p1)) 0 fun s6 =>
lod s6 1 161 4 fun v7 =>
sto s6 1 161 4 (w32 (v7 + 1)) fun s9 =>
some (0, s9)
def fX12_act (p1 : Int) (p2 : Int) (p3 : Int) (s0 : St) : Rs Int :=
put s0 0 0 0 fun s1 =>
bnd (fX12_canAct p1 p2 p3 s1) fun r2 s3 =>
if r2 = 0 then (
some (0, s3))
else
bnd (fX12_keepsAhead s3) fun r5 s6 =>
bnd (
if p1 = 0 then (
bnd (fX12_isSat p2 p3 60 s6) fun r8 s9 =>
some ((), s9))
else
some ((), s6)) fun (y11 : Unit) s12 =>
bnd (
if p1 = 1 then (
bnd (fX12_getsUp p2 s12) fun r14 s15 =>
some ((), s15))
else
some ((), s12)) fun (y17 : Unit) s18 =>
bnd (
if p1 = 2 then (
bnd (fX12_isSwept p2 s18) fun r20 s21 =>
some ((), s21))
else
some ((), s18)) fun (y23 : Unit) s24 =>
if p1 = 3 then (
sto s24 1 161 (w32 (5 + p2)) p3 fun s26 =>
some (1, s26))
else
some (1, s24)
def fX12_added (p1 : Int) (p2 : Int) (s0 : St) : Rs Int :=
if p1 < w32 (1000000007 - p2) then (
some (w32 (p1 + p2), s0))
else
some (w32 (p1 - w32 (1000000007 - p2)), s0)
def fX12_apart (p1 : Int) (p2 : Int) (s0 : St) : Rs Int :=
if p2 < p1 then (
some (w32 (p1 - p2), s0))
else
some (w32 (p2 - p1), s0)
def fX12_asks (p1 : Int) (p2 : Int) (s0 : St) : Rs Int :=
bnd (
if p1 = (-1) then (
some (0, s0))
else
lod s0 5 20 p1 fun v1 =>
some (v1, s0)) fun (y3 : Int) s4 =>
sto s4 21 10 0 y3 fun s6 =>
bnd (
if p1 = (-1) then (
some (0, s6))
else
lod s6 6 20 p1 fun v7 =>
some (v7, s6)) fun (y9 : Int) s10 =>
sto s10 21 10 1 y9 fun s12 =>
bnd (fX12_sittersOn p2 s12) fun r13 s14 =>
bnd (fX12_onesOf r13 s14) fun r16 s17 =>
sto s17 21 10 2 r16 fun s19 =>
bnd (
if p1 = (-1) then (
some (0, s19))
else
lod s19 1 161 (w32 (61 + p1)) fun v20 =>
some (v20, s19)) fun (y22 : Int) s23 =>
sto s23 21 10 3 y22 fun s25 =>
lod s25 1 161 (w32 (5 + p2)) fun v26 =>
sto s25 21 10 4 v26 fun s28 =>
lod s28 1 161 (w32 (17 + p2)) fun v29 =>
sto s28 21 10 5 v29 fun s31 =>
lod s31 1 161 1 fun v32 =>
sto s31 21 10 6 v32 fun s34 =>
bnd (
if p1 = (-1) then (
some (0, s34))
else
lod s34 1 161 (w32 (101 + p1)) fun v35 =>
some (v35, s34)) fun (y37 : Int) s38 =>
sto s38 21 10 7 y37 fun s40 =>
bnd (
if p1 = (-1) then (
some (0, s40))
else
lod s40 1 161 (w32 (121 + p1)) fun v41 =>
some (v41, s40)) fun (y43 : Int) s44 =>
sto s44 21 10 8 y43 fun s46 =>
lod s46 1 161 0 fun v47 =>
sto s46 21 10 9 v47 fun s49 =>
some (0, s49)
def fX12_begins  (s0 : St) : Rs Int :=
bnd (itr FUEL (fun (x1 : Int) s2 =>
fld s2 0 37 fun v4 =>
if x1 < w32 (4 * v4) then (
lod s2 19 128 x1 fun v6 =>
lod s2 1 161 0 fun v8 =>
if v6 = v8 then (
lod s2 19 128 (w32 (x1 + 1)) fun v10 =>
bnd (
if v10 = 0 then (
lod s2 19 128 (w32 (x1 + 2)) fun v12 =>
lod s2 19 128 (w32 (x1 + 3)) fun v14 =>
sto s2 1 161 (w32 (5 + v12)) v14 fun s16 =>
some ((), s16))
else
some ((), s2)) fun (y17 : Unit) s18 =>
lod s18 19 128 (w32 (x1 + 1)) fun v20 =>
bnd (
if v20 = 1 then (
lod s18 19 128 (w32 (x1 + 2)) fun v22 =>
bnd (fX12_isSwept v22 s18) fun r24 s25 =>
some ((), s25))
else
some ((), s18)) fun (y27 : Unit) s28 =>
lod s28 19 128 (w32 (x1 + 1)) fun v30 =>
if v30 = 3 then (
lod s28 19 128 (w32 (x1 + 2)) fun v34 =>
lod s28 19 128 (w32 (x1 + 3)) fun v36 =>
sto s28 1 161 (w32 (29 + v34)) (w32 (v36 + 1)) fun s38 =>
lb (w32 (x1 + 4)) fun v39 =>
some (.inl v39, s38))
else
lb (w32 (x1 + 4)) fun v32 =>
some (.inl v32, s28))
else
lb (w32 (x1 + 4)) fun v41 =>
some (.inl v41, s2))
else
some (.inr (), s2)) 0 s0) fun (y43 : Unit) s44 =>
some (0, s44)
def fX12_board (p1 : Int) (s0 : St) : Rs Int :=
put s0 0 0 0 fun s1 =>
if p1 = (-1) then (
put s1 0 62 0 fun s15 =>
some (0, s15))
else
bnd (fX12_isIn p1 0 99 s1) fun r2 s3 =>
if r2 = 0 then (
some ((-1), s3))
else
fld s3 0 62 fun v5 =>
if v5 = 12 then (
some ((-1), s3))
else
fld s3 0 62 fun v7 =>
sto s3 39 12 v7 p1 fun s9 =>
fld s9 0 62 fun v10 =>
put s9 0 62 (w32 (v10 + 1)) fun s12 =>
fld s12 0 62 fun v13 =>
some (v13, s12)
def fX12_book (p1 : Int) (p2 : Int) (s0 : St) : Rs Int :=
put s0 0 0 0 fun s1 =>
lod s1 1 161 3 fun v2 =>
bnd (fX12_isIn p1 0 (w32 (v2 - 1)) s1) fun r4 s5 =>
if r4 = 0 then (
some ((-1), s5))
else
bnd (fX12_isIn p2 0 4 s5) fun r7 s8 =>
if r7 = 0 then (
some ((-1), s8))
else
lod s8 7 750 (w32 (w32 (5 * p1) + p2)) fun v10 =>
some (v10, s8)
def fX12_callsAndRain  (s0 : St) : Rs Int :=
bnd (itr FUEL (fun (x1 : Int) s2 =>
fld s2 0 35 fun v4 =>
if x1 < w32 (4 * v4) then (
lod s2 18 128 (w32 (x1 + 1)) fun v6 =>
lod s2 1 161 1 fun v8 =>
if v6 = v8 then (
lod s2 18 128 x1 fun v12 =>
lod s2 18 128 (w32 (x1 + 2)) fun v14 =>
bnd (fX12_canSit v12 v14 s2) fun r16 s17 =>
if r16 = 0 then (
lb (w32 (x1 + 4)) fun v19 =>
some (.inl v19, s17))
else
lod s17 18 128 x1 fun v21 =>
lod s17 18 128 (w32 (x1 + 2)) fun v23 =>
lod s17 18 128 (w32 (x1 + 3)) fun v25 =>
bnd (fX12_isSat v21 v23 v25 s17) fun r27 s28 =>
lb (w32 (x1 + 4)) fun v30 =>
some (.inl v30, s28))
else
lb (w32 (x1 + 4)) fun v10 =>
some (.inl v10, s2))
else
some (.inr (), s2)) 0 s0) fun (y32 : Unit) s33 =>
bnd (itr FUEL (fun (x35 : Int × Int) s36 =>
fld s36 0 37 fun v38 =>
if x35.2 < w32 (4 * v38) then (
lod s36 19 128 x35.2 fun v40 =>
lod s36 1 161 0 fun v42 =>
if v40 = v42 then (
lod s36 19 128 (w32 (x35.2 + 1)) fun v46 =>
if v46 = 2 then (
lod s36 19 128 (w32 (x35.2 + 2)) fun v50 =>
lod s36 1 161 1 fun v52 =>
if v50 = v52 then (
lb (w32 (x35.2 + 4)) fun v56 =>
some (.inl (1, v56), s36))
else
lb (w32 (x35.2 + 4)) fun v54 =>
some (.inl (x35.1, v54), s36))
else
lb (w32 (x35.2 + 4)) fun v48 =>
some (.inl (x35.1, v48), s36))
else
lb (w32 (x35.2 + 4)) fun v44 =>
some (.inl (x35.1, v44), s36))
else
some (.inr x35.1, s36)) (0, 0) s33) fun (y58 : Int) s59 =>
bnd (itr FUEL (fun (x61 : Int) s62 =>
fld s62 0 7 fun v64 =>
if x61 < v64 then (
if y58 = 0 then (
some (.inr (), s62))
else
bnd (fX12_doesSit x61 s62) fun r66 s67 =>
if r66 = 0 then (
some (.inl (w32 (x61 + 1)), s67))
else
bnd (fX12_sitsOn x61 s67) fun r69 s70 =>
lod s70 1 161 (w32 (17 + r69)) fun v72 =>
if 50 < v72 then (
bnd (fX12_getsUp x61 s70) fun r74 s75 =>
some (.inl (w32 (x61 + 1)), s75))
else
some (.inl (w32 (x61 + 1)), s70))
else
some (.inr (), s62)) 0 s59) fun (y77 : Unit) s78 =>
some (0, s78)
def fX12_canAsk (p1 : Int) (s0 : St) : Rs Int :=
bnd (fX12_isIn p1 7 16 s0) fun r1 s2 =>
some (r1, s2)
def fX12_canSet (p1 : Int) (p2 : Int) (p3 : Int) (s0 : St) : Rs Int :=
if p1 = 0 then (
bnd (fX12_isPorch p2 s0) fun r18 s19 =>
if r18 = 0 then (
some (0, s19))
else
bnd (fX12_isIn p3 0 99 s19) fun r21 s22 =>
if r21 = 0 then (
some (0, s22))
else
some (1, s22))
else
if p1 = 1 then (
bnd (fX12_isPorch p2 s0) fun r10 s11 =>
if r10 = 0 then (
some (0, s11))
else
fld s11 0 7 fun v13 =>
bnd (fX12_isIn p3 (-1) (w32 (v13 - 1)) s11) fun r15 s16 =>
if r15 = 0 then (
some (0, s16))
else
some (1, s16))
else
bnd (fX12_isIn p1 2 3 s0) fun r1 s2 =>
if r1 = 0 then (
some (0, s2))
else
bnd (fX12_isPerson p2 s2) fun r4 s5 =>
if r4 = 0 then (
some (0, s5))
else
bnd (fX12_isIn p3 0 9 s5) fun r7 s8 =>
if r7 = 0 then (
some (0, s8))
else
some (1, s8)
def fX12_cat (p1 : Int) (p2 : Int) (p3 : Int) (s0 : St) : Rs Int :=
put s0 0 0 0 fun s1 =>
if p1 = (-1) then (
put s1 0 52 0 fun s34 =>
some (0, s34))
else
bnd (fX12_isIn p1 0 7 s1) fun r2 s3 =>
if r2 = 0 then (
some ((-1), s3))
else
bnd (fX12_isIn p2 0 7 s3) fun r5 s6 =>
if r5 = 0 then (
some ((-1), s6))
else
bnd (fX12_isIn p3 0 9999 s6) fun r8 s9 =>
if r8 = 0 then (
some ((-1), s9))
else
dvc 100 <|
dvc 100 <|
if idv p3 100 < irm p3 100 then (
fld s9 0 52 fun v13 =>
if v13 = 12 then (
some ((-1), s9))
else
fld s9 0 52 fun v15 =>
sto s9 31 12 v15 p1 fun s17 =>
fld s17 0 52 fun v18 =>
sto s17 32 12 v18 p2 fun s20 =>
fld s20 0 52 fun v21 =>
dvc 100 <|
sto s20 33 12 v21 (idv p3 100) fun s24 =>
fld s24 0 52 fun v25 =>
dvc 100 <|
sto s24 34 12 v25 (irm p3 100) fun s28 =>
fld s28 0 52 fun v29 =>
put s28 0 52 (w32 (v29 + 1)) fun s31 =>
fld s31 0 52 fun v32 =>
some (v32, s31))
else
some ((-1), s9)
def fX12_chair (p1 : Int) (p2 : Int) (s0 : St) : Rs Int :=
put s0 0 0 0 fun s1 =>
if p1 = (-1) then (
put s1 0 49 0 fun s21 =>
some (0, s21))
else
bnd (fX12_isIn p1 1 30 s1) fun r2 s3 =>
if r2 = 0 then (
some ((-1), s3))
else
bnd (fX12_isIn p2 0 (w32 (p1 - 1)) s3) fun r5 s6 =>
if r5 = 0 then (
some ((-1), s6))
else
fld s6 0 49 fun v8 =>
if v8 = 5 then (
some ((-1), s6))
else
fld s6 0 49 fun v10 =>
sto s6 29 5 v10 p1 fun s12 =>
fld s12 0 49 fun v13 =>
sto s12 30 5 v13 p2 fun s15 =>
fld s15 0 49 fun v16 =>
put s15 0 49 (w32 (v16 + 1)) fun s18 =>
fld s18 0 49 fun v19 =>
some (v19, s18)
def fX12_greater (p1 : Int) (p2 : Int) (s0 : St) : Rs Int :=
if p2 < p1 then (
some (p1, s0))
else
some (p2, s0)
def fX12_lesser (p1 : Int) (p2 : Int) (s0 : St) : Rs Int :=
if p1 < p2 then (
some (p1, s0))
else
some (p2, s0)
def fX12_ditch  (s0 : St) : Rs Int :=
bnd (itr FUEL (fun (x1 : Int × Int) s2 =>
fld s2 0 62 fun v4 =>
if x1.2 < v4 then (
bnd (itr FUEL (fun (x6 : Int × Int × Int) s7 =>
fld s7 0 62 fun v9 =>
if x6.2.2 < v9 then (
bnd (
if x1.2 < x6.2.2 then (
some (x6.1, s7))
else
lod s7 39 12 x6.2.2 fun v11 =>
bnd (fX12_greater x6.1 v11 s7) fun r13 s14 =>
some (r13, s14)) fun (y16 : Int) s17 =>
if x6.2.2 < x1.2 then (
some (.inl (y16, x6.2.1, w32 (x6.2.2 + 1)), s17))
else
lod s17 39 12 x6.2.2 fun v19 =>
bnd (fX12_greater x6.2.1 v19 s17) fun r21 s22 =>
some (.inl (y16, r21, w32 (x6.2.2 + 1)), s22))
else
some (.inr (x6.1, x6.2.1), s7)) (0, 0, 0) s2) fun (y24 : Int × Int) s25 =>
bnd (fX12_lesser y24.1 y24.2 s25) fun r27 s28 =>
lod s28 39 12 x1.2 fun v30 =>
lb (w32 (w32 (x1.1 + r27) - v30)) fun v32 =>
some (.inl (v32, w32 (x1.2 + 1)), s28))
else
some (.inr x1.1, s2)) (0, 0) s0) fun (y34 : Int) s35 =>
some (y34, s35)
def fX12_draw (p1 : Int) (s0 : St) : Rs Int :=
lod s0 1 161 2 fun v1 =>
sto s0 1 161 2 (w32 (w32 (1664525 * v1) + 1013904223)) fun s3 =>
lod s3 1 161 2 fun v4 =>
dvc p1 <|
some (irm (iushr v4 8) p1, s3)
def fX12_emits (p1 : Int) (p2 : Int) (s0 : St) : Rs Int :=
fld s0 0 27 fun v1 =>
sto s0 15 1200 (w32 (800 + v1)) p1 fun s3 =>
fld s3 0 27 fun v4 =>
sto s3 16 1200 (w32 (800 + v4)) p2 fun s6 =>
fld s6 0 27 fun v7 =>
put s6 0 27 (w32 (v7 + 1)) fun s9 =>
some (0, s9)
def fX12_end (p1 : Int) (s0 : St) : Rs Int :=
put s0 0 0 0 fun s1 =>
fld s1 0 13 fun v2 =>
bnd (fX12_isIn p1 0 v2 s1) fun r4 s5 =>
if r4 = 0 then (
some (0, s5))
else
put s5 0 13 p1 fun s7 =>
some (1, s7)
def fX12_endsThought  (s0 : St) : Rs Int :=
bnd (itr FUEL (fun (x1 : Int) s2 =>
if x1 < 161 then (
lod s2 3 161 x1 fun v4 =>
sto s2 1 161 x1 v4 fun s6 =>
some (.inl (w32 (x1 + 1)), s6))
else
some (.inr (), s2)) 0 s0) fun (y7 : Unit) s8 =>
put s8 0 5 0 fun s10 =>
some (0, s10)
def fX12_has (p1 : Int) (p2 : Int) (s0 : St) : Rs Int :=
if iand (ishr p1 p2) 1 = 1 then (
some (1, s0))
else
some (0, s0)
def fX12_engages (p1 : Int) (s0 : St) : Rs Int :=
lb (w32 (1 - p1)) fun v1 =>
bnd (itr FUEL (fun (x3 : Int) s4 =>
if x3 < 5 then (
sto s4 26 5 x3 (-1) fun s6 =>
sto s6 27 5 x3 0 fun s7 =>
some (.inl (w32 (x3 + 1)), s7))
else
some (.inr (), s4)) 0 s0) fun (y8 : Unit) s9 =>
bnd (itr FUEL (fun (x11 : Int) s12 =>
if x11 = 0 then (
some (.inr (), s12))
else
bnd (itr FUEL (fun (x14 : Int) s15 =>
bnd (fX12_has x11 x14 s15) fun r17 s18 =>
if r17 = 0 then (
lb (w32 (x14 + 1)) fun v20 =>
some (.inl v20, s18))
else
some (.inr x14, s18)) 0 s12) fun (y22 : Int) s23 =>
lod s23 27 5 y22 fun v25 =>
lod s23 25 50 (w32 (w32 (5 * w32 (w32 (5 * p1) + y22)) + v25)) fun v27 =>
lod s23 27 5 y22 fun v29 =>
sto s23 27 5 y22 (w32 (v29 + 1)) fun s31 =>
lod s31 26 5 v27 fun v32 =>
bnx (
if v32 = (-1) then (
some (.inl (), s31))
else
lod s31 24 50 (w32 (w32 (5 * w32 (w32 (5 * v1) + v27)) + v32)) fun v34 =>
lod s31 24 50 (w32 (w32 (5 * w32 (w32 (5 * v1) + v27)) + y22)) fun v36 =>
if v34 < v36 then (
some (.inr (.inl x11), s31))
else
some (.inl (), s31)) fun (y38 : Unit) s39 =>
sto s39 26 5 v27 y22 fun s41 =>
lb (iand x11 (ixor (ishl 1 y22) (-1))) fun v42 =>
if v32 = (-1) then (
some (.inl v42, s41))
else
lb (ior v42 (ishl 1 v32)) fun v44 =>
some (.inl v44, s41)) 31 s9) fun (y46 : Unit) s47 =>
some (0, s47)
def fX12_errs (p1 : Int) (s0 : St) : Rs Int :=
put s0 0 31 p1 fun s1 =>
fld s1 0 15 fun v2 =>
put s1 0 32 v2 fun s4 =>
some ((-1), s4)
def fX12_family (p1 : Int) (s0 : St) : Rs Int :=
put s0 0 0 0 fun s1 =>
if p1 = (-1) then (
put s1 0 58 0 fun s15 =>
some (0, s15))
else
bnd (fX12_isIn p1 1 9 s1) fun r2 s3 =>
if r2 = 0 then (
some ((-1), s3))
else
fld s3 0 58 fun v5 =>
if v5 = 8 then (
some ((-1), s3))
else
fld s3 0 58 fun v7 =>
sto s3 36 8 v7 p1 fun s9 =>
fld s9 0 58 fun v10 =>
put s9 0 58 (w32 (v10 + 1)) fun s12 =>
fld s12 0 58 fun v13 =>
some (v13, s12)
def fX12_fault (p1 : Int) (s0 : St) : Rs Int :=
put s0 0 0 0 fun s1 =>
if p1 = 0 then (
fld s1 0 33 fun v4 =>
some (v4, s1))
else
if p1 = 1 then (
fld s1 0 34 fun v2 =>
some (v2, s1))
else
some ((-1), s1)
def fX12_types (p1 : Int) (s0 : St) : Rs Int :=
bnd (itr FUEL (fun (x1 : Int) s2 =>
if x1 < 0 then (
some (.inr (), s2))
else
fld s2 0 13 fun v4 =>
sto s2 8 400 v4 (iand (ishr p1 x1) 255) fun s6 =>
fld s6 0 13 fun v7 =>
put s6 0 13 (w32 (v7 + 1)) fun s9 =>
some (.inl (w32 (x1 + (-8))), s9)) 24 s0) fun (y10 : Unit) s11 =>
some (0, s11)
def fX12_feed (p1 : Int) (p2 : Int) (p3 : Int) (p4 : Int) (p5 : Int) (s0 : St) : Rs Int :=
put s0 0 0 0 fun s1 =>
fld s1 0 13 fun v2 =>
if 380 < v2 then (
some ((-1), s1))
else
bnd (fX12_types p1 s1) fun r4 s5 =>
bnd (fX12_types p2 s5) fun r7 s8 =>
bnd (fX12_types p3 s8) fun r10 s11 =>
bnd (fX12_types p4 s11) fun r13 s14 =>
bnd (fX12_types p5 s14) fun r16 s17 =>
fld s17 0 13 fun v19 =>
some (v19, s17)
def fX12_withFamily (p1 : Int) (p2 : Int) (p3 : Int) (s0 : St) : Rs Int :=
dvc 100 <|
lb (idv p1 100) fun v2 =>
dvc 100 <|
lb (irm p1 100) fun v5 =>
if 0 < v2 then (
if p3 < w32 (v5 + p2) then (
some (w32 (w32 (100 * w32 (v2 + 1)) + p2), s0))
else
some (w32 (w32 (w32 (100 * v2) + v5) + p2), s0))
else
some (w32 (w32 (100 * w32 (v2 + 1)) + p2), s0)
def fX12_fewestPorches (p1 : Int) (s0 : St) : Rs Int :=
bnx (itr FUEL (fun (x1 : Int) s2 =>
fld s2 0 58 fun v4 =>
if x1 < v4 then (
lod s2 36 8 x1 fun v6 =>
if p1 < v6 then (
some (.inr (.inr (-1)), s2))
else
some (.inl (w32 (x1 + 1)), s2))
else
some (.inr (.inl ()), s2)) 0 s0) fun (y8 : Unit) s9 =>
sto s9 37 256 0 0 fun s11 =>
bnd (itr FUEL (fun (x12 : Int) s13 =>
fld s13 0 58 fun v15 =>
if x12 < ishl 1 v15 then (
sto s13 37 256 x12 100000000 fun s17 =>
bnd (itr FUEL (fun (x18 : Int) s19 =>
fld s19 0 58 fun v21 =>
if x18 < v21 then (
bnd (fX12_has x12 x18 s19) fun r23 s24 =>
if r23 = 0 then (
some (.inl (w32 (x18 + 1)), s24))
else
lod s24 37 256 x12 fun v26 =>
lod s24 37 256 (iand x12 (ixor (ishl 1 x18) (-1))) fun v28 =>
lod s24 36 8 x18 fun v30 =>
bnd (fX12_withFamily v28 v30 p1 s24) fun r32 s33 =>
bnd (fX12_lesser v26 r32 s33) fun r35 s36 =>
sto s36 37 256 x12 r35 fun s38 =>
some (.inl (w32 (x18 + 1)), s38))
else
some (.inr (), s19)) 0 s17) fun (y39 : Unit) s40 =>
some (.inl (w32 (x12 + 1)), s40))
else
some (.inr (), s13)) 1 s11) fun (y42 : Unit) s43 =>
fld s43 0 58 fun v45 =>
lod s43 37 256 (w32 (ishl 1 v45 - 1)) fun v47 =>
dvc 100 <|
some (idv v47 100, s43)
def fX12_findsWishes  (s0 : St) : Rs Int :=
bnd (itr FUEL (fun (x1 : Int) s2 =>
if x1 < 10 then (
lod s2 23 10 x1 fun v4 =>
lb (w32 (v4 + 1234)) fun v6 =>
bnd (itr FUEL (fun (x8 : Int × Int) s9 =>
if x8.2 < 0 then (
some (.inr (), s9))
else
dvc 10 <|
sto s9 25 50 (w32 (w32 (5 * x1) + x8.2)) (irm x8.1 10) fun s12 =>
dvc 10 <|
sto s12 24 50 (w32 (w32 (5 * x1) + irm x8.1 10)) x8.2 fun s14 =>
dvc 10 <|
lb (idv x8.1 10) fun v16 =>
some (.inl (v16, w32 (x8.2 + (-1))), s14)) (v6, 4) s2) fun (y18 : Unit) s19 =>
some (.inl (w32 (x1 + 1)), s19))
else
some (.inr (), s2)) 0 s0) fun (y21 : Unit) s22 =>
some (0, s22)
def fX12_forwardAt (p1 : Int) (s0 : St) : Rs Int :=
bnd (itr FUEL (fun (x1 : Int × Int) s2 =>
fld s2 0 49 fun v4 =>
if x1.2 < v4 then (
lod s2 29 5 x1.2 fun v6 =>
dvc v6 <|
lod s2 30 5 x1.2 fun v9 =>
if irm p1 v6 = v9 then (
lb (w32 (x1.1 + 1)) fun v11 =>
some (.inl (v11, w32 (x1.2 + 1)), s2))
else
some (.inl (x1.1, w32 (x1.2 + 1)), s2))
else
some (.inr x1.1, s2)) (0, 0) s0) fun (y13 : Int) s14 =>
some (y13, s14)
def fX12_goodTaking (p1 : Int) (p2 : Int) (s0 : St) : Rs Int :=
bnx (itr FUEL (fun (x1 : Int) s2 =>
if p1 < x1 then (
some (.inr (.inr (-1)), s2))
else
lb (w32 (p1 - x1)) fun v4 =>
if v4 = 0 then (
some (.inr (.inl x1), s2))
else
bnd (fX12_greater v4 p2 s2) fun r6 s7 =>
bnd (fX12_lesser v4 p2 s7) fun r9 s10 =>
lod s10 55 40401 (w32 (w32 (201 * r6) + r9)) fun v12 =>
if v12 = 0 then (
some (.inr (.inl x1), s10))
else
lb (w32 (x1 + p2)) fun v14 =>
some (.inl v14, s10)) p2 s0) fun (y16 : Int) s17 =>
some (y16, s17)
def fX12_game (p1 : Int) (p2 : Int) (s0 : St) : Rs Int :=
put s0 0 0 0 fun s1 =>
bnd (fX12_isIn p1 1 200 s1) fun r2 s3 =>
if r2 = 0 then (
some ((-1), s3))
else
bnd (fX12_isIn p2 1 200 s3) fun r5 s6 =>
if r5 = 0 then (
some ((-1), s6))
else
bnd (fX12_greater p1 p2 s6) fun r8 s9 =>
bnd (itr FUEL (fun (x11 : Int) s12 =>
if r8 < x11 then (
some (.inr (), s12))
else
bnd (itr FUEL (fun (x14 : Int) s15 =>
if x11 < x14 then (
some (.inr (), s15))
else
bnd (fX12_goodTaking x11 x14 s15) fun r17 s18 =>
if r17 = (-1) then (
sto s18 55 40401 (w32 (w32 (201 * x11) + x14)) 0 fun s21 =>
some (.inl (w32 (x14 + 1)), s21))
else
sto s18 55 40401 (w32 (w32 (201 * x11) + x14)) 1 fun s20 =>
some (.inl (w32 (x14 + 1)), s20)) 1 s12) fun (y22 : Unit) s23 =>
some (.inl (w32 (x11 + 1)), s23)) 1 s9) fun (y25 : Unit) s26 =>
bnd (fX12_lesser p1 p2 s26) fun r28 s29 =>
bnd (fX12_goodTaking r8 r28 s29) fun r31 s32 =>
some (r31, s32)
def fX12_thinks  (s0 : St) : Rs Int :=
bnd (itr FUEL (fun (x1 : Int) s2 =>
if x1 < 161 then (
lod s2 1 161 x1 fun v4 =>
sto s2 3 161 x1 v4 fun s6 =>
some (.inl (w32 (x1 + 1)), s6))
else
some (.inr (), s2)) 0 s0) fun (y7 : Unit) s8 =>
put s8 0 5 1 fun s10 =>
some (0, s10)
def fX12_twoOf (p1 : Int) (p2 : Int) (p3 : Int) (s0 : St) : Rs Int :=
if p1 = 2 then (
some (w32 (p2 + p3), s0))
else
if p1 = 3 then (
some (w32 (p2 - p3), s0))
else
if p1 = 4 then (
some (w32 (p2 * p3), s0))
else
if p1 = 5 then (
dvc p3 <|
some (idv p2 p3, s0))
else
if p1 = 6 then (
if p2 < p3 then (
some (1, s0))
else
some (0, s0))
else
if p1 = 7 then (
if p2 = p3 then (
some (1, s0))
else
some (0, s0))
else
if p1 = 8 then (
if p3 < p2 then (
some (1, s0))
else
some (0, s0))
else
if p1 = 10 then (
some (w32 (p2 * p3), s0))
else
if 0 < w32 (p2 + p3) then (
some (1, s0))
else
some (0, s0)
def fX12_runs (p1 : Int) (p2 : Int) (p3 : Int) (s0 : St) : Rs Int :=
lb (w32 (w32 (400 * p1) + p2)) fun v1 =>
bnd (itr FUEL (fun (x3 : Int × Int) s4 =>
if x3.2 < w32 (w32 (400 * p1) + p3) then (
lod s4 15 1200 x3.2 fun v6 =>
bnx (
if v6 = 0 then (
some (.inl (x3.1, x3.2), s4))
else
lod s4 15 1200 x3.2 fun v8 =>
if v8 = 1 then (
some (.inl (x3.1, x3.2), s4))
else
lod s4 15 1200 x3.2 fun v10 =>
if v10 = 9 then (
lod s4 22 420 (w32 (x3.1 - 1)) fun v24 =>
sto s4 22 420 (w32 (x3.1 - 1)) (w32 (1 - v24)) fun s26 =>
some (.inr (.inl (x3.1, w32 (x3.2 + 1))), s26))
else
lb (w32 (x3.1 - 1)) fun v12 =>
lod s4 15 1200 x3.2 fun v14 =>
lod s4 22 420 (w32 (v12 - 1)) fun v16 =>
lod s4 22 420 v12 fun v18 =>
bnd (fX12_twoOf v14 v16 v18 s4) fun r20 s21 =>
sto s21 22 420 (w32 (v12 - 1)) r20 fun s23 =>
some (.inr (.inl (v12, w32 (x3.2 + 1))), s23)) fun (y27 : Int × Int) s28 =>
lod s28 15 1200 y27.2 fun v30 =>
if v30 = 0 then (
lod s28 16 1200 y27.2 fun v39 =>
sto s28 22 420 y27.1 v39 fun s41 =>
lb (w32 (y27.1 + 1)) fun v42 =>
some (.inl (v42, w32 (y27.2 + 1)), s41))
else
lod s28 16 1200 y27.2 fun v32 =>
lod s28 21 10 v32 fun v34 =>
sto s28 22 420 y27.1 v34 fun s36 =>
lb (w32 (y27.1 + 1)) fun v37 =>
some (.inl (v37, w32 (y27.2 + 1)), s36))
else
some (.inr (), s4)) (0, v1) s0) fun (y44 : Unit) s45 =>
lod s45 22 420 0 fun v47 =>
some (v47, s45)
def fX12_lineOf (p1 : Int) (s0 : St) : Rs Int :=
bnx (itr FUEL (fun (x1 : Int) s2 =>
lod s2 10 2 0 fun v4 =>
if x1 < v4 then (
lod s2 11 48 x1 fun v6 =>
if v6 = p1 then (
lod s2 13 48 x1 fun v8 =>
lod s2 14 48 x1 fun v10 =>
if v8 = v10 then (
some (.inr (.inl x1), s2))
else
lod s2 13 48 x1 fun v12 =>
lod s2 14 48 x1 fun v14 =>
bnd (fX12_runs 0 v12 v14 s2) fun r16 s17 =>
if r16 = 0 then (
some (.inl (w32 (x1 + 1)), s17))
else
some (.inr (.inl x1), s17))
else
some (.inl (w32 (x1 + 1)), s2))
else
some (.inr (.inr (-1)), s2)) 0 s0) fun (y19 : Int) s20 =>
some (y19, s20)
def fX12_held (p1 : Int) (p2 : Int) (p3 : Int) (s0 : St) : Rs Int :=
if p1 < p2 then (
some (p2, s0))
else
if p3 < p1 then (
some (p3, s0))
else
some (p1, s0)
def fX12_lawTells (p1 : Int) (p2 : Int) (p3 : Int) (s0 : St) : Rs Int :=
bnd (fX12_lineOf p1 s0) fun r1 s2 =>
bnd (
if r1 = (-1) then (
some (p2, s2))
else
lod s2 12 48 r1 fun v4 =>
lod s2 13 48 r1 fun v6 =>
bnd (fX12_runs 0 v4 v6 s2) fun r8 s9 =>
some (r8, s9)) fun (y11 : Int) s12 =>
bnd (fX12_held y11 0 p3 s12) fun r14 s15 =>
some (r14, s15)
def fX12_speaksOf (p1 : Int) (s0 : St) : Rs Int :=
bnd (fX12_sitsOn p1 s0) fun r1 s2 =>
bnd (fX12_asks p1 r1 s2) fun r4 s5 =>
lod s5 21 10 0 fun v7 =>
bnd (fX12_lawTells 0 (w32 (60 * v7)) 1000 s5) fun r9 s10 =>
some (r9, s10)
def fX12_happens (p1 : Int) (s0 : St) : Rs Int :=
fld s0 0 5 fun v1 =>
if v1 = 0 then (
if 0 < p1 then (
bnd (fX12_draw 1000 s0) fun r3 s4 =>
if r3 < p1 then (
some (1, s4))
else
some (0, s4))
else
some (0, s0))
else
if w32 (2 * p1) < 1000 then (
some (0, s0))
else
some (1, s0)
def fX12_isBeside (p1 : Int) (p2 : Int) (s0 : St) : Rs Int :=
lod s0 20 288 (w32 (w32 (12 * p1) + p2)) fun v1 =>
bnd (fX12_isIn v1 1 10 s0) fun r3 s4 =>
some (r3, s4)
def fX12_hearsOf (p1 : Int) (p2 : Int) (s0 : St) : Rs Int :=
bnd (fX12_asks p1 p2 s0) fun r1 s2 =>
lod s2 21 10 1 fun v4 =>
bnd (fX12_lawTells 1 (w32 (100 * v4)) 1000 s2) fun r6 s7 =>
some (r6, s7)
def fX12_isSpoken (p1 : Int) (s0 : St) : Rs Int :=
bnd (fX12_sitsOn p1 s0) fun r1 s2 =>
lod s2 1 161 (w32 (101 + p1)) fun v4 =>
sto s2 1 161 (w32 (101 + p1)) (w32 (v4 + 1)) fun s6 =>
bnd (itr FUEL (fun (x7 : Int × Int) s8 =>
fld s8 0 7 fun v10 =>
if x7.2 < v10 then (
if x7.2 = p1 then (
some (.inl (x7.1, w32 (x7.2 + 1)), s8))
else
bnd (fX12_doesSit x7.2 s8) fun r12 s13 =>
if r12 = 0 then (
some (.inl (x7.1, w32 (x7.2 + 1)), s13))
else
bnd (fX12_sitsOn x7.2 s13) fun r15 s16 =>
bnd (
if r15 = r1 then (
some (0, s16))
else
some (1, s16)) fun (y18 : Int) s19 =>
bnx (
if y18 = 0 then (
some (.inl x7.2, s19))
else
bnd (fX12_sitsOn x7.2 s19) fun r21 s22 =>
bnd (fX12_isBeside r1 r21 s22) fun r24 s25 =>
if r24 = 0 then (
some (.inr (.inl (x7.1, w32 (x7.2 + 1))), s25))
else
bnd (fX12_hearsOf x7.2 r1 s25) fun r27 s28 =>
bnd (fX12_happens r27 s28) fun r30 s31 =>
if r30 = 0 then (
some (.inr (.inl (x7.1, w32 (x7.2 + 1))), s31))
else
some (.inl x7.2, s31)) fun (y33 : Int) s34 =>
lod s34 1 161 (w32 (121 + y33)) fun v36 =>
sto s34 1 161 (w32 (121 + y33)) (w32 (v36 + 1)) fun s38 =>
lb (w32 (x7.1 + 1)) fun v39 =>
if y18 = 0 then (
some (.inl (v39, w32 (y33 + 1)), s38))
else
bnd (fX12_notes 2 y33 p1 s38) fun r41 s42 =>
some (.inl (v39, w32 (y33 + 1)), s42))
else
some (.inr x7.1, s8)) (0, 0) s6) fun (y44 : Int) s45 =>
bnd (fX12_notes 1 p1 y44 s45) fun r47 s48 =>
some (0, s48)
def fX12_lampBurns (p1 : Int) (s0 : St) : Rs Int :=
lod s0 1 161 (w32 (5 + p1)) fun v1 =>
if v1 = 0 then (
some (0, s0))
else
lod s0 1 161 (w32 (5 + p1)) fun v3 =>
sto s0 1 161 (w32 (5 + p1)) (w32 (v3 - 1)) fun s5 =>
lod s5 1 161 (w32 (29 + p1)) fun v6 =>
lb (w32 (v6 - 1)) fun v8 =>
lod s5 1 161 (w32 (5 + p1)) fun v10 =>
if 0 < v10 then (
some (0, s5))
else
if v8 = (-1) then (
some (0, s5))
else
bnd (fX12_sitsOn v8 s5) fun r12 s13 =>
if r12 = p1 then (
bnd (itr FUEL (fun (x15 : Int) s16 =>
fld s16 0 7 fun v18 =>
if x15 < v18 then (
if x15 = v8 then (
some (.inl (w32 (x15 + 1)), s16))
else
bnd (fX12_sitsOn x15 s16) fun r20 s21 =>
if r20 = p1 then (
lod s21 1 161 (w32 (141 + x15)) fun v23 =>
if 0 < v23 then (
some (.inl (w32 (x15 + 1)), s21))
else
sto s21 1 161 (w32 (141 + x15)) (w32 (v8 + 1)) fun s25 =>
bnd (fX12_notes 3 x15 v8 s25) fun r26 s27 =>
some (.inl (w32 (x15 + 1)), s27))
else
some (.inl (w32 (x15 + 1)), s21))
else
some (.inr (), s16)) 0 s13) fun (y29 : Unit) s30 =>
some (0, s30))
else
some (0, s13)
def fX12_spinsOf (p1 : Int) (s0 : St) : Rs Int :=
bnd (fX12_asks (-1) p1 s0) fun r1 s2 =>
bnd (fX12_lawTells 2 1 9 s2) fun r4 s5 =>
some (r4, s5)
def fX12_goesBy  (s0 : St) : Rs Int :=
lod s0 1 161 1 fun v1 =>
bnd (
if v1 = 0 then (
bnd (fX12_begins s0) fun r3 s4 =>
some ((), s4))
else
some ((), s0)) fun (y6 : Unit) s7 =>
bnd (fX12_callsAndRain s7) fun r9 s10 =>
bnd (itr FUEL (fun (x12 : Int × Int) s13 =>
fld s13 0 7 fun v15 =>
if x12.2 < v15 then (
bnd (fX12_doesSit x12.2 s13) fun r17 s18 =>
if r17 = 0 then (
some (.inl (x12.1, w32 (x12.2 + 1)), s18))
else
bnd (fX12_speaksOf x12.2 s18) fun r20 s21 =>
bnd (fX12_happens r20 s21) fun r23 s24 =>
if r23 = 0 then (
some (.inl (x12.1, w32 (x12.2 + 1)), s24))
else
bnd (fX12_isSpoken x12.2 s24) fun r26 s27 =>
lb (w32 (x12.1 + 1)) fun v29 =>
some (.inl (v29, w32 (x12.2 + 1)), s27))
else
some (.inr x12.1, s13)) (0, 0) s10) fun (y31 : Int) s32 =>
bnd (itr FUEL (fun (x34 : Int) s35 =>
fld s35 0 7 fun v37 =>
if x34 < v37 then (
bnd (fX12_doesSit x34 s35) fun r39 s40 =>
if r39 = 0 then (
some (.inl (w32 (x34 + 1)), s40))
else
lod s40 1 161 (w32 (61 + x34)) fun v42 =>
sto s40 1 161 (w32 (61 + x34)) (w32 (v42 + 1)) fun s44 =>
lod s44 1 161 (w32 (61 + x34)) fun v45 =>
lod s44 1 161 (w32 (81 + x34)) fun v47 =>
if v45 < v47 then (
some (.inl (w32 (x34 + 1)), s44))
else
bnd (fX12_getsUp x34 s44) fun r49 s50 =>
some (.inl (w32 (x34 + 1)), s50))
else
some (.inr (), s35)) 0 s32) fun (y52 : Unit) s53 =>
bnd (itr FUEL (fun (x55 : Int) s56 =>
fld s56 0 6 fun v58 =>
if x55 < v58 then (
bnd (fX12_lampBurns x55 s56) fun r60 s61 =>
some (.inl (w32 (x55 + 1)), s61))
else
some (.inr (), s56)) 0 s53) fun (y63 : Unit) s64 =>
bnd (itr FUEL (fun (x66 : Int) s67 =>
fld s67 0 6 fun v69 =>
if x66 < v69 then (
bnd (fX12_sittersOn x66 s67) fun r71 s72 =>
if r71 = 0 then (
lod s72 1 161 (w32 (17 + x66)) fun v74 =>
bnd (fX12_spinsOf x66 s72) fun r76 s77 =>
bnd (fX12_lesser 99 (w32 (v74 + r76)) s77) fun r79 s80 =>
sto s80 1 161 (w32 (17 + x66)) r79 fun s82 =>
some (.inl (w32 (x66 + 1)), s82))
else
some (.inl (w32 (x66 + 1)), s72))
else
some (.inr (), s67)) 0 s64) fun (y83 : Unit) s84 =>
lod s84 1 161 1 fun v86 =>
dvc 60 <|
sto s84 1 161 1 (irm (w32 (v86 + 1)) 60) fun s89 =>
lod s89 1 161 1 fun v90 =>
if 0 < v90 then (
some (y31, s89))
else
bnd (itr FUEL (fun (x92 : Int) s93 =>
fld s93 0 7 fun v95 =>
if x92 < v95 then (
bnd (fX12_getsUp x92 s93) fun r97 s98 =>
some (.inl (w32 (x92 + 1)), s98))
else
some (.inr (), s93)) 0 s89) fun (y100 : Unit) s101 =>
lod s101 1 161 0 fun v103 =>
sto s101 1 161 0 (w32 (v103 + 1)) fun s105 =>
some (y31, s105)
def fX12_sumOf (p1 : Int) (p2 : Int) (s0 : St) : Rs Int :=
bnd (itr FUEL (fun (x1 : Int × Int) s2 =>
if x1.2 < p2 then (
lod s2 1 161 (w32 (p1 + x1.2)) fun v4 =>
lb (w32 (x1.1 + v4)) fun v6 =>
some (.inl (v6, w32 (x1.2 + 1)), s2))
else
some (.inr x1.1, s2)) (0, 0) s0) fun (y8 : Int) s9 =>
some (y8, s9)
def fX12_goes (p1 : Int) (p2 : Int) (s0 : St) : Rs Int :=
put s0 0 0 0 fun s1 =>
bnd (fX12_isIn p1 1 60 s1) fun r2 s3 =>
if r2 = 0 then (
some ((-1), s3))
else
bnd (fX12_isIn p2 0 3 s3) fun r5 s6 =>
if r5 = 0 then (
some ((-1), s6))
else
bnd (fX12_thinks s6) fun r8 s9 =>
bnd (itr FUEL (fun (x11 : Int) s12 =>
if x11 < p1 then (
bnd (fX12_goesBy s12) fun r14 s15 =>
some (.inl (w32 (x11 + 1)), s15))
else
some (.inr (), s12)) 0 s9) fun (y17 : Unit) s18 =>
bnd (
if p2 = 0 then (
fld s18 0 7 fun v35 =>
bnd (fX12_sumOf 101 v35 s18) fun r37 s38 =>
some (r37, s38))
else
if p2 = 1 then (
fld s18 0 7 fun v30 =>
bnd (fX12_sumOf 121 v30 s18) fun r32 s33 =>
some (r32, s33))
else
if p2 = 2 then (
fld s18 0 6 fun v25 =>
bnd (fX12_sumOf 17 v25 s18) fun r27 s28 =>
some (r27, s28))
else
fld s18 0 6 fun v20 =>
bnd (fX12_sumOf 5 v20 s18) fun r22 s23 =>
some (r22, s23)) fun (y40 : Int) s41 =>
bnd (fX12_endsThought s41) fun r43 s44 =>
some (y40, s44)
def fX12_goesToNextOrder (p1 : Int) (s0 : St) : Rs Int :=
lb (w32 (p1 - 2)) fun v1 =>
bnd (itr FUEL (fun (x3 : Int) s4 =>
if x3 < 0 then (
some (.inr x3, s4))
else
lod s4 28 9 x3 fun v6 =>
lod s4 28 9 (w32 (x3 + 1)) fun v8 =>
if v8 < v6 then (
lb (w32 (x3 - 1)) fun v10 =>
some (.inl v10, s4))
else
some (.inr x3, s4)) v1 s0) fun (y12 : Int) s13 =>
if y12 < 0 then (
some (0, s13))
else
lb (w32 (p1 - 1)) fun v15 =>
bnd (itr FUEL (fun (x17 : Int) s18 =>
lod s18 28 9 x17 fun v20 =>
lod s18 28 9 y12 fun v22 =>
if v20 < v22 then (
lb (w32 (x17 - 1)) fun v24 =>
some (.inl v24, s18))
else
some (.inr x17, s18)) v15 s13) fun (y26 : Int) s27 =>
lod s27 28 9 y12 fun v29 =>
lod s27 28 9 y26 fun v31 =>
sto s27 28 9 y12 v31 fun s33 =>
sto s33 28 9 y26 v29 fun s34 =>
lb (w32 (p1 - 1)) fun v35 =>
lb (w32 (y12 + 1)) fun v37 =>
bnd (itr FUEL (fun (x39 : Int × Int) s40 =>
if x39.2 < x39.1 then (
lod s40 28 9 x39.2 fun v42 =>
lod s40 28 9 x39.1 fun v44 =>
sto s40 28 9 x39.2 v44 fun s46 =>
sto s46 28 9 x39.1 v42 fun s47 =>
lb (w32 (x39.1 - 1)) fun v48 =>
some (.inl (v48, w32 (x39.2 + 1)), s47))
else
some (.inr (), s40)) (v35, v37) s34) fun (y50 : Unit) s51 =>
some (1, s51)
def fX12_half (p1 : Int) (p2 : Int) (s0 : St) : Rs Int :=
put s0 0 0 0 fun s1 =>
bnd (fX12_isIn p1 0 2 s1) fun r2 s3 =>
if r2 = 0 then (
some ((-1), s3))
else
if p2 = (-1) then (
sto s3 42 3 p1 0 fun s21 =>
some (0, s21))
else
bnd (fX12_isIn p2 0 9 s3) fun r5 s6 =>
if r5 = 0 then (
some ((-1), s6))
else
lod s6 42 3 p1 fun v8 =>
bnd (
if p1 = 2 then (
some (24, s6))
else
some (12, s6)) fun (y10 : Int) s11 =>
if v8 = y10 then (
some ((-1), s11))
else
lod s11 42 3 p1 fun v13 =>
sto s11 43 72 (w32 (w32 (24 * p1) + v13)) p2 fun s15 =>
lod s15 42 3 p1 fun v16 =>
sto s15 42 3 p1 (w32 (v16 + 1)) fun s18 =>
lod s18 42 3 p1 fun v19 =>
some (v19, s18)
def fX12_waysOfHalf (p1 : Int) (p2 : Int) (s0 : St) : Rs Int :=
if w32 (p1 + p2) = 0 then (
some (1, s0))
else
lod s0 43 72 (w32 (w32 (w32 (48 + p1) + p2) - 1)) fun v1 =>
bnd (
if 0 < p1 then (
lod s0 43 72 (w32 (p1 - 1)) fun v3 =>
if v3 = v1 then (
lod s0 44 169 (w32 (w32 (13 * w32 (p1 - 1)) + p2)) fun v5 =>
bnd (fX12_added 0 v5 s0) fun r7 s8 =>
some (r7, s8))
else
some (0, s0))
else
some (0, s0)) fun (y10 : Int) s11 =>
if 0 < p2 then (
lod s11 43 72 (w32 (w32 (24 + p2) - 1)) fun v13 =>
if v13 = v1 then (
lod s11 44 169 (w32 (w32 (w32 (13 * p1) + p2) - 1)) fun v15 =>
bnd (fX12_added y10 v15 s11) fun r17 s18 =>
some (r17, s18))
else
some (y10, s11))
else
some (y10, s11)
def fX12_halves (p1 : Int) (s0 : St) : Rs Int :=
put s0 0 0 0 fun s1 =>
bnd (fX12_isIn p1 0 1 s1) fun r2 s3 =>
if r2 = 0 then (
some ((-1), s3))
else
lod s3 42 3 0 fun v5 =>
lod s3 42 3 1 fun v7 =>
lod s3 42 3 2 fun v9 =>
if w32 (v5 + v7) = v9 then (
bnd (itr FUEL (fun (x11 : Int) s12 =>
lod s12 42 3 0 fun v14 =>
if v14 < x11 then (
some (.inr (), s12))
else
bnd (itr FUEL (fun (x16 : Int) s17 =>
lod s17 42 3 1 fun v19 =>
if v19 < x16 then (
some (.inr (), s17))
else
bnd (fX12_waysOfHalf x11 x16 s17) fun r21 s22 =>
sto s22 44 169 (w32 (w32 (13 * x11) + x16)) r21 fun s24 =>
some (.inl (w32 (x16 + 1)), s24)) 0 s12) fun (y25 : Unit) s26 =>
some (.inl (w32 (x11 + 1)), s26)) 0 s3) fun (y28 : Unit) s29 =>
lod s29 42 3 0 fun v31 =>
lod s29 42 3 1 fun v33 =>
lod s29 44 169 (w32 (w32 (13 * v31) + v33)) fun v35 =>
if p1 = 1 then (
some (v35, s29))
else
if 0 < v35 then (
some (1, s29))
else
some (0, s29))
else
some (0, s3)
def fX12_hears (p1 : Int) (p2 : Int) (s0 : St) : Rs Int :=
put s0 0 0 0 fun s1 =>
bnd (fX12_isPerson p1 s1) fun r2 s3 =>
if r2 = 0 then (
some ((-1), s3))
else
bnd (fX12_isPorch p2 s3) fun r5 s6 =>
if r5 = 0 then (
some ((-1), s6))
else
bnd (fX12_hearsOf p1 p2 s6) fun r8 s9 =>
some (r8, s9)
def fX12_heavierBy (p1 : Int) (s0 : St) : Rs Int :=
bnd (itr FUEL (fun (x1 : Int × Int) s2 =>
fld s2 0 70 fun v4 =>
if x1.2 < v4 then (
bnd (fX12_has p1 x1.2 s2) fun r6 s7 =>
if r6 = 0 then (
lod s7 45 8 x1.2 fun v9 =>
lb (w32 (x1.1 + w32 (-v9))) fun v11 =>
some (.inl (v11, w32 (x1.2 + 1)), s7))
else
lod s7 45 8 x1.2 fun v13 =>
lb (w32 (x1.1 + v13)) fun v15 =>
some (.inl (v15, w32 (x1.2 + 1)), s7))
else
some (.inr x1.1, s2)) (0, 0) s0) fun (y17 : Int) s18 =>
bnd (fX12_apart y17 0 s18) fun r20 s21 =>
some (r20, s21)
def fX12_takesHats (p1 : Int) (s0 : St) : Rs Int :=
bnd (itr FUEL (fun (x1 : Int × Int) s2 =>
if 9 < x1.2 then (
lb (w32 (x1.1 + 1)) fun v4 =>
dvc 10 <|
lb (idv x1.2 10) fun v7 =>
some (.inl (v4, v7), s2))
else
some (.inr x1.1, s2)) (0, p1) s0) fun (y9 : Int) s10 =>
bnd (fX12_isIn y9 1 9 s10) fun r12 s13 =>
if r12 = 0 then (
some ((-1), s13))
else
lb (w32 (y9 - 1)) fun v15 =>
bnd (itr FUEL (fun (x17 : Int × Int × Int) s18 =>
if x17.2.2 < 0 then (
some (.inr (x17.1, x17.2.1), s18))
else
dvc 10 <|
sto s18 28 9 x17.2.2 (irm x17.2.1 10) fun s21 =>
dvc 10 <|
lb (ior x17.1 (ishl 1 (irm x17.2.1 10))) fun v23 =>
dvc 10 <|
lb (idv x17.2.1 10) fun v26 =>
some (.inl (v23, v26, w32 (x17.2.2 + (-1))), s21)) (0, p1, v15) s13) fun (y28 : Int × Int) s29 =>
if y28.2 = 1 then (
if y28.1 = w32 (ishl 1 y9 - 1) then (
some (y9, s29))
else
some ((-1), s29))
else
some ((-1), s29)
def fX12_hooks (p1 : Int) (p2 : Int) (s0 : St) : Rs Int :=
put s0 0 0 0 fun s1 =>
if p1 < 10 then (
some ((-1), s1))
else
bnd (fX12_isIn p2 0 2 s1) fun r2 s3 =>
if r2 = 0 then (
some ((-1), s3))
else
bnd (fX12_takesHats p1 s3) fun r5 s6 =>
if r5 = (-1) then (
some ((-1), s6))
else
bnd (itr FUEL (fun (x8 : Int × Int × Int × Int) s9 =>
if x8.2.2.2 < r5 then (
sto s9 54 9 x8.2.2.2 1 fun s11 =>
bnd (itr FUEL (fun (x12 : Int × Int) s13 =>
if x12.2 < r5 then (
bnd (
if x12.2 < x8.2.2.2 then (
lod s13 28 9 x12.2 fun v15 =>
lod s13 28 9 x8.2.2.2 fun v17 =>
if v15 < v17 then (
lod s13 54 9 x8.2.2.2 fun v19 =>
lod s13 54 9 x12.2 fun v21 =>
bnd (fX12_greater v19 (w32 (v21 + 1)) s13) fun r23 s24 =>
sto s24 54 9 x8.2.2.2 r23 fun s26 =>
some ((), s26))
else
some ((), s13))
else
some ((), s13)) fun (y27 : Unit) s28 =>
if x8.2.2.2 < x12.2 then (
lod s28 28 9 x12.2 fun v30 =>
lod s28 28 9 x8.2.2.2 fun v32 =>
if v30 < v32 then (
lb (w32 (x12.1 + 1)) fun v34 =>
some (.inl (v34, w32 (x12.2 + 1)), s28))
else
some (.inl (x12.1, w32 (x12.2 + 1)), s28))
else
some (.inl (x12.1, w32 (x12.2 + 1)), s28))
else
some (.inr x12.1, s13)) (0, 0) s11) fun (y36 : Int) s37 =>
lod s37 54 9 x8.2.2.2 fun v39 =>
bnd (fX12_greater x8.1 v39 s37) fun r41 s42 =>
lb (w32 (x8.2.1 + y36)) fun v44 =>
lb (w32 (w32 (x8.2.2.1 * w32 (r5 - x8.2.2.2)) + y36)) fun v46 =>
some (.inl (r41, v44, v46, w32 (x8.2.2.2 + 1)), s42))
else
some (.inr (x8.1, x8.2.1, x8.2.2.1), s9)) (0, 0, 0, 0) s6) fun (y48 : Int × Int × Int) s49 =>
if p2 = 0 then (
some (y48.1, s49))
else
if p2 = 1 then (
some (y48.2.1, s49))
else
some (y48.2.2, s49)
def fX12_keeps (p1 : Int) (s0 : St) : Rs Int :=
fld s0 0 85 fun v1 =>
put s0 0 85 (w32 (v1 + 1)) fun s3 =>
fld s3 0 83 fun v4 =>
if v4 = 0 then (
fld s3 0 85 fun v9 =>
lod s3 56 2600 (w32 (v9 - 1)) fun v11 =>
some (v11, s3))
else
fld s3 0 85 fun v6 =>
sto s3 56 2600 (w32 (v6 - 1)) p1 fun s8 =>
some (p1, s8)
def fX12_keepsMany  (s0 : St) : Rs Int :=
fld s0 0 6 fun v1 =>
bnd (fX12_keeps v1 s0) fun r3 s4 =>
put s4 0 6 r3 fun s6 =>
fld s6 0 7 fun v7 =>
bnd (fX12_keeps v7 s6) fun r9 s10 =>
put s10 0 7 r9 fun s12 =>
fld s12 0 35 fun v13 =>
bnd (fX12_keeps v13 s12) fun r15 s16 =>
put s16 0 35 r15 fun s18 =>
fld s18 0 37 fun v19 =>
bnd (fX12_keeps v19 s18) fun r21 s22 =>
put s22 0 37 r21 fun s24 =>
fld s24 0 39 fun v25 =>
bnd (fX12_keeps v25 s24) fun r27 s28 =>
put s28 0 39 r27 fun s30 =>
fld s30 0 49 fun v31 =>
bnd (fX12_keeps v31 s30) fun r33 s34 =>
put s34 0 49 r33 fun s36 =>
fld s36 0 52 fun v37 =>
bnd (fX12_keeps v37 s36) fun r39 s40 =>
put s40 0 52 r39 fun s42 =>
fld s42 0 58 fun v43 =>
bnd (fX12_keeps v43 s42) fun r45 s46 =>
put s46 0 58 r45 fun s48 =>
fld s48 0 62 fun v49 =>
bnd (fX12_keeps v49 s48) fun r51 s52 =>
put s52 0 62 r51 fun s54 =>
fld s54 0 64 fun v55 =>
bnd (fX12_keeps v55 s54) fun r57 s58 =>
put s58 0 64 r57 fun s60 =>
bnd (itr FUEL (fun (x61 : Int) s62 =>
if x61 < 3 then (
lod s62 42 3 x61 fun v64 =>
bnd (fX12_keeps v64 s62) fun r66 s67 =>
sto s67 42 3 x61 r66 fun s69 =>
some (.inl (w32 (x61 + 1)), s69))
else
some (.inr (), s62)) 0 s60) fun (y70 : Unit) s71 =>
fld s71 0 70 fun v73 =>
bnd (fX12_keeps v73 s71) fun r75 s76 =>
put s76 0 70 r75 fun s78 =>
fld s78 0 72 fun v79 =>
bnd (fX12_keeps v79 s78) fun r81 s82 =>
put s82 0 72 r81 fun s84 =>
some (0, s84)
def fX12_keepsThought  (s0 : St) : Rs Int :=
bnd (itr FUEL (fun (x1 : Int) s2 =>
if x1 < 10 then (
lod s2 23 10 x1 fun v4 =>
bnd (fX12_keeps v4 s2) fun r6 s7 =>
sto s7 23 10 x1 r6 fun s9 =>
some (.inl (w32 (x1 + 1)), s9))
else
some (.inr (), s2)) 0 s0) fun (y10 : Unit) s11 =>
bnd (itr FUEL (fun (x13 : Int) s14 =>
if x13 < 5 then (
lod s14 29 5 x13 fun v16 =>
bnd (fX12_keeps v16 s14) fun r18 s19 =>
sto s19 29 5 x13 r18 fun s21 =>
lod s21 30 5 x13 fun v22 =>
bnd (fX12_keeps v22 s21) fun r24 s25 =>
sto s25 30 5 x13 r24 fun s27 =>
some (.inl (w32 (x13 + 1)), s27))
else
some (.inr (), s14)) 0 s11) fun (y28 : Unit) s29 =>
bnd (itr FUEL (fun (x31 : Int) s32 =>
if x31 < 8 then (
lod s32 36 8 x31 fun v34 =>
bnd (fX12_keeps v34 s32) fun r36 s37 =>
sto s37 36 8 x31 r36 fun s39 =>
lod s39 45 8 x31 fun v40 =>
bnd (fX12_keeps v40 s39) fun r42 s43 =>
sto s43 45 8 x31 r42 fun s45 =>
lod s45 46 8 x31 fun v46 =>
bnd (fX12_keeps v46 s45) fun r48 s49 =>
sto s49 46 8 x31 r48 fun s51 =>
some (.inl (w32 (x31 + 1)), s51))
else
some (.inr (), s32)) 0 s29) fun (y52 : Unit) s53 =>
bnd (itr FUEL (fun (x55 : Int) s56 =>
if x55 < 24 then (
lod s56 40 24 x55 fun v58 =>
bnd (fX12_keeps v58 s56) fun r60 s61 =>
sto s61 40 24 x55 r60 fun s63 =>
some (.inl (w32 (x55 + 1)), s63))
else
some (.inr (), s56)) 0 s53) fun (y64 : Unit) s65 =>
bnd (itr FUEL (fun (x67 : Int) s68 =>
if x67 < 72 then (
lod s68 43 72 x67 fun v70 =>
bnd (fX12_keeps v70 s68) fun r72 s73 =>
sto s73 43 72 x67 r72 fun s75 =>
some (.inl (w32 (x67 + 1)), s75))
else
some (.inr (), s68)) 0 s65) fun (y76 : Unit) s77 =>
some (0, s77)
def fX12_keepsTold  (s0 : St) : Rs Int :=
bnd (itr FUEL (fun (x1 : Int) s2 =>
if x1 < 12 then (
lod s2 4 12 x1 fun v4 =>
bnd (fX12_keeps v4 s2) fun r6 s7 =>
sto s7 4 12 x1 r6 fun s9 =>
lod s9 31 12 x1 fun v10 =>
bnd (fX12_keeps v10 s9) fun r12 s13 =>
sto s13 31 12 x1 r12 fun s15 =>
lod s15 32 12 x1 fun v16 =>
bnd (fX12_keeps v16 s15) fun r18 s19 =>
sto s19 32 12 x1 r18 fun s21 =>
lod s21 33 12 x1 fun v22 =>
bnd (fX12_keeps v22 s21) fun r24 s25 =>
sto s25 33 12 x1 r24 fun s27 =>
lod s27 34 12 x1 fun v28 =>
bnd (fX12_keeps v28 s27) fun r30 s31 =>
sto s31 34 12 x1 r30 fun s33 =>
lod s33 39 12 x1 fun v34 =>
bnd (fX12_keeps v34 s33) fun r36 s37 =>
sto s37 39 12 x1 r36 fun s39 =>
some (.inl (w32 (x1 + 1)), s39))
else
some (.inr (), s2)) 0 s0) fun (y40 : Unit) s41 =>
bnd (itr FUEL (fun (x43 : Int) s44 =>
if x43 < 20 then (
lod s44 5 20 x43 fun v46 =>
bnd (fX12_keeps v46 s44) fun r48 s49 =>
sto s49 5 20 x43 r48 fun s51 =>
lod s51 6 20 x43 fun v52 =>
bnd (fX12_keeps v52 s51) fun r54 s55 =>
sto s55 6 20 x43 r54 fun s57 =>
some (.inl (w32 (x43 + 1)), s57))
else
some (.inr (), s44)) 0 s41) fun (y58 : Unit) s59 =>
bnd (itr FUEL (fun (x61 : Int) s62 =>
if x61 < 144 then (
lod s62 20 288 x61 fun v64 =>
bnd (fX12_keeps v64 s62) fun r66 s67 =>
sto s67 20 288 x61 r66 fun s69 =>
some (.inl (w32 (x61 + 1)), s69))
else
some (.inr (), s62)) 0 s59) fun (y70 : Unit) s71 =>
bnd (itr FUEL (fun (x73 : Int) s74 =>
if x73 < 64 then (
lod s74 18 128 x73 fun v76 =>
bnd (fX12_keeps v76 s74) fun r78 s79 =>
sto s79 18 128 x73 r78 fun s81 =>
some (.inl (w32 (x73 + 1)), s81))
else
some (.inr (), s74)) 0 s71) fun (y82 : Unit) s83 =>
bnd (itr FUEL (fun (x85 : Int) s86 =>
if x85 < 64 then (
lod s86 19 128 x85 fun v88 =>
bnd (fX12_keeps v88 s86) fun r90 s91 =>
sto s91 19 128 x85 r90 fun s93 =>
some (.inl (w32 (x85 + 1)), s93))
else
some (.inr (), s86)) 0 s83) fun (y94 : Unit) s95 =>
some (0, s95)
def fX12_keepsLaw  (s0 : St) : Rs Int :=
lod s0 10 2 0 fun v1 =>
bnd (fX12_keeps v1 s0) fun r3 s4 =>
sto s4 10 2 0 r3 fun s6 =>
bnd (itr FUEL (fun (x7 : Int) s8 =>
if x7 < 16 then (
lod s8 11 48 x7 fun v10 =>
bnd (fX12_keeps v10 s8) fun r12 s13 =>
sto s13 11 48 x7 r12 fun s15 =>
lod s15 12 48 x7 fun v16 =>
bnd (fX12_keeps v16 s15) fun r18 s19 =>
sto s19 12 48 x7 r18 fun s21 =>
lod s21 13 48 x7 fun v22 =>
bnd (fX12_keeps v22 s21) fun r24 s25 =>
sto s25 13 48 x7 r24 fun s27 =>
lod s27 14 48 x7 fun v28 =>
bnd (fX12_keeps v28 s27) fun r30 s31 =>
sto s31 14 48 x7 r30 fun s33 =>
some (.inl (w32 (x7 + 1)), s33))
else
some (.inr (), s8)) 0 s6) fun (y34 : Unit) s35 =>
bnd (itr FUEL (fun (x37 : Int) s38 =>
if x37 < 400 then (
lod s38 15 1200 x37 fun v40 =>
bnd (fX12_keeps v40 s38) fun r42 s43 =>
sto s43 15 1200 x37 r42 fun s45 =>
lod s45 16 1200 x37 fun v46 =>
bnd (fX12_keeps v46 s45) fun r48 s49 =>
sto s49 16 1200 x37 r48 fun s51 =>
some (.inl (w32 (x37 + 1)), s51))
else
some (.inr (), s38)) 0 s35) fun (y52 : Unit) s53 =>
some (0, s53)
def fX12_image (p1 : Int) (s0 : St) : Rs Int :=
put s0 0 0 0 fun s1 =>
bnx (
if p1 = 0 then (
fld s1 0 84 fun v2 =>
if v2 = 0 then (
some (.inr 0, s1))
else
some (.inl (), s1))
else
some (.inl (), s1)) fun (y4 : Unit) s5 =>
put s5 0 83 p1 fun s7 =>
put s7 0 84 1 fun s8 =>
put s8 0 85 0 fun s9 =>
bnd (itr FUEL (fun (x10 : Int) s11 =>
if x10 < 161 then (
lod s11 1 161 x10 fun v13 =>
bnd (fX12_keeps v13 s11) fun r15 s16 =>
sto s16 1 161 x10 r15 fun s18 =>
some (.inl (w32 (x10 + 1)), s18))
else
some (.inr (), s11)) 0 s9) fun (y19 : Unit) s20 =>
bnd (fX12_keepsMany s20) fun r22 s23 =>
bnd (fX12_keepsThought s23) fun r25 s26 =>
bnd (fX12_keepsTold s26) fun r28 s29 =>
bnd (itr FUEL (fun (x31 : Int) s32 =>
if x31 < 750 then (
lod s32 7 750 x31 fun v34 =>
bnd (fX12_keeps v34 s32) fun r36 s37 =>
sto s37 7 750 x31 r36 fun s39 =>
some (.inl (w32 (x31 + 1)), s39))
else
some (.inr (), s32)) 0 s29) fun (y40 : Unit) s41 =>
bnd (fX12_keepsLaw s41) fun r43 s44 =>
if p1 = 0 then (
put s44 0 3 0 fun s46 =>
some (1, s46))
else
some (1, s44)
def fX12_isDigit (p1 : Int) (s0 : St) : Rs Int :=
bnd (fX12_isIn p1 48 57 s0) fun r1 s2 =>
some (r1, s2)
def fX12_isDry (p1 : Int) (p2 : Int) (p3 : Int) (s0 : St) : Rs Int :=
bnd (itr FUEL (fun (x1 : Int) s2 =>
if x1 < 4 then (
sto s2 38 4 x1 0 fun s4 =>
some (.inl (w32 (x1 + 1)), s4))
else
some (.inr (), s2)) 0 s0) fun (y5 : Unit) s6 =>
bnx (itr FUEL (fun (x8 : Int × Int) s9 =>
fld s9 0 58 fun v11 =>
if x8.2 < v11 then (
dvc p3 <|
dvc p3 <|
lod s9 38 4 (irm x8.1 p3) fun v15 =>
lod s9 36 8 x8.2 fun v17 =>
sto s9 38 4 (irm x8.1 p3) (w32 (v15 + v17)) fun s19 =>
dvc p3 <|
lod s19 38 4 (irm x8.1 p3) fun v21 =>
if p2 < v21 then (
some (.inr (.inl ()), s19))
else
dvc p3 <|
lb (idv x8.1 p3) fun v24 =>
some (.inl (v24, w32 (x8.2 + 1)), s19))
else
some (.inr (.inr 1), s9)) (p1, 0) s6) fun (y26 : Unit) s27 =>
some (0, s27)
def fX12_isLetter (p1 : Int) (s0 : St) : Rs Int :=
bnd (fX12_isIn p1 97 122 s0) fun r1 s2 =>
if r1 = 0 then (
bnd (fX12_isIn p1 65 90 s2) fun r4 s5 =>
if r4 = 0 then (
some (0, s5))
else
some (1, s5))
else
some (1, s2)
def fX12_isLineWord  (s0 : St) : Rs Int :=
fld s0 0 16 fun v1 =>
if v1 = 2 then (
fld s0 0 17 fun v3 =>
bnd (fX12_isIn v3 0 2 s0) fun r5 s6 =>
if r5 = 0 then (
some (0, s6))
else
some (1, s6))
else
some (0, s0)
def fX12_isMarkSign (p1 : Int) (s0 : St) : Rs Int :=
if p1 = 59 then (
some (1, s0))
else
if p1 = 43 then (
some (1, s0))
else
if p1 = 45 then (
some (1, s0))
else
if p1 = 42 then (
some (1, s0))
else
if p1 = 47 then (
some (1, s0))
else
if p1 = 40 then (
some (1, s0))
else
if p1 = 41 then (
some (1, s0))
else
if p1 = 60 then (
some (1, s0))
else
if p1 = 61 then (
some (1, s0))
else
if p1 = 62 then (
some (1, s0))
else
some (0, s0)
def fX12_isSettled  (s0 : St) : Rs Int :=
bnx (itr FUEL (fun (x1 : Int) s2 =>
if x1 < 5 then (
bnx (itr FUEL (fun (x4 : Int) s5 =>
if x4 < 5 then (
lod s5 28 9 x4 fun v7 =>
lod s5 24 50 (w32 (w32 (5 * x1) + v7)) fun v9 =>
lod s5 28 9 x1 fun v11 =>
lod s5 24 50 (w32 (w32 (5 * x1) + v11)) fun v13 =>
if v9 < v13 then (
lod s5 24 50 (w32 (w32 (5 * w32 (5 + v7)) + x1)) fun v15 =>
lod s5 24 50 (w32 (w32 (5 * w32 (5 + v7)) + x4)) fun v17 =>
if v15 < v17 then (
some (.inr (.inr (.inr (.inl ()))), s5))
else
some (.inl (w32 (x4 + 1)), s5))
else
some (.inl (w32 (x4 + 1)), s5))
else
some (.inr (.inl ()), s5)) 0 s2) fun (y19 : Unit) s20 =>
some (.inl (w32 (x1 + 1)), s20))
else
some (.inr (.inr 1), s2)) 0 s0) fun (y22 : Unit) s23 =>
some (0, s23)
def fX12_isSign (p1 : Int) (s0 : St) : Rs Int :=
fld s0 0 16 fun v1 =>
if v1 = 4 then (
fld s0 0 17 fun v3 =>
if v3 = p1 then (
some (1, s0))
else
some (0, s0))
else
some (0, s0)
def fX12_isWord (p1 : Int) (s0 : St) : Rs Int :=
fld s0 0 16 fun v1 =>
if v1 = 2 then (
fld s0 0 17 fun v3 =>
if v3 = p1 then (
some (1, s0))
else
some (0, s0))
else
some (0, s0)
def fX12_takesCans (p1 : Int) (s0 : St) : Rs Int :=
dvc 169 <|
sto s0 50 3 0 (idv p1 169) fun s2 =>
dvc 13 <|
dvc 13 <|
sto s2 50 3 1 (irm (idv p1 13) 13) fun s5 =>
dvc 13 <|
sto s5 50 3 2 (irm p1 13) fun s7 =>
some (0, s7)
def fX12_poured (p1 : Int) (p2 : Int) (p3 : Int) (s0 : St) : Rs Int :=
bnd (fX12_takesCans p1 s0) fun r1 s2 =>
lod s2 50 3 p2 fun v4 =>
lod s2 51 3 p3 fun v6 =>
lod s2 50 3 p3 fun v8 =>
bnd (fX12_lesser v4 (w32 (v6 - v8)) s2) fun r10 s11 =>
lod s11 50 3 p2 fun v13 =>
sto s11 50 3 p2 (w32 (v13 - r10)) fun s15 =>
lod s15 50 3 p3 fun v16 =>
sto s15 50 3 p3 (w32 (v16 + r10)) fun s18 =>
lod s18 50 3 0 fun v19 =>
lod s18 50 3 1 fun v21 =>
lod s18 50 3 2 fun v23 =>
some (w32 (w32 (w32 (169 * v19) + w32 (13 * v21)) + v23), s18)
def fX12_lamps (p1 : Int) (p2 : Int) (p3 : Int) (p4 : Int) (s0 : St) : Rs Int :=
put s0 0 0 0 fun s1 =>
bnd (fX12_isIn p1 1 12 s1) fun r2 s3 =>
if r2 = 0 then (
some ((-1), s3))
else
bnd (fX12_isIn p2 1 12 s3) fun r5 s6 =>
if r5 = 0 then (
some ((-1), s6))
else
bnd (fX12_isIn p3 1 12 s6) fun r8 s9 =>
if r8 = 0 then (
some ((-1), s9))
else
bnd (fX12_isIn p4 0 12 s9) fun r11 s12 =>
if r11 = 0 then (
some ((-1), s12))
else
sto s12 51 3 0 p1 fun s14 =>
sto s14 51 3 1 p2 fun s15 =>
sto s15 51 3 2 p3 fun s16 =>
bnd (itr FUEL (fun (x17 : Int) s18 =>
if x17 < 2197 then (
sto s18 52 2197 x17 100000000 fun s20 =>
some (.inl (w32 (x17 + 1)), s20))
else
some (.inr (), s18)) 0 s16) fun (y21 : Unit) s22 =>
sto s22 52 2197 (w32 (169 * p1)) 0 fun s24 =>
sto s24 53 2197 0 (w32 (169 * p1)) fun s25 =>
bnx (itr FUEL (fun (x26 : Int × Int) s27 =>
if x26.2 < x26.1 then (
lod s27 53 2197 x26.2 fun v29 =>
bnd (fX12_takesCans v29 s27) fun r31 s32 =>
lod s32 50 3 0 fun v34 =>
if v34 = p4 then (
some (.inr (.inl v29), s32))
else
lod s32 50 3 1 fun v36 =>
if v36 = p4 then (
some (.inr (.inl v29), s32))
else
lod s32 50 3 2 fun v38 =>
if v38 = p4 then (
some (.inr (.inl v29), s32))
else
bnd (itr FUEL (fun (x40 : Int × Int) s41 =>
if x40.2 < 9 then (
dvc 3 <|
dvc 3 <|
if idv x40.2 3 = irm x40.2 3 then (
some (.inl (x40.1, w32 (x40.2 + 1)), s41))
else
dvc 3 <|
dvc 3 <|
bnd (fX12_poured v29 (idv x40.2 3) (irm x40.2 3) s41) fun r47 s48 =>
lod s48 52 2197 r47 fun v50 =>
if v50 < 100000000 then (
some (.inl (x40.1, w32 (x40.2 + 1)), s48))
else
lod s48 52 2197 v29 fun v52 =>
sto s48 52 2197 r47 (w32 (v52 + 1)) fun s54 =>
sto s54 53 2197 x40.1 r47 fun s55 =>
lb (w32 (x40.1 + 1)) fun v56 =>
some (.inl (v56, w32 (x40.2 + 1)), s55))
else
some (.inr x40.1, s41)) (x26.1, 0) s32) fun (y58 : Int) s59 =>
some (.inl (y58, w32 (x26.2 + 1)), s59))
else
some (.inr (.inr (-1)), s27)) (1, 0) s25) fun (y61 : Int) s62 =>
lod s62 52 2197 y61 fun v64 =>
some (v64, s62)
def fX12_last (p1 : Int) (p2 : Int) (s0 : St) : Rs Int :=
put s0 0 0 0 fun s1 =>
bnd (fX12_isPorch p1 s1) fun r2 s3 =>
if r2 = 0 then (
some ((-1), s3))
else
bnd (fX12_isIn p2 0 2 s3) fun r5 s6 =>
if r5 = 0 then (
some ((-1), s6))
else
bnd (itr FUEL (fun (x8 : Int) s9 =>
fld s9 0 6 fun v11 =>
if x8 < v11 then (
if x8 = p1 then (
sto s9 48 12 x8 0 fun s14 =>
some (.inl (w32 (x8 + 1)), s14))
else
sto s9 48 12 x8 100000000 fun s13 =>
some (.inl (w32 (x8 + 1)), s13))
else
some (.inr (), s9)) 0 s6) fun (y15 : Unit) s16 =>
bnd (itr FUEL (fun (x18 : Int) s19 =>
fld s19 0 6 fun v21 =>
if x18 < v21 then (
bnd (itr FUEL (fun (x23 : Int) s24 =>
fld s24 0 6 fun v26 =>
if x23 < v26 then (
bnd (itr FUEL (fun (x28 : Int) s29 =>
fld s29 0 6 fun v31 =>
if x28 < v31 then (
lod s29 20 288 (w32 (w32 (12 * x23) + x28)) fun v33 =>
if 0 < v33 then (
lod s29 48 12 x28 fun v35 =>
lod s29 48 12 x23 fun v37 =>
lod s29 20 288 (w32 (w32 (12 * x23) + x28)) fun v39 =>
bnd (fX12_lesser v35 (w32 (v37 + v39)) s29) fun r41 s42 =>
sto s42 48 12 x28 r41 fun s44 =>
some (.inl (w32 (x28 + 1)), s44))
else
some (.inl (w32 (x28 + 1)), s29))
else
some (.inr (), s29)) 0 s24) fun (y45 : Unit) s46 =>
some (.inl (w32 (x23 + 1)), s46))
else
some (.inr (), s24)) 0 s19) fun (y48 : Unit) s49 =>
some (.inl (w32 (x18 + 1)), s49))
else
some (.inr (), s19)) 0 s16) fun (y51 : Unit) s52 =>
fld s52 0 6 fun v54 =>
lb (w32 (v54 - 1)) fun v56 =>
bnd (itr FUEL (fun (x58 : Int × Int × Int) s59 =>
if x58.2.2 < 0 then (
some (.inr (x58.1, x58.2.1), s59))
else
lod s59 48 12 x58.2.2 fun v61 =>
if v61 < 100000000 then (
lb (w32 (x58.1 + 1)) fun v63 =>
lod s59 48 12 x58.2.2 fun v65 =>
lod s59 48 12 x58.2.1 fun v67 =>
if v65 < v67 then (
some (.inl (v63, x58.2.1, w32 (x58.2.2 + (-1))), s59))
else
some (.inl (v63, x58.2.2, w32 (x58.2.2 + (-1))), s59))
else
some (.inl (x58.1, x58.2.1, w32 (x58.2.2 + (-1))), s59)) (0, p1, v56) s52) fun (y69 : Int × Int) s70 =>
if p2 = 0 then (
some (y69.2, s70))
else
if p2 = 1 then (
lod s70 48 12 y69.2 fun v72 =>
some (v72, s70))
else
some (y69.1, s70)
def fX12_levelled  (s0 : St) : Rs Int :=
bnd (itr FUEL (fun (x1 : Int × Int) s2 =>
fld s2 0 62 fun v4 =>
if x1.2 < v4 then (
lod s2 39 12 x1.2 fun v6 =>
lb (w32 (x1.1 + v6)) fun v8 =>
some (.inl (v8, w32 (x1.2 + 1)), s2))
else
some (.inr x1.1, s2)) (0, 0) s0) fun (y10 : Int) s11 =>
fld s11 0 62 fun v13 =>
if v13 = 0 then (
some (0, s11))
else
fld s11 0 62 fun v15 =>
dvc v15 <|
if irm y10 v15 = 0 then (
bnd (itr FUEL (fun (x18 : Int × Int × Int) s19 =>
fld s19 0 62 fun v21 =>
if x18.2.2 < v21 then (
lod s19 39 12 x18.2.2 fun v23 =>
fld s19 0 62 fun v25 =>
dvc v25 <|
lb (w32 (w32 (x18.2.1 + v23) - idv y10 v25)) fun v28 =>
bnd (fX12_apart v28 0 s19) fun r30 s31 =>
lb (w32 (x18.1 + r30)) fun v33 =>
some (.inl (v33, v28, w32 (x18.2.2 + 1)), s31))
else
some (.inr x18.1, s19)) (0, 0, 0) s11) fun (y35 : Int) s36 =>
some (y35, s36))
else
some ((-1), s11)
def fX12_level (p1 : Int) (s0 : St) : Rs Int :=
put s0 0 0 0 fun s1 =>
if p1 = 0 then (
bnd (fX12_levelled s1) fun r5 s6 =>
some (r5, s6))
else
if p1 = 1 then (
bnd (fX12_ditch s1) fun r2 s3 =>
some (r2, s3))
else
some ((-1), s1)
def fX12_look (p1 : Int) (s0 : St) : Rs Int :=
put s0 0 0 0 fun s1 =>
if p1 = 0 then (
fld s1 0 6 fun v42 =>
some (v42, s1))
else
if p1 = 1 then (
fld s1 0 7 fun v40 =>
some (v40, s1))
else
if p1 = 2 then (
lod s1 1 161 1 fun v38 =>
some (v38, s1))
else
if p1 = 3 then (
lod s1 1 161 0 fun v36 =>
some (v36, s1))
else
if p1 = 4 then (
lod s1 1 161 4 fun v34 =>
some (v34, s1))
else
if p1 = 7 then (
lod s1 1 161 3 fun v32 =>
some (v32, s1))
else
if p1 = 8 then (
lod s1 1 161 2 fun v30 =>
some (v30, s1))
else
if p1 = 9 then (
lod s1 10 2 0 fun v28 =>
some (v28, s1))
else
if p1 = 10 then (
fld s1 0 35 fun v26 =>
some (v26, s1))
else
if p1 = 11 then (
fld s1 0 37 fun v24 =>
some (v24, s1))
else
if p1 = 12 then (
fld s1 0 39 fun v22 =>
some (v22, s1))
else
if p1 = 13 then (
fld s1 0 3 fun v20 =>
some (v20, s1))
else
bnx (
if p1 = 5 then (
some (.inl (), s1))
else
if p1 = 6 then (
some (.inl (), s1))
else
some (.inr (-1), s1)) fun (y2 : Unit) s3 =>
bnd (itr FUEL (fun (x5 : Int × Int) s6 =>
fld s6 0 7 fun v8 =>
if x5.2 < v8 then (
bnd (
if p1 = 5 then (
some (41, s6))
else
some (141, s6)) fun (y10 : Int) s11 =>
lod s11 1 161 (w32 (y10 + x5.2)) fun v13 =>
if 0 < v13 then (
lb (ior x5.1 (ishl 1 x5.2)) fun v15 =>
some (.inl (v15, w32 (x5.2 + 1)), s11))
else
some (.inl (x5.1, w32 (x5.2 + 1)), s11))
else
some (.inr x5.1, s6)) (0, 0) s3) fun (y17 : Int) s18 =>
some (y17, s18)
def fX12_settledWays  (s0 : St) : Rs Int :=
bnd (itr FUEL (fun (x1 : Int) s2 =>
if x1 < 5 then (
sto s2 28 9 x1 x1 fun s4 =>
some (.inl (w32 (x1 + 1)), s4))
else
some (.inr (), s2)) 0 s0) fun (y5 : Unit) s6 =>
bnd (itr FUEL (fun (x8 : Int × Int) s9 =>
if x8.2 = 0 then (
some (.inr x8.1, s9))
else
bnd (fX12_isSettled s9) fun r11 s12 =>
bnd (
if r11 = 0 then (
some (x8.1, s12))
else
lb (w32 (x8.1 + 1)) fun v14 =>
some (v14, s12)) fun (y16 : Int) s17 =>
bnd (fX12_goesToNextOrder 5 s17) fun r19 s20 =>
some (.inl (y16, r19), s20)) (0, 1) s6) fun (y22 : Int) s23 =>
some (y22, s23)
def fX12_matched (p1 : Int) (p2 : Int) (p3 : Int) (s0 : St) : Rs Int :=
put s0 0 0 0 fun s1 =>
bnd (fX12_findsWishes s1) fun r2 s3 =>
if p1 = (-1) then (
bnd (fX12_settledWays s3) fun r27 s28 =>
some (r27, s28))
else
bnd (fX12_isIn p1 0 1 s3) fun r5 s6 =>
if r5 = 0 then (
some ((-1), s6))
else
bnd (fX12_isIn p2 0 4 s6) fun r8 s9 =>
if r8 = 0 then (
some ((-1), s9))
else
bnd (fX12_isIn p3 0 1 s9) fun r11 s12 =>
if r11 = 0 then (
some ((-1), s12))
else
bnd (fX12_engages p3 s12) fun r14 s15 =>
if p1 = p3 then (
bnx (itr FUEL (fun (x17 : Int) s18 =>
if x17 < 5 then (
lod s18 26 5 x17 fun v20 =>
if v20 = p2 then (
some (.inr (.inl x17), s18))
else
some (.inl (w32 (x17 + 1)), s18))
else
some (.inr (.inr (-1)), s18)) 0 s15) fun (y22 : Int) s23 =>
some (y22, s23))
else
lod s15 26 5 p2 fun v25 =>
some (v25, s15)
def fX12_minutes (p1 : Int) (s0 : St) : Rs Int :=
put s0 0 0 0 fun s1 =>
bnd (fX12_isIn p1 1 60 s1) fun r2 s3 =>
if r2 = 0 then (
some ((-1), s3))
else
lod s3 1 161 0 fun v5 =>
lod s3 1 161 1 fun v7 =>
dvc 60 <|
if 9990 < w32 (v5 + idv (w32 (v7 + p1)) 60) then (
some ((-1), s3))
else
bnd (itr FUEL (fun (x10 : Int × Int) s11 =>
if x10.2 < p1 then (
bnd (fX12_keepsAhead s11) fun r13 s14 =>
bnd (fX12_goesBy s14) fun r16 s17 =>
lb (w32 (x10.1 + r16)) fun v19 =>
some (.inl (v19, w32 (x10.2 + 1)), s17))
else
some (.inr x10.1, s11)) (0, 0) s3) fun (y21 : Int) s22 =>
some (y21, s22)
def fX12_of (p1 : Int) (p2 : Int) (s0 : St) : Rs Int :=
put s0 0 0 0 fun s1 =>
bnd (fX12_isPerson p1 s1) fun r2 s3 =>
if r2 = 0 then (
some ((-2), s3))
else
if p2 = 0 then (
lod s3 5 20 p1 fun v24 =>
some (v24, s3))
else
if p2 = 1 then (
lod s3 6 20 p1 fun v22 =>
some (v22, s3))
else
if p2 = 2 then (
bnd (fX12_sitsOn p1 s3) fun r19 s20 =>
some (r19, s20))
else
if p2 = 3 then (
lod s3 1 161 (w32 (61 + p1)) fun v17 =>
some (v17, s3))
else
if p2 = 4 then (
lod s3 1 161 (w32 (101 + p1)) fun v15 =>
some (v15, s3))
else
if p2 = 5 then (
lod s3 1 161 (w32 (121 + p1)) fun v13 =>
some (v13, s3))
else
if p2 = 6 then (
lod s3 1 161 (w32 (141 + p1)) fun v11 =>
some (w32 (v11 - 1), s3))
else
if p2 = 7 then (
bnd (fX12_doesSit p1 s3) fun r5 s6 =>
if r5 = 0 then (
some ((-1), s6))
else
bnd (fX12_speaksOf p1 s6) fun r8 s9 =>
some (r8, s9))
else
some ((-2), s3)
def fX12_person (p1 : Int) (p2 : Int) (s0 : St) : Rs Int :=
put s0 0 0 0 fun s1 =>
bnd (fX12_isIn p1 0 9 s1) fun r2 s3 =>
if r2 = 0 then (
some ((-1), s3))
else
bnd (fX12_isIn p2 0 9 s3) fun r5 s6 =>
if r5 = 0 then (
some ((-1), s6))
else
fld s6 0 7 fun v8 =>
if v8 = 20 then (
some ((-1), s6))
else
fld s6 0 7 fun v10 =>
sto s6 5 20 v10 p1 fun s12 =>
fld s12 0 7 fun v13 =>
sto s12 6 20 v13 p2 fun s15 =>
bnd (itr FUEL (fun (x16 : Int) s17 =>
if x16 < 161 then (
fld s17 0 7 fun v19 =>
sto s17 1 161 (w32 (x16 + v19)) 0 fun s21 =>
lb (w32 (x16 + 20)) fun v22 =>
some (.inl v22, s21))
else
some (.inr (), s17)) 41 s15) fun (y24 : Unit) s25 =>
fld s25 0 7 fun v27 =>
put s25 0 7 (w32 (v27 + 1)) fun s29 =>
put s29 0 3 0 fun s30 =>
fld s30 0 7 fun v31 =>
some (w32 (v31 - 1), s30)
def fX12_porch (p1 : Int) (p2 : Int) (s0 : St) : Rs Int :=
put s0 0 0 0 fun s1 =>
bnd (fX12_isIn p1 1 6 s1) fun r2 s3 =>
if r2 = 0 then (
some ((-1), s3))
else
bnd (fX12_isIn p2 0 99 s3) fun r5 s6 =>
if r5 = 0 then (
some ((-1), s6))
else
fld s6 0 6 fun v8 =>
if v8 = 12 then (
some ((-1), s6))
else
fld s6 0 6 fun v10 =>
sto s6 4 12 v10 p1 fun s12 =>
fld s12 0 6 fun v13 =>
sto s12 1 161 (w32 (5 + v13)) p2 fun s15 =>
fld s15 0 6 fun v16 =>
sto s15 1 161 (w32 (17 + v16)) 0 fun s18 =>
fld s18 0 6 fun v19 =>
sto s18 1 161 (w32 (29 + v19)) 0 fun s21 =>
fld s21 0 6 fun v22 =>
put s21 0 6 (w32 (v22 + 1)) fun s24 =>
put s24 0 3 0 fun s25 =>
fld s25 0 6 fun v26 =>
some (w32 (v26 - 1), s25)
def fX12_porchOf (p1 : Int) (p2 : Int) (s0 : St) : Rs Int :=
put s0 0 0 0 fun s1 =>
bnd (fX12_isPorch p1 s1) fun r2 s3 =>
if r2 = 0 then (
some ((-2), s3))
else
if p2 = 0 then (
lod s3 4 12 p1 fun v24 =>
some (v24, s3))
else
if p2 = 1 then (
lod s3 1 161 (w32 (5 + p1)) fun v22 =>
some (v22, s3))
else
if p2 = 2 then (
lod s3 1 161 (w32 (17 + p1)) fun v20 =>
some (v20, s3))
else
if p2 = 3 then (
lod s3 1 161 (w32 (29 + p1)) fun v18 =>
some (w32 (v18 - 1), s3))
else
if p2 = 4 then (
bnd (fX12_sittersOn p1 s3) fun r15 s16 =>
some (r15, s16))
else
if p2 = 5 then (
bnd (fX12_spinsOf p1 s3) fun r12 s13 =>
some (r12, s13))
else
fld s3 0 6 fun v5 =>
bnd (fX12_isIn p2 10 (w32 (9 + v5)) s3) fun r7 s8 =>
if r7 = 0 then (
some ((-2), s8))
else
lod s8 20 288 (w32 (w32 (w32 (12 * p1) + p2) - 10)) fun v10 =>
if v10 = 0 then (
some ((-1), s8))
else
some (v10, s8)
def fX12_quarrel (p1 : Int) (p2 : Int) (s0 : St) : Rs Int :=
put s0 0 0 0 fun s1 =>
if p1 = (-1) then (
put s1 0 72 0 fun s21 =>
bnd (itr FUEL (fun (x22 : Int) s23 =>
if x22 < 8 then (
sto s23 46 8 x22 0 fun s25 =>
some (.inl (w32 (x22 + 1)), s25))
else
some (.inr (), s23)) 0 s21) fun (y26 : Unit) s27 =>
some (0, s27))
else
bnd (fX12_isIn p1 0 7 s1) fun r2 s3 =>
if r2 = 0 then (
some ((-1), s3))
else
bnd (fX12_isIn p2 0 7 s3) fun r5 s6 =>
if r5 = 0 then (
some ((-1), s6))
else
if p1 = p2 then (
some ((-1), s6))
else
fld s6 0 72 fun v8 =>
if v8 = 8 then (
some ((-1), s6))
else
lod s6 46 8 p1 fun v10 =>
sto s6 46 8 p1 (ior v10 (ishl 1 p2)) fun s12 =>
lod s12 46 8 p2 fun v13 =>
sto s12 46 8 p2 (ior v13 (ishl 1 p1)) fun s15 =>
fld s15 0 72 fun v16 =>
put s15 0 72 (w32 (v16 + 1)) fun s18 =>
fld s18 0 72 fun v19 =>
some (v19, s18)
def fX12_raw (p1 : Int) (s0 : St) : Rs Int :=
fld s0 0 13 fun v1 =>
if p1 < v1 then (
lod s0 8 400 p1 fun v3 =>
some (v3, s0))
else
some ((-1), s0)
def fX12_settles (p1 : Int) (s0 : St) : Rs Int :=
bnd (itr FUEL (fun (x1 : Unit) s2 =>
fld s2 0 30 fun v4 =>
if 0 < v4 then (
fld s2 0 30 fun v6 =>
lod s2 17 40 (w32 (v6 - 1)) fun v8 =>
if v8 = p1 then (
fld s2 0 30 fun v10 =>
put s2 0 30 (w32 (v10 - 1)) fun s12 =>
bnd (fX12_emits p1 0 s12) fun r13 s14 =>
if p1 = 9 then (
fld s14 0 28 fun v16 =>
put s14 0 28 (w32 (v16 - 1)) fun s18 =>
some (.inl (), s18))
else
some (.inl (), s14))
else
some (.inr (), s2))
else
some (.inr (), s2)) () s0) fun (y19 : Unit) s20 =>
some (0, s20)
def fX12_wordAt (p1 : Int) (p2 : Int) (s0 : St) : Rs Int :=
bnx (itr FUEL (fun (x1 : Int × Int) s2 =>
if x1.2 < 151 then (
lb (w32 (x1.1 + 1)) fun v4 =>
bnd (itr FUEL (fun (x6 : Int) s7 =>
if w32 (p1 + x6) < p2 then (
lod s7 9 152 (w32 (w32 (x1.2 + 1) + x6)) fun v9 =>
lod s7 8 400 (w32 (p1 + x6)) fun v11 =>
if v9 = v11 then (
lb (w32 (x6 + 1)) fun v13 =>
some (.inl v13, s7))
else
some (.inr x6, s7))
else
some (.inr x6, s7)) 0 s2) fun (y15 : Int) s16 =>
bnx (
if w32 (p1 + y15) = p2 then (
lod s16 9 152 (w32 (w32 (x1.2 + 1) + y15)) fun v18 =>
if v18 = 32 then (
some (.inr (.inr (.inl v4)), s16))
else
some (.inl (), s16))
else
some (.inl (), s16)) fun (y20 : Unit) s21 =>
lb (w32 (x1.2 + 1)) fun v23 =>
bnd (itr FUEL (fun (x25 : Int) s26 =>
lod s26 9 152 x25 fun v28 =>
if v28 = 32 then (
some (.inr x25, s26))
else
lb (w32 (x25 + 1)) fun v30 =>
some (.inl v30, s26)) v23 s21) fun (y32 : Int) s33 =>
some (.inl (v4, y32), s33))
else
some (.inr (.inr (-1)), s2)) ((-1), 0) s0) fun (y35 : Int) s36 =>
some (y35, s36)
def fX12_reads  (s0 : St) : Rs Int :=
bnd (itr FUEL (fun (x1 : Unit) s2 =>
fld s2 0 14 fun v4 =>
bnd (fX12_raw v4 s2) fun r6 s7 =>
if r6 = 32 then (
fld s7 0 14 fun v9 =>
put s7 0 14 (w32 (v9 + 1)) fun s11 =>
some (.inl (), s11))
else
fld s7 0 14 fun v12 =>
bnd (fX12_raw v12 s7) fun r14 s15 =>
if r14 = 10 then (
fld s15 0 14 fun v17 =>
put s15 0 14 (w32 (v17 + 1)) fun s19 =>
some (.inl (), s19))
else
some (.inr (), s15)) () s0) fun (y20 : Unit) s21 =>
fld s21 0 14 fun v23 =>
put s21 0 15 v23 fun s25 =>
put s25 0 16 1 fun s26 =>
fld s26 0 14 fun v27 =>
bnd (fX12_raw v27 s26) fun r29 s30 =>
if r29 = (-1) then (
put s30 0 16 0 fun s113 =>
some (0, s113))
else
fld s30 0 14 fun v32 =>
put s30 0 14 (w32 (v32 + 1)) fun s34 =>
put s34 0 17 r29 fun s35 =>
bnd (fX12_isLetter r29 s35) fun r36 s37 =>
if r36 = 0 then (
bnd (fX12_isDigit r29 s37) fun r39 s40 =>
if r39 = 0 then (
bnd (fX12_isMarkSign r29 s40) fun r42 s43 =>
if r42 = 0 then (
some (0, s43))
else
put s43 0 16 4 fun s45 =>
some (0, s45))
else
put s40 0 17 (w32 (r29 - 48)) fun s46 =>
bnd (itr FUEL (fun (x47 : Unit) s48 =>
fld s48 0 14 fun v50 =>
bnd (fX12_raw v50 s48) fun r52 s53 =>
bnd (fX12_isDigit r52 s53) fun r55 s56 =>
if r55 = 0 then (
some (.inr (), s56))
else
fld s56 0 17 fun v58 =>
if v58 < 10000 then (
fld s56 0 17 fun v66 =>
fld s56 0 14 fun v68 =>
bnd (fX12_raw v68 s56) fun r70 s71 =>
put s71 0 17 (w32 (w32 (w32 (10 * v66) + r70) - 48)) fun s73 =>
fld s73 0 14 fun v74 =>
put s73 0 14 (w32 (v74 + 1)) fun s76 =>
some (.inl (), s76))
else
fld s56 0 17 fun v60 =>
put s56 0 17 v60 fun s62 =>
fld s62 0 14 fun v63 =>
put s62 0 14 (w32 (v63 + 1)) fun s65 =>
some (.inl (), s65)) () s46) fun (y77 : Unit) s78 =>
fld s78 0 14 fun v80 =>
fld s78 0 15 fun v82 =>
if w32 (v80 - v82) < 5 then (
put s78 0 16 3 fun s84 =>
some (0, s84))
else
some (0, s78))
else
bnd (itr FUEL (fun (x85 : Unit) s86 =>
fld s86 0 14 fun v88 =>
bnd (fX12_raw v88 s86) fun r90 s91 =>
bnd (fX12_isLetter r90 s91) fun r93 s94 =>
if r93 = 0 then (
some (.inr (), s94))
else
fld s94 0 14 fun v96 =>
put s94 0 14 (w32 (v96 + 1)) fun s98 =>
some (.inl (), s98)) () s37) fun (y99 : Unit) s100 =>
fld s100 0 15 fun v102 =>
fld s100 0 14 fun v104 =>
bnd (fX12_wordAt v102 v104 s100) fun r106 s107 =>
put s107 0 17 r106 fun s109 =>
fld s109 0 17 fun v110 =>
if v110 = (-1) then (
some (0, s109))
else
put s109 0 16 2 fun s112 =>
some (0, s112)
def fX12_waits (p1 : Int) (s0 : St) : Rs Int :=
fld s0 0 30 fun v1 =>
sto s0 17 40 v1 p1 fun s3 =>
fld s3 0 30 fun v4 =>
put s3 0 30 (w32 (v4 + 1)) fun s6 =>
some (0, s6)
def fX12_readUnit  (s0 : St) : Rs Int :=
fld s0 0 16 fun v1 =>
bnd (
if v1 = 2 then (
fld s0 0 17 fun v3 =>
bnd (fX12_canAsk v3 s0) fun r5 s6 =>
if r5 = 0 then (
some (0, s6))
else
some (1, s6))
else
some (0, s0)) fun (y8 : Int) s9 =>
bnx (
if y8 = 0 then (
fld s9 0 16 fun v11 =>
if v11 = 3 then (
some (.inl (), s9))
else
bnd (fX12_errs 1 s9) fun r13 s14 =>
some (.inr r13, s14))
else
some (.inl (), s9)) fun (y16 : Unit) s17 =>
bnd (
if y8 = 0 then (
some (0, s17))
else
some (1, s17)) fun (y19 : Int) s20 =>
bnd (
if y8 = 0 then (
fld s20 0 17 fun v22 =>
some (v22, s20))
else
fld s20 0 17 fun v24 =>
some (w32 (v24 - 7), s20)) fun (y26 : Int) s27 =>
bnd (fX12_emits y19 y26 s27) fun r29 s30 =>
bnd (fX12_reads s30) fun r32 s33 =>
some (0, s33)
def fX12_readProduct  (s0 : St) : Rs Int :=
bnd (fX12_readUnit s0) fun r1 s2 =>
if r1 = (-1) then (
some ((-1), s2))
else
bnx (itr FUEL (fun (x4 : Unit) s5 =>
bnd (fX12_isSign 42 s5) fun r7 s8 =>
bnx (
if r7 = 0 then (
bnd (fX12_isSign 47 s8) fun r10 s11 =>
if r10 = 0 then (
some (.inr (.inr (.inr 0)), s11))
else
some (.inl (), s11))
else
some (.inl (), s8)) fun (y13 : Unit) s14 =>
bnd (fX12_isSign 42 s14) fun r16 s17 =>
bnd (fX12_reads s17) fun r19 s20 =>
bnx (
if r16 = 0 then (
fld s20 0 16 fun v22 =>
if v22 = 3 then (
some (.inl (), s20))
else
some (.inr (.inr (.inl ())), s20))
else
some (.inl (), s20)) fun (y24 : Unit) s25 =>
bnx (
if r16 = 0 then (
fld s25 0 17 fun v27 =>
if v27 = 0 then (
bnd (fX12_errs 2 s25) fun r29 s30 =>
some (.inr (.inr (.inr r29)), s30))
else
some (.inl (), s25))
else
some (.inl (), s25)) fun (y32 : Unit) s33 =>
bnd (fX12_readUnit s33) fun r35 s36 =>
if r35 = (-1) then (
some (.inr (.inr (-1)), s36))
else
bnd (
if r16 = 0 then (
some (5, s36))
else
some (4, s36)) fun (y38 : Int) s39 =>
bnd (fX12_emits y38 0 s39) fun r41 s42 =>
some (.inl (), s42)) () s2) fun (y44 : Unit) s45 =>
bnd (fX12_errs 1 s45) fun r47 s48 =>
some (r47, s48)
def fX12_readSum  (s0 : St) : Rs Int :=
bnd (fX12_readProduct s0) fun r1 s2 =>
if r1 = (-1) then (
some ((-1), s2))
else
bnx (itr FUEL (fun (x4 : Unit) s5 =>
bnd (fX12_isSign 43 s5) fun r7 s8 =>
bnx (
if r7 = 0 then (
bnd (fX12_isSign 45 s8) fun r10 s11 =>
if r10 = 0 then (
some (.inr (.inr (.inr 0)), s11))
else
some (.inl (), s11))
else
some (.inl (), s8)) fun (y13 : Unit) s14 =>
fld s14 0 17 fun v16 =>
bnd (
if v16 = 43 then (
some (2, s14))
else
some (3, s14)) fun (y18 : Int) s19 =>
bnd (fX12_reads s19) fun r21 s22 =>
bnd (fX12_readProduct s22) fun r24 s25 =>
if r24 = (-1) then (
some (.inr (.inl ()), s25))
else
bnd (fX12_emits y18 0 s25) fun r27 s28 =>
some (.inl (), s28)) () s2) fun (y30 : Unit) s31 =>
some ((-1), s31)
def fX12_readCompared  (s0 : St) : Rs Int :=
bnd (fX12_readSum s0) fun r1 s2 =>
if r1 = (-1) then (
some ((-1), s2))
else
bnd (fX12_isSign 60 s2) fun r4 s5 =>
bnx (
if r4 = 0 then (
bnd (fX12_isSign 61 s5) fun r7 s8 =>
if r7 = 0 then (
bnd (fX12_isSign 62 s8) fun r10 s11 =>
if r10 = 0 then (
bnd (fX12_errs 1 s11) fun r13 s14 =>
some (.inr r13, s14))
else
some (.inl (), s11))
else
some (.inl (), s8))
else
some (.inl (), s5)) fun (y16 : Unit) s17 =>
fld s17 0 17 fun v19 =>
bnd (
if v19 = 60 then (
some (6, s17))
else
fld s17 0 17 fun v21 =>
if v21 = 61 then (
some (7, s17))
else
some (8, s17)) fun (y23 : Int) s24 =>
bnd (fX12_reads s24) fun r26 s27 =>
bnd (fX12_readSum s27) fun r29 s30 =>
if r29 = (-1) then (
some ((-1), s30))
else
bnd (fX12_emits y23 0 s30) fun r32 s33 =>
some (0, s33)
def fX12_readAny  (s0 : St) : Rs Int :=
put s0 0 30 0 fun s1 =>
bnx (itr FUEL (fun (x2 : Int × Int) s3 =>
if x2.2 = 0 then (
bnd (fX12_isWord 5 s3) fun r5 s6 =>
if r5 = 0 then (
bnd (fX12_isWord 4 s6) fun r8 s9 =>
if r8 = 0 then (
bnd (fX12_settles 10 s9) fun r11 s12 =>
bnd (fX12_settles 11 s12) fun r14 s15 =>
if x2.1 = 0 then (
some (.inr (.inr 0), s15))
else
bnd (fX12_isSign 41 s15) fun r17 s18 =>
if r17 = 0 then (
bnd (fX12_errs 1 s18) fun r34 s35 =>
some (.inr (.inr r34), s35))
else
fld s18 0 30 fun v20 =>
put s18 0 30 (w32 (v20 - 1)) fun s22 =>
lb (w32 (x2.1 - 1)) fun v23 =>
fld s22 0 28 fun v25 =>
put s22 0 28 (w32 (v25 - 1)) fun s27 =>
bnd (fX12_settles 9 s27) fun r28 s29 =>
bnd (fX12_reads s29) fun r31 s32 =>
some (.inl (v23, x2.2), s32))
else
bnd (fX12_settles 10 s9) fun r37 s38 =>
bnd (fX12_settles 11 s38) fun r40 s41 =>
bnd (fX12_waits 11 s41) fun r43 s44 =>
bnd (fX12_reads s44) fun r46 s47 =>
some (.inl (x2.1, 1), s47))
else
bnd (fX12_settles 10 s6) fun r49 s50 =>
bnd (fX12_waits 10 s50) fun r52 s53 =>
bnd (fX12_reads s53) fun r55 s56 =>
some (.inl (x2.1, 1), s56))
else
bnd (fX12_isWord 6 s3) fun r58 s59 =>
bnx (
if r58 = 0 then (
bnd (fX12_isSign 40 s59) fun r61 s62 =>
if r61 = 0 then (
bnd (fX12_readCompared s62) fun r64 s65 =>
if r64 = (-1) then (
some (.inr (.inr (.inr (-1))), s65))
else
bnd (fX12_settles 9 s65) fun r67 s68 =>
some (.inr (.inl (x2.1, 0)), s68))
else
some (.inl x2.2, s62))
else
some (.inl x2.2, s59)) fun (y70 : Int) s71 =>
fld s71 0 28 fun v73 =>
if v73 = 8 then (
some (.inr (.inl ()), s71))
else
fld s71 0 28 fun v75 =>
put s71 0 28 (w32 (v75 + 1)) fun s77 =>
bnd (
if r58 = 0 then (
lb (w32 (x2.1 + 1)) fun v78 =>
some (v78, s77))
else
some (x2.1, s77)) fun (y80 : Int) s81 =>
bnd (
if r58 = 0 then (
some (12, s81))
else
some (9, s81)) fun (y83 : Int) s84 =>
bnd (fX12_waits y83 s84) fun r86 s87 =>
bnd (fX12_reads s87) fun r89 s90 =>
some (.inl (y80, y70), s90)) (0, 1) s1) fun (y92 : Unit) s93 =>
bnd (fX12_errs 3 s93) fun r95 s96 =>
some (r95, s96)
def fX12_readNumber (p1 : Int) (p2 : Int) (s0 : St) : Rs Int :=
fld s0 0 16 fun v1 =>
if v1 = 3 then (
fld s0 0 17 fun v3 =>
bnd (fX12_isIn v3 p1 p2 s0) fun r5 s6 =>
if r5 = 0 then (
bnd (fX12_errs 2 s6) fun r13 s14 =>
some (r13, s14))
else
fld s6 0 17 fun v8 =>
bnd (fX12_reads s6) fun r10 s11 =>
some (v8, s11))
else
bnd (fX12_errs 1 s0) fun r16 s17 =>
some (r16, s17)
def fX12_readTold (p1 : Int) (p2 : Int) (p3 : Int) (s0 : St) : Rs Int :=
bnd (fX12_isWord p1 s0) fun r1 s2 =>
if r1 = 0 then (
bnd (fX12_errs 1 s2) fun r10 s11 =>
some (r10, s11))
else
bnd (fX12_reads s2) fun r4 s5 =>
bnd (fX12_readNumber p2 p3 s5) fun r7 s8 =>
some (r7, s8)
def fX12_readMark (p1 : Int) (s0 : St) : Rs Int :=
bnd (fX12_isSign p1 s0) fun r1 s2 =>
if r1 = 0 then (
bnd (fX12_errs 1 s2) fun r7 s8 =>
some (r7, s8))
else
bnd (fX12_reads s2) fun r4 s5 =>
some (0, s5)
def fX12_readCall (p1 : Int) (s0 : St) : Rs Int :=
fld s0 0 7 fun v1 =>
bnd (fX12_readTold 17 0 (w32 (v1 - 1)) s0) fun r3 s4 =>
sto s4 18 128 p1 r3 fun s6 =>
lod s6 18 128 p1 fun v7 =>
if v7 = (-1) then (
some ((-1), s6))
else
bnd (fX12_readTold 18 0 59 s6) fun r9 s10 =>
sto s10 18 128 (w32 (p1 + 1)) r9 fun s12 =>
lod s12 18 128 (w32 (p1 + 1)) fun v13 =>
if v13 = (-1) then (
some ((-1), s12))
else
fld s12 0 6 fun v15 =>
bnd (fX12_readTold 19 0 (w32 (v15 - 1)) s12) fun r17 s18 =>
sto s18 18 128 (w32 (p1 + 2)) r17 fun s20 =>
lod s20 18 128 (w32 (p1 + 2)) fun v21 =>
if v21 = (-1) then (
some ((-1), s20))
else
bnd (fX12_readTold 20 1 60 s20) fun r23 s24 =>
sto s24 18 128 (w32 (p1 + 3)) r23 fun s26 =>
lod s26 18 128 (w32 (p1 + 3)) fun v27 =>
if v27 = (-1) then (
some ((-1), s26))
else
bnd (fX12_readMark 59 s26) fun r29 s30 =>
some (r29, s30)
def fX12_readCalls  (s0 : St) : Rs Int :=
bnx (itr FUEL (fun (x1 : Int) s2 =>
bnd (fX12_isWord 17 s2) fun r4 s5 =>
if r4 = 0 then (
some (.inr (.inl x1), s5))
else
if x1 = 16 then (
bnd (fX12_errs 3 s5) fun r12 s13 =>
some (.inr (.inr r12), s13))
else
bnd (fX12_readCall (w32 (64 + w32 (4 * x1))) s5) fun r7 s8 =>
if r7 = (-1) then (
some (.inr (.inr (-1)), s8))
else
lb (w32 (x1 + 1)) fun v10 =>
some (.inl v10, s8)) 0 s0) fun (y15 : Int) s16 =>
fld s16 0 16 fun v18 =>
if v18 = 0 then (
some (y15, s16))
else
bnd (fX12_errs 1 s16) fun r20 s21 =>
some (r20, s21)
def fX12_readDeed (p1 : Int) (s0 : St) : Rs Int :=
bnd (fX12_readTold 21 0 999 s0) fun r1 s2 =>
sto s2 19 128 p1 r1 fun s4 =>
lod s4 19 128 p1 fun v5 =>
if v5 = (-1) then (
some ((-1), s4))
else
fld s4 0 16 fun v7 =>
bnx (
if v7 = 2 then (
fld s4 0 17 fun v9 =>
bnd (fX12_isIn v9 22 25 s4) fun r11 s12 =>
if r11 = 0 then (
some (.inl (), s12))
else
fld s12 0 17 fun v14 =>
lb (w32 (v14 - 22)) fun v16 =>
bnd (fX12_reads s12) fun r18 s19 =>
sto s19 19 128 (w32 (p1 + 1)) v16 fun s21 =>
bnd (
if v16 = 2 then (
some (59, s21))
else
fld s21 0 6 fun v22 =>
some (w32 (v22 - 1), s21)) fun (y24 : Int) s25 =>
bnd (fX12_readNumber 0 y24 s25) fun r27 s28 =>
sto s28 19 128 (w32 (p1 + 2)) r27 fun s30 =>
lod s30 19 128 (w32 (p1 + 2)) fun v31 =>
if v31 = (-1) then (
some (.inr (-1), s30))
else
bnd (
if v16 = 0 then (
bnd (fX12_readNumber 0 99 s30) fun r38 s39 =>
some (r38, s39))
else
if v16 = 3 then (
fld s30 0 7 fun v33 =>
bnd (fX12_readNumber 0 (w32 (v33 - 1)) s30) fun r35 s36 =>
some (r35, s36))
else
some (0, s30)) fun (y41 : Int) s42 =>
sto s42 19 128 (w32 (p1 + 3)) y41 fun s44 =>
lod s44 19 128 (w32 (p1 + 3)) fun v45 =>
if v45 = (-1) then (
some (.inr (-1), s44))
else
bnd (fX12_readMark 59 s44) fun r47 s48 =>
some (.inr r47, s48))
else
some (.inl (), s4)) fun (y50 : Unit) s51 =>
bnd (fX12_errs 1 s51) fun r53 s54 =>
some (r53, s54)
def fX12_readEvenings  (s0 : St) : Rs Int :=
bnx (itr FUEL (fun (x1 : Int) s2 =>
bnd (fX12_isWord 21 s2) fun r4 s5 =>
if r4 = 0 then (
some (.inr (.inl x1), s5))
else
if x1 = 16 then (
bnd (fX12_errs 3 s5) fun r12 s13 =>
some (.inr (.inr r12), s13))
else
bnd (fX12_readDeed (w32 (64 + w32 (4 * x1))) s5) fun r7 s8 =>
if r7 = (-1) then (
some (.inr (.inr (-1)), s8))
else
lb (w32 (x1 + 1)) fun v10 =>
some (.inl v10, s8)) 0 s0) fun (y15 : Int) s16 =>
fld s16 0 16 fun v18 =>
if v18 = 0 then (
some (y15, s16))
else
bnd (fX12_errs 1 s16) fun r20 s21 =>
some (r20, s21)
def fX12_readLaw  (s0 : St) : Rs Int :=
bnx (itr FUEL (fun (x1 : Int) s2 =>
bnd (fX12_isLineWord s2) fun r4 s5 =>
if r4 = 0 then (
some (.inr (.inl x1), s5))
else
if x1 = 16 then (
bnd (fX12_errs 3 s5) fun r50 s51 =>
some (.inr (.inr r50), s51))
else
lb (w32 (32 + x1)) fun v7 =>
fld s5 0 17 fun v9 =>
sto s5 11 48 v7 v9 fun s11 =>
bnd (fX12_reads s11) fun r12 s13 =>
fld s13 0 27 fun v15 =>
sto s13 12 48 v7 v15 fun s17 =>
bnd (fX12_readSum s17) fun r18 s19 =>
if r18 = (-1) then (
some (.inr (.inr (-1)), s19))
else
fld s19 0 27 fun v21 =>
sto s19 13 48 v7 v21 fun s23 =>
bnd (fX12_isWord 3 s23) fun r24 s25 =>
bnx (
if r24 = 0 then (
some (.inl (), s25))
else
bnd (fX12_reads s25) fun r27 s28 =>
bnd (fX12_readAny s28) fun r30 s31 =>
if r30 = (-1) then (
some (.inr (.inr (.inr (-1))), s31))
else
some (.inl (), s31)) fun (y33 : Unit) s34 =>
fld s34 0 27 fun v36 =>
sto s34 14 48 v7 v36 fun s38 =>
bnd (fX12_isSign 59 s38) fun r39 s40 =>
if r39 = 0 then (
bnd (fX12_errs 1 s40) fun r47 s48 =>
some (.inr (.inr r47), s48))
else
bnd (fX12_reads s40) fun r42 s43 =>
lb (w32 (x1 + 1)) fun v45 =>
some (.inl v45, s43)) 0 s0) fun (y53 : Int) s54 =>
fld s54 0 16 fun v56 =>
if v56 = 0 then (
some (y53, s54))
else
bnd (fX12_errs 1 s54) fun r58 s59 =>
some (r58, s59)
def fX12_takesFeet (p1 : Int) (p2 : Int) (s0 : St) : Rs Int :=
lod s0 20 288 p1 fun v1 =>
if v1 = 0 then (
sto s0 20 288 p1 p2 fun s3 =>
some (0, s3))
else
lod s0 20 288 p1 fun v4 =>
if p2 < v4 then (
sto s0 20 288 p1 p2 fun s6 =>
some (0, s6))
else
some (0, s0)
def fX12_readRoad  (s0 : St) : Rs Int :=
fld s0 0 6 fun v1 =>
bnd (fX12_readTold 26 0 (w32 (v1 - 1)) s0) fun r3 s4 =>
if r3 = (-1) then (
some ((-1), s4))
else
bnd (fX12_isWord 27 s4) fun r6 s7 =>
if r6 = 0 then (
bnd (fX12_errs 1 s7) fun r39 s40 =>
some (r39, s40))
else
bnd (fX12_reads s7) fun r9 s10 =>
fld s10 0 16 fun v12 =>
bnx (
if v12 = 3 then (
fld s10 0 17 fun v14 =>
if v14 = r3 then (
bnd (fX12_errs 2 s10) fun r16 s17 =>
some (.inr r16, s17))
else
some (.inl (), s10))
else
some (.inl (), s10)) fun (y19 : Unit) s20 =>
fld s20 0 6 fun v22 =>
bnd (fX12_readNumber 0 (w32 (v22 - 1)) s20) fun r24 s25 =>
if r24 = (-1) then (
some ((-1), s25))
else
bnd (fX12_readNumber 1 99 s25) fun r27 s28 =>
if r27 = (-1) then (
some ((-1), s28))
else
bnd (fX12_takesFeet (w32 (w32 (144 + w32 (12 * r3)) + r24)) r27 s28) fun r30 s31 =>
bnd (fX12_takesFeet (w32 (w32 (144 + w32 (12 * r24)) + r3)) r27 s31) fun r33 s34 =>
bnd (fX12_readMark 59 s34) fun r36 s37 =>
some (r36, s37)
def fX12_readStreet  (s0 : St) : Rs Int :=
bnd (itr FUEL (fun (x1 : Int) s2 =>
if x1 < 144 then (
sto s2 20 288 (w32 (144 + x1)) 0 fun s4 =>
some (.inl (w32 (x1 + 1)), s4))
else
some (.inr (), s2)) 0 s0) fun (y5 : Unit) s6 =>
bnx (itr FUEL (fun (x8 : Int) s9 =>
bnd (fX12_isWord 26 s9) fun r11 s12 =>
if r11 = 0 then (
some (.inr (.inl x8), s12))
else
if x8 = 16 then (
bnd (fX12_errs 3 s12) fun r19 s20 =>
some (.inr (.inr r19), s20))
else
bnd (fX12_readRoad s12) fun r14 s15 =>
if r14 = (-1) then (
some (.inr (.inr (-1)), s15))
else
lb (w32 (x8 + 1)) fun v17 =>
some (.inl v17, s15)) 0 s6) fun (y22 : Int) s23 =>
fld s23 0 16 fun v25 =>
if v25 = 0 then (
some (y22, s23))
else
bnd (fX12_errs 1 s23) fun r27 s28 =>
some (r27, s28)
def fX12_readsText (p1 : Int) (s0 : St) : Rs Int :=
put s0 0 26 0 fun s1 =>
bnd (fX12_reads s1) fun r2 s3 =>
if p1 = 1 then (
bnd (fX12_readCalls s3) fun r14 s15 =>
some (r14, s15))
else
if p1 = 2 then (
bnd (fX12_readEvenings s3) fun r11 s12 =>
some (r11, s12))
else
if p1 = 3 then (
bnd (fX12_readStreet s3) fun r8 s9 =>
some (r8, s9))
else
bnd (fX12_readLaw s3) fun r5 s6 =>
some (r5, s6)
def fX12_reply (p1 : Int) (p2 : Int) (p3 : Int) (s0 : St) : Rs Int :=
put s0 0 0 0 fun s1 =>
bnd (fX12_isIn p1 0 7 s1) fun r2 s3 =>
if r2 = 0 then (
some ((-1), s3))
else
bnd (fX12_isIn p2 0 99 s3) fun r5 s6 =>
if r5 = 0 then (
some ((-1), s6))
else
bnd (fX12_isIn p3 0 7 s6) fun r8 s9 =>
if r8 = 0 then (
some ((-1), s9))
else
bnd (itr FUEL (fun (x11 : Int) s12 =>
if x11 < 8 then (
if x11 = p1 then (
sto s12 35 8 x11 p2 fun s15 =>
some (.inl (w32 (x11 + 1)), s15))
else
sto s12 35 8 x11 100000000 fun s14 =>
some (.inl (w32 (x11 + 1)), s14))
else
some (.inr (), s12)) 0 s9) fun (y16 : Unit) s17 =>
bnd (itr FUEL (fun (x19 : Int) s20 =>
fld s20 0 52 fun v22 =>
if x19 < v22 then (
bnd (itr FUEL (fun (x24 : Int) s25 =>
fld s25 0 52 fun v27 =>
if x24 < v27 then (
lod s25 31 12 x24 fun v29 =>
lod s25 35 8 v29 fun v31 =>
lod s25 33 12 x24 fun v33 =>
if v33 < v31 then (
some (.inl (w32 (x24 + 1)), s25))
else
lod s25 32 12 x24 fun v35 =>
lod s25 32 12 x24 fun v37 =>
lod s25 35 8 v37 fun v39 =>
lod s25 34 12 x24 fun v41 =>
bnd (fX12_lesser v39 v41 s25) fun r43 s44 =>
sto s44 35 8 v35 r43 fun s46 =>
some (.inl (w32 (x24 + 1)), s46))
else
some (.inr (), s25)) 0 s20) fun (y47 : Unit) s48 =>
some (.inl (w32 (x19 + 1)), s48))
else
some (.inr (), s20)) 0 s17) fun (y50 : Unit) s51 =>
lod s51 35 8 p3 fun v53 =>
if v53 = 100000000 then (
some ((-1), s51))
else
lod s51 35 8 p3 fun v55 =>
some (v55, s51)
def fX12_rocks (p1 : Int) (s0 : St) : Rs Int :=
put s0 0 0 0 fun s1 =>
bnd (fX12_isIn p1 0 1 s1) fun r2 s3 =>
if r2 = 0 then (
some ((-1), s3))
else
if p1 = 0 then (
bnx (itr FUEL (fun (x17 : Int) s18 =>
if 9999 < x17 then (
some (.inr (.inr (-1)), s18))
else
bnd (fX12_forwardAt x17 s18) fun r20 s21 =>
fld s21 0 49 fun v23 =>
if r20 = v23 then (
some (.inr (.inl x17), s21))
else
some (.inl (w32 (x17 + 1)), s21)) 0 s3) fun (y25 : Int) s26 =>
some (y25, s26))
else
bnd (itr FUEL (fun (x5 : Int × Int) s6 =>
if 99 < x5.2 then (
some (.inr x5.1, s6))
else
bnd (fX12_forwardAt x5.2 s6) fun r8 s9 =>
bnd (fX12_greater x5.1 r8 s9) fun r11 s12 =>
some (.inl (r11, w32 (x5.2 + 1)), s12)) (0, 0) s3) fun (y14 : Int) s15 =>
some (y14, s15)
def fX12_seated (p1 : Int) (p2 : Int) (s0 : St) : Rs Int :=
put s0 0 0 0 fun s1 =>
bnd (fX12_isIn p1 1 8 s1) fun r2 s3 =>
if r2 = 0 then (
some ((-1), s3))
else
bnd (fX12_isIn p2 0 1 s3) fun r5 s6 =>
if r5 = 0 then (
some ((-1), s6))
else
bnd (itr FUEL (fun (x8 : Int) s9 =>
if x8 < 2048 then (
sto s9 47 2048 x8 0 fun s11 =>
some (.inl (w32 (x8 + 1)), s11))
else
some (.inr (), s9)) 0 s6) fun (y12 : Unit) s13 =>
bnd (itr FUEL (fun (x15 : Int) s16 =>
if x15 < p1 then (
bnx (
if p2 = 0 then (
some (.inl x15, s16))
else
if x15 = 0 then (
some (.inl x15, s16))
else
some (.inr (.inl (w32 (x15 + 1))), s16)) fun (y18 : Int) s19 =>
sto s19 47 2048 (w32 (w32 (8 * ishl 1 y18) + y18)) 1 fun s21 =>
some (.inl (w32 (y18 + 1)), s21))
else
some (.inr (), s16)) 0 s13) fun (y22 : Unit) s23 =>
bnd (itr FUEL (fun (x25 : Int) s26 =>
if x25 < ishl 1 p1 then (
bnd (itr FUEL (fun (x28 : Int) s29 =>
if x28 < p1 then (
bnd (itr FUEL (fun (x31 : Int) s32 =>
if x31 < p1 then (
bnd (fX12_has x25 x31 s32) fun r34 s35 =>
if r34 = 0 then (
lod s35 46 8 x28 fun v37 =>
bnd (fX12_has v37 x31 s35) fun r39 s40 =>
if r39 = 0 then (
lod s40 47 2048 (w32 (w32 (8 * ior x25 (ishl 1 x31)) + x31)) fun v42 =>
lod s40 47 2048 (w32 (w32 (8 * x25) + x28)) fun v44 =>
sto s40 47 2048 (w32 (w32 (8 * ior x25 (ishl 1 x31)) + x31)) (w32 (v42 + v44)) fun s46 =>
some (.inl (w32 (x31 + 1)), s46))
else
some (.inl (w32 (x31 + 1)), s40))
else
some (.inl (w32 (x31 + 1)), s35))
else
some (.inr (), s32)) 0 s29) fun (y47 : Unit) s48 =>
some (.inl (w32 (x28 + 1)), s48))
else
some (.inr (), s29)) 0 s26) fun (y50 : Unit) s51 =>
some (.inl (w32 (x25 + 1)), s51))
else
some (.inr (), s26)) 1 s23) fun (y53 : Unit) s54 =>
bnd (itr FUEL (fun (x56 : Int × Int) s57 =>
if x56.2 < p1 then (
bnx (
if p2 = 0 then (
some (.inl x56.2, s57))
else
lod s57 46 8 x56.2 fun v59 =>
bnd (fX12_has v59 0 s57) fun r61 s62 =>
if r61 = 0 then (
some (.inl x56.2, s62))
else
some (.inr (.inl (x56.1, w32 (x56.2 + 1))), s62)) fun (y64 : Int) s65 =>
lod s65 47 2048 (w32 (w32 (8 * w32 (ishl 1 p1 - 1)) + y64)) fun v67 =>
lb (w32 (x56.1 + v67)) fun v69 =>
some (.inl (v69, w32 (y64 + 1)), s65))
else
some (.inr x56.1, s57)) (0, 0) s54) fun (y71 : Int) s72 =>
some (y71, s72)
def fX12_set (p1 : Int) (p2 : Int) (p3 : Int) (s0 : St) : Rs Int :=
put s0 0 0 0 fun s1 =>
bnd (fX12_canSet p1 p2 p3 s1) fun r2 s3 =>
if r2 = 0 then (
some (0, s3))
else
bnd (
if p1 = 0 then (
sto s3 1 161 (w32 (17 + p2)) p3 fun s5 =>
some ((), s5))
else
some ((), s3)) fun (y6 : Unit) s7 =>
bnd (
if p1 = 1 then (
sto s7 1 161 (w32 (29 + p2)) (w32 (p3 + 1)) fun s9 =>
some ((), s9))
else
some ((), s7)) fun (y10 : Unit) s11 =>
bnd (
if p1 = 2 then (
sto s11 5 20 p2 p3 fun s13 =>
some ((), s13))
else
some ((), s11)) fun (y14 : Unit) s15 =>
if p1 = 3 then (
sto s15 6 20 p2 p3 fun s18 =>
put s18 0 3 0 fun s19 =>
some (1, s19))
else
put s15 0 3 0 fun s17 =>
some (1, s17)
def fX12_soonest (p1 : Int) (s0 : St) : Rs Int :=
put s0 0 0 0 fun s1 =>
bnd (fX12_isPerson p1 s1) fun r2 s3 =>
if r2 = 0 then (
some ((-1), s3))
else
bnd (fX12_thinks s3) fun r5 s6 =>
bnd (itr FUEL (fun (x8 : Int) s9 =>
if 60 < x8 then (
some (.inr x8, s9))
else
lod s9 1 161 (w32 (141 + p1)) fun v11 =>
if v11 = 0 then (
bnd (fX12_goesBy s9) fun r13 s14 =>
lb (w32 (x8 + 1)) fun v16 =>
some (.inl v16, s14))
else
some (.inr x8, s9)) 0 s6) fun (y18 : Int) s19 =>
bnd (fX12_endsThought s19) fun r21 s22 =>
if 60 < y18 then (
some ((-1), s22))
else
some (y18, s22)
def fX12_state (p1 : Int) (s0 : St) : Rs Int :=
put s0 0 0 0 fun s1 =>
lod s1 1 161 2 fun v2 =>
sto s1 1 161 2 p1 fun s4 =>
put s4 0 3 0 fun s5 =>
some (v2, s5)
def fX12_waysUp (p1 : Int) (p2 : Int) (s0 : St) : Rs Int :=
bnd (itr FUEL (fun (x1 : Int) s2 =>
if p1 < x1 then (
some (.inr (), s2))
else
bnd (
if x1 = 0 then (
some (1, s2))
else
some (0, s2)) fun (y4 : Int) s5 =>
sto s5 49 41 x1 y4 fun s7 =>
bnd (itr FUEL (fun (x8 : Int) s9 =>
if x8 < 6 then (
if x1 < x8 then (
some (.inr (), s9))
else
bnd (fX12_has p2 (w32 (x8 - 1)) s9) fun r11 s12 =>
if r11 = 0 then (
some (.inl (w32 (x8 + 1)), s12))
else
lod s12 49 41 x1 fun v14 =>
lod s12 49 41 (w32 (x1 - x8)) fun v16 =>
bnd (fX12_added v14 v16 s12) fun r18 s19 =>
sto s19 49 41 x1 r18 fun s21 =>
some (.inl (w32 (x8 + 1)), s21))
else
some (.inr (), s9)) 1 s7) fun (y22 : Unit) s23 =>
some (.inl (w32 (x1 + 1)), s23)) 0 s0) fun (y25 : Unit) s26 =>
lod s26 49 41 p1 fun v28 =>
some (v28, s26)
def fX12_steps (p1 : Int) (p2 : Int) (p3 : Int) (s0 : St) : Rs Int :=
put s0 0 0 0 fun s1 =>
bnd (fX12_isIn p1 0 40 s1) fun r2 s3 =>
if r2 = 0 then (
some ((-1), s3))
else
bnd (fX12_isIn p2 0 31 s3) fun r5 s6 =>
if r5 = 0 then (
some ((-1), s6))
else
bnd (fX12_isIn p3 0 1 s6) fun r8 s9 =>
if r8 = 0 then (
some ((-1), s9))
else
bnd (fX12_waysUp p1 p2 s9) fun r11 s12 =>
if p3 = 0 then (
some (r11, s12))
else
if p1 = 0 then (
some (r11, s12))
else
bnd (itr FUEL (fun (x14 : Int × Int) s15 =>
if x14.2 < 6 then (
bnd (fX12_has p2 (w32 (x14.2 - 1)) s15) fun r17 s18 =>
if r17 = 0 then (
some (.inl (x14.1, w32 (x14.2 + 1)), s18))
else
bnd (
if p1 = x14.2 then (
bnd (fX12_added x14.1 1 s18) fun r20 s21 =>
some (r20, s21))
else
some (x14.1, s18)) fun (y23 : Int) s24 =>
if p1 < w32 (2 * x14.2) then (
some (.inl (y23, w32 (x14.2 + 1)), s24))
else
lod s24 49 41 (w32 (p1 - w32 (2 * x14.2))) fun v26 =>
bnd (fX12_added y23 v26 s24) fun r28 s29 =>
some (.inl (r28, w32 (x14.2 + 1)), s29))
else
some (.inr x14.1, s15)) (0, 1) s12) fun (y31 : Int) s32 =>
some (y31, s32)
def fX12_storm (p1 : Int) (p2 : Int) (s0 : St) : Rs Int :=
put s0 0 0 0 fun s1 =>
bnd (fX12_isIn p1 1 30 s1) fun r2 s3 =>
if r2 = 0 then (
some ((-1), s3))
else
bnx (
if p2 = (-1) then (
some (.inl (), s3))
else
bnd (fX12_isIn p2 1 4 s3) fun r5 s6 =>
if r5 = 0 then (
some (.inr (-1), s6))
else
some (.inl (), s6)) fun (y8 : Unit) s9 =>
if p2 = (-1) then (
bnd (fX12_fewestPorches p1 s9) fun r32 s33 =>
some (r32, s33))
else
bnd (itr FUEL (fun (x11 : Int × Int) s12 =>
fld s12 0 58 fun v14 =>
if x11.2 < v14 then (
lb (w32 (x11.1 * p2)) fun v16 =>
some (.inl (v16, w32 (x11.2 + 1)), s12))
else
some (.inr x11.1, s12)) (1, 0) s9) fun (y18 : Int) s19 =>
bnd (itr FUEL (fun (x21 : Int × Int) s22 =>
if x21.2 < y18 then (
bnd (fX12_isDry x21.2 p1 p2 s22) fun r24 s25 =>
if r24 = 0 then (
some (.inl (x21.1, w32 (x21.2 + 1)), s25))
else
lb (w32 (x21.1 + 1)) fun v27 =>
some (.inl (v27, w32 (x21.2 + 1)), s25))
else
some (.inr x21.1, s22)) (0, 0) s19) fun (y29 : Int) s30 =>
some (y29, s30)
def fX12_swing (p1 : Int) (s0 : St) : Rs Int :=
put s0 0 0 0 fun s1 =>
if p1 = (-1) then (
put s1 0 70 0 fun s15 =>
some (0, s15))
else
bnd (fX12_isIn p1 1 60 s1) fun r2 s3 =>
if r2 = 0 then (
some ((-1), s3))
else
fld s3 0 70 fun v5 =>
if v5 = 8 then (
some ((-1), s3))
else
fld s3 0 70 fun v7 =>
sto s3 45 8 v7 p1 fun s9 =>
fld s9 0 70 fun v10 =>
put s9 0 70 (w32 (v10 + 1)) fun s12 =>
fld s12 0 70 fun v13 =>
some (v13, s12)
def fX12_swings (p1 : Int) (s0 : St) : Rs Int :=
put s0 0 0 0 fun s1 =>
bnd (fX12_isIn p1 0 1 s1) fun r2 s3 =>
if r2 = 0 then (
some ((-1), s3))
else
fld s3 0 70 fun v5 =>
dvc 2 <|
if irm v5 2 = 1 then (
some ((-1), s3))
else
fld s3 0 70 fun v8 =>
if v8 = 0 then (
some (0, s3))
else
bnd (itr FUEL (fun (x10 : Int × Int) s11 =>
fld s11 0 70 fun v13 =>
if x10.2 < ishl 1 v13 then (
bnd (fX12_onesOf x10.2 s11) fun r15 s16 =>
fld s16 0 70 fun v18 =>
if w32 (2 * r15) = v18 then (
if x10.1 = (-1) then (
lb (w32 (x10.2 + 2)) fun v22 =>
some (.inl (x10.2, v22), s16))
else
bnd (fX12_heavierBy x10.2 s16) fun r24 s25 =>
bnd (fX12_heavierBy x10.1 s25) fun r27 s28 =>
if r24 < r27 then (
lb (w32 (x10.2 + 2)) fun v32 =>
some (.inl (x10.2, v32), s28))
else
lb (w32 (x10.2 + 2)) fun v30 =>
some (.inl (x10.1, v30), s28))
else
lb (w32 (x10.2 + 2)) fun v20 =>
some (.inl (x10.1, v20), s16))
else
some (.inr x10.1, s11)) ((-1), 1) s3) fun (y34 : Int) s35 =>
if p1 = 0 then (
bnd (fX12_heavierBy y34 s35) fun r37 s38 =>
some (r37, s38))
else
some (y34, s35)
def fX12_takesLaw (p1 : Int) (s0 : St) : Rs Int :=
bnd (itr FUEL (fun (x1 : Int) s2 =>
if x1 < p1 then (
fld s2 0 26 fun v4 =>
lod s2 11 48 (w32 (32 + x1)) fun v6 =>
sto s2 11 48 (w32 (w32 (16 * v4) + x1)) v6 fun s8 =>
fld s8 0 26 fun v9 =>
lod s8 12 48 (w32 (32 + x1)) fun v11 =>
sto s8 12 48 (w32 (w32 (16 * v9) + x1)) v11 fun s13 =>
fld s13 0 26 fun v14 =>
lod s13 13 48 (w32 (32 + x1)) fun v16 =>
sto s13 13 48 (w32 (w32 (16 * v14) + x1)) v16 fun s18 =>
fld s18 0 26 fun v19 =>
lod s18 14 48 (w32 (32 + x1)) fun v21 =>
sto s18 14 48 (w32 (w32 (16 * v19) + x1)) v21 fun s23 =>
some (.inl (w32 (x1 + 1)), s23))
else
some (.inr (), s2)) 0 s0) fun (y24 : Unit) s25 =>
bnd (itr FUEL (fun (x27 : Int) s28 =>
fld s28 0 27 fun v30 =>
if x27 < v30 then (
fld s28 0 26 fun v32 =>
lod s28 15 1200 (w32 (800 + x27)) fun v34 =>
sto s28 15 1200 (w32 (w32 (400 * v32) + x27)) v34 fun s36 =>
fld s36 0 26 fun v37 =>
lod s36 16 1200 (w32 (800 + x27)) fun v39 =>
sto s36 16 1200 (w32 (w32 (400 * v37) + x27)) v39 fun s41 =>
some (.inl (w32 (x27 + 1)), s41))
else
some (.inr (), s28)) 0 s25) fun (y42 : Unit) s43 =>
fld s43 0 26 fun v45 =>
sto s43 10 2 v45 p1 fun s47 =>
some (0, s47)
def fX12_takesOther (p1 : Int) (p2 : Int) (s0 : St) : Rs Int :=
if p1 = 3 then (
bnd (itr FUEL (fun (x23 : Int) s24 =>
if x23 < 144 then (
lod s24 20 288 (w32 (144 + x23)) fun v26 =>
sto s24 20 288 x23 v26 fun s28 =>
some (.inl (w32 (x23 + 1)), s28))
else
some (.inr (), s24)) 0 s0) fun (y29 : Unit) s30 =>
put s30 0 39 p2 fun s32 =>
some (0, s32))
else
if p1 = 1 then (
bnd (itr FUEL (fun (x12 : Int) s13 =>
if x12 < w32 (4 * p2) then (
lod s13 18 128 (w32 (64 + x12)) fun v15 =>
sto s13 18 128 x12 v15 fun s17 =>
some (.inl (w32 (x12 + 1)), s17))
else
some (.inr (), s13)) 0 s0) fun (y18 : Unit) s19 =>
put s19 0 35 p2 fun s21 =>
put s21 0 3 0 fun s22 =>
some (0, s22))
else
bnd (itr FUEL (fun (x1 : Int) s2 =>
if x1 < w32 (4 * p2) then (
lod s2 19 128 (w32 (64 + x1)) fun v4 =>
sto s2 19 128 x1 v4 fun s6 =>
some (.inl (w32 (x1 + 1)), s6))
else
some (.inr (), s2)) 0 s0) fun (y7 : Unit) s8 =>
put s8 0 37 p2 fun s10 =>
put s10 0 3 0 fun s11 =>
some (0, s11)
def fX12_talk (p1 : Int) (s0 : St) : Rs Int :=
put s0 0 0 0 fun s1 =>
if p1 = (-1) then (
put s1 0 64 0 fun s15 =>
some (0, s15))
else
bnd (fX12_isIn p1 0 2 s1) fun r2 s3 =>
if r2 = 0 then (
some ((-1), s3))
else
fld s3 0 64 fun v5 =>
if v5 = 24 then (
some ((-1), s3))
else
fld s3 0 64 fun v7 =>
sto s3 40 24 v7 p1 fun s9 =>
fld s9 0 64 fun v10 =>
put s9 0 64 (w32 (v10 + 1)) fun s12 =>
fld s12 0 64 fun v13 =>
some (v13, s12)
def fX12_talkGoes (p1 : Int) (s0 : St) : Rs Int :=
bnx (itr FUEL (fun (x1 : Int × Int × Int) s2 =>
fld s2 0 64 fun v4 =>
if x1.2.2 < v4 then (
lod s2 40 24 x1.2.2 fun v6 =>
bnd (
if v6 = 1 then (
lb (w32 (x1.1 + 1)) fun v8 =>
some (v8, s2))
else
some (x1.1, s2)) fun (y10 : Int) s11 =>
lod s11 40 24 x1.2.2 fun v13 =>
bnx (
if v13 = 2 then (
if y10 = 0 then (
if p1 = 0 then (
some (.inl (), s11))
else
some (.inr (.inr (.inl x1.2.2)), s11))
else
some (.inl (), s11))
else
some (.inl (), s11)) fun (y15 : Unit) s16 =>
lod s16 40 24 x1.2.2 fun v18 =>
bnd (
if v18 = 2 then (
if 0 < y10 then (
lb (w32 (y10 - 1)) fun v20 =>
some (v20, s16))
else
some (y10, s16))
else
some (y10, s16)) fun (y22 : Int) s23 =>
bnd (fX12_greater x1.2.1 y22 s23) fun r25 s26 =>
some (.inl (y22, r25, w32 (x1.2.2 + 1)), s26))
else
if p1 = 0 then (
some (.inr (.inr x1.2.1), s2))
else
some (.inr (.inr (-1)), s2)) (0, 0, 0) s0) fun (y28 : Int) s29 =>
some (y28, s29)
def fX12_talks (p1 : Int) (s0 : St) : Rs Int :=
put s0 0 0 0 fun s1 =>
bnd (fX12_isIn p1 0 1 s1) fun r2 s3 =>
if r2 = 0 then (
bnd (fX12_isIn p1 10 25 s3) fun r5 s6 =>
if r5 = 0 then (
some ((-1), s6))
else
bnd (itr FUEL (fun (x8 : Int) s9 =>
if w32 (p1 - 10) < x8 then (
some (.inr (), s9))
else
bnd (
if x8 = 0 then (
some (1, s9))
else
some (0, s9)) fun (y11 : Int) s12 =>
sto s12 41 16 x8 y11 fun s14 =>
bnd (itr FUEL (fun (x15 : Int) s16 =>
if x15 < x8 then (
lod s16 41 16 x8 fun v18 =>
lod s16 41 16 x15 fun v20 =>
lod s16 41 16 (w32 (w32 (x8 - 1) - x15)) fun v22 =>
sto s16 41 16 x8 (w32 (v18 + w32 (v20 * v22))) fun s24 =>
some (.inl (w32 (x15 + 1)), s24))
else
some (.inr (), s16)) 0 s14) fun (y25 : Unit) s26 =>
some (.inl (w32 (x8 + 1)), s26)) 0 s6) fun (y28 : Unit) s29 =>
lod s29 41 16 (w32 (p1 - 10)) fun v31 =>
some (v31, s29))
else
bnd (
if p1 = 1 then (
some (1, s3))
else
some (0, s3)) fun (y33 : Int) s34 =>
bnd (fX12_talkGoes y33 s34) fun r36 s37 =>
some (r36, s37)
def fX12_text (p1 : Int) (s0 : St) : Rs Int :=
put s0 0 0 0 fun s1 =>
put s1 0 33 0 fun s2 =>
put s2 0 34 (-1) fun s3 =>
put s3 0 14 0 fun s4 =>
put s4 0 27 0 fun s5 =>
put s5 0 28 0 fun s6 =>
bnd (fX12_isIn p1 0 3 s6) fun r7 s8 =>
bnd (
if r7 = 0 then (
some ((-1), s8))
else
bnd (fX12_readsText p1 s8) fun r10 s11 =>
if r10 = (-1) then (
fld s11 0 31 fun v13 =>
put s11 0 33 v13 fun s15 =>
fld s15 0 32 fun v16 =>
put s15 0 34 v16 fun s18 =>
some (r10, s18))
else
some (r10, s11)) fun (y19 : Int) s20 =>
put s20 0 13 0 fun s22 =>
if y19 = (-1) then (
some ((-1), s22))
else
if p1 = 0 then (
bnd (fX12_takesLaw y19 s22) fun r26 s27 =>
some (y19, s27))
else
bnd (fX12_takesOther p1 y19 s22) fun r23 s24 =>
some (y19, s24)
def fX12_undo  (s0 : St) : Rs Int :=
put s0 0 0 0 fun s1 =>
fld s1 0 3 fun v2 =>
if v2 = 0 then (
some (0, s1))
else
fld s1 0 3 fun v4 =>
put s1 0 3 (w32 (v4 - 1)) fun s6 =>
bnd (itr FUEL (fun (x7 : Int) s8 =>
if x7 < 161 then (
fld s8 0 3 fun v10 =>
lod s8 2 966 (w32 (w32 (161 * v10) + x7)) fun v12 =>
sto s8 1 161 x7 v12 fun s14 =>
some (.inl (w32 (x7 + 1)), s14))
else
some (.inr (), s8)) 0 s6) fun (y15 : Unit) s16 =>
some (1, s16)
def fX12_wishes (p1 : Int) (p2 : Int) (p3 : Int) (s0 : St) : Rs Int :=
put s0 0 0 0 fun s1 =>
bnd (fX12_isIn p1 0 1 s1) fun r2 s3 =>
if r2 = 0 then (
some (0, s3))
else
bnd (fX12_isIn p2 0 4 s3) fun r5 s6 =>
if r5 = 0 then (
some (0, s6))
else
bnd (fX12_isIn p3 0 43210 s6) fun r8 s9 =>
if r8 = 0 then (
some (0, s9))
else
bnx (itr FUEL (fun (x11 : Int × Int × Int) s12 =>
if x11.2.2 < 5 then (
dvc 10 <|
if 4 < irm x11.2.1 10 then (
some (.inr (.inr 0), s12))
else
dvc 10 <|
lb (ior x11.1 (ishl 1 (irm x11.2.1 10))) fun v16 =>
dvc 10 <|
lb (idv x11.2.1 10) fun v19 =>
some (.inl (v16, v19, w32 (x11.2.2 + 1)), s12))
else
some (.inr (.inl x11.1), s12)) (0, p3, 0) s9) fun (y21 : Int) s22 =>
if y21 = 31 then (
sto s22 23 10 (w32 (w32 (5 * p1) + p2)) (w32 (p3 - 1234)) fun s24 =>
some (1, s24))
else
some (0, s22)
