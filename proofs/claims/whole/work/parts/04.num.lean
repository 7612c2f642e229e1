/-! numbers: the ints of the machine as whole numbers in their bounds -/
def pI (x : Int) : Int32 := Int32.ofInt x
def pJ (x : Int) : Int64 := Int64.ofInt x
def rg (x : Int) : Prop := -2147483648 ≤ x ∧ x ≤ 2147483647
def rl (x : Int) : Prop := -9223372036854775808 ≤ x ∧ x ≤ 9223372036854775807
def r01 (x : Int) : Prop := x = 0 ∨ x = 1
def w32 (x : Int) : Int := (x + 2147483648) % 4294967296 - 2147483648
def w64 (x : Int) : Int := (x + 9223372036854775808) % 18446744073709551616 - 9223372036854775808
theorem w32_rg (x : Int) : rg (w32 x) := by unfold rg w32; omega
theorem w64_rl (x : Int) : rl (w64 x) := by unfold rl w64; omega
theorem w32_id {x : Int} (h : rg x) : w32 x = x := by unfold rg at h; unfold w32; omega
theorem w64_id {x : Int} (h : rl x) : w64 x = x := by unfold rl at h; unfold w64; omega
theorem r01_rg {x : Int} (h : r01 x) : rg x := by unfold r01 at h; unfold rg; omega
theorem rg_rl {x : Int} (h : rg x) : rl x := by unfold rg at h; unfold rl; omega
theorem bm32 (x : Int) : x.bmod 4294967296 = (x + 2147483648) % 4294967296 - 2147483648 := by
  dsimp only [Int.bmod]
  split <;> omega
theorem bm64 (x : Int) : x.bmod 18446744073709551616 = (x + 9223372036854775808) % 18446744073709551616 - 9223372036854775808 := by
  dsimp only [Int.bmod]
  split <;> omega
theorem pI_w32 (x : Int) : pI (w32 x) = pI x := by
  unfold pI w32
  apply Int32.toInt_inj.mp
  rw [Int32.toInt_ofInt, Int32.toInt_ofInt]
  simp only [Int32.size]
  rw [bm32, bm32]
  omega
theorem pJ_w64 (x : Int) : pJ (w64 x) = pJ x := by
  unfold pJ w64
  apply Int64.toInt_inj.mp
  rw [Int64.toInt_ofInt, Int64.toInt_ofInt]
  simp only [Int64.size]
  rw [bm64, bm64]
  omega
theorem pI_int {x : Int} (h : rg x) : (pI x).toInt = x := Int32.toInt_ofInt_of_le (by unfold rg at h; omega) (by unfold rg at h; omega)
theorem pJ_int {x : Int} (h : rl x) : (pJ x).toInt = x := Int64.toInt_ofInt_of_le (by unfold rl at h; omega) (by unfold rl at h; omega)
theorem pI_of (x : Int32) : pI x.toInt = x := Int32.ofInt_toInt x
theorem pJ_of (x : Int64) : pJ x.toInt = x := Int64.ofInt_toInt x
theorem int_rg (x : Int32) : rg x.toInt := by have := x.toInt_lt; have := x.le_toInt; unfold rg; omega
theorem int_rl (x : Int64) : rl x.toInt := by have := x.toInt_lt; have := x.le_toInt; unfold rl; omega
theorem pI_inj {a b : Int} (ha : rg a) (hb : rg b) : pI a = pI b ↔ a = b := by
  constructor
  · intro h; rw [← pI_int ha, ← pI_int hb, h]
  · intro h; rw [h]
theorem pI_lt {a b : Int} (ha : rg a) (hb : rg b) : pI a < pI b ↔ a < b := by rw [Int32.lt_iff_toInt_lt, pI_int ha, pI_int hb]
theorem pI_le {a b : Int} (ha : rg a) (hb : rg b) : pI a ≤ pI b ↔ a ≤ b := by rw [Int32.le_iff_toInt_le, pI_int ha, pI_int hb]
theorem rg_0 : rg 0 := by unfold rg; omega
theorem pI_0 : pI 0 = 0 := rfl
theorem pI_ltz {a : Int} (ha : rg a) : pI a < 0 ↔ a < 0 := by rw [← pI_0, pI_lt ha rg_0]
theorem pI_eqz {a : Int} (ha : rg a) : pI a = 0 ↔ a = 0 := by rw [← pI_0, pI_inj ha rg_0]
theorem pI_lez {a : Int} (ha : rg a) : pI a ≤ 0 ↔ a ≤ 0 := by rw [← pI_0, pI_le ha rg_0]
theorem pI_gez {a : Int} (ha : rg a) : 0 ≤ pI a ↔ 0 ≤ a := by rw [← pI_0, pI_le rg_0 ha]
theorem pI_gtz {a : Int} (ha : rg a) : 0 < pI a ↔ 0 < a := by rw [← pI_0, pI_lt rg_0 ha]
theorem pI_add (a b : Int) : pI a + pI b = pI (w32 (a + b)) := by rw [pI_w32]; unfold pI; rw [Int32.ofInt_add]
theorem pI_sub (a b : Int) : pI a - pI b = pI (w32 (a - b)) := by rw [pI_w32]; unfold pI; rw [Int32.ofInt_sub]
theorem pI_mul (a b : Int) : pI a * pI b = pI (w32 (a * b)) := by rw [pI_w32]; unfold pI; rw [Int32.ofInt_mul]
theorem pI_neg (a : Int) : - pI a = pI (w32 (- a)) := by rw [pI_w32]; unfold pI; rw [Int32.ofInt_neg]
theorem pJ_add (a b : Int) : pJ a + pJ b = pJ (w64 (a + b)) := by rw [pJ_w64]; unfold pJ; rw [Int64.ofInt_add]
theorem pJ_sub (a b : Int) : pJ a - pJ b = pJ (w64 (a - b)) := by rw [pJ_w64]; unfold pJ; rw [Int64.ofInt_sub]
theorem pJ_mul (a b : Int) : pJ a * pJ b = pJ (w64 (a * b)) := by rw [pJ_w64]; unfold pJ; rw [Int64.ofInt_mul]
def idv (a b : Int) : Int := w32 (a.tdiv b)
def irm (a b : Int) : Int := a.tmod b
def ldv (a b : Int) : Int := w64 (a.tdiv b)
def lrm (a b : Int) : Int := a.tmod b
theorem pI_div {a b : Int} (ha : rg a) (hb : rg b) : pI a / pI b = pI (idv a b) := by
  unfold idv
  rw [pI_w32]
  apply Int32.toInt_inj.mp
  rw [Int32.toInt_div, pI_int ha, pI_int hb]
  unfold pI
  rw [Int32.toInt_ofInt]
theorem pJ_div {a b : Int} (ha : rl a) (hb : rl b) : pJ a / pJ b = pJ (ldv a b) := by
  unfold ldv
  rw [pJ_w64]
  apply Int64.toInt_inj.mp
  rw [Int64.toInt_div, pJ_int ha, pJ_int hb]
  unfold pJ
  rw [Int64.toInt_ofInt]
theorem pI_rem {a b : Int} (ha : rg a) (hb : rg b) : pI a - pI a / pI b * pI b = pI (irm a b) := by
  rw [pI_div ha hb]
  unfold idv
  rw [pI_w32]
  unfold irm pI
  rw [← Int32.ofInt_mul, ← Int32.ofInt_sub, Int.tmod_def, Int.mul_comm]
theorem pJ_rem {a b : Int} (ha : rl a) (hb : rl b) : pJ a - pJ a / pJ b * pJ b = pJ (lrm a b) := by
  rw [pJ_div ha hb]
  unfold ldv
  rw [pJ_w64]
  unfold lrm pJ
  rw [← Int64.ofInt_mul, ← Int64.ofInt_sub, Int.tmod_def, Int.mul_comm]
theorem tmod_bd (a b : Int) (hb : b ≠ 0) : - (b.natAbs : Int) < a.tmod b ∧ a.tmod b < b.natAbs := by
  have h1 : (a.tmod b).natAbs < b.natAbs := by
    rw [Int.natAbs_tmod]
    exact Nat.mod_lt _ (by omega)
  omega
theorem irm_rg {a b : Int} (hb : rg b) (h0 : b ≠ 0) : rg (irm a b) := by
  have h := tmod_bd a b h0
  unfold irm
  unfold rg at *
  omega
theorem lrm_rl {a b : Int} (hb : rl b) (h0 : b ≠ 0) : rl (lrm a b) := by
  have h := tmod_bd a b h0
  unfold lrm
  unfold rl at *
  omega
def iand (a b : Int) : Int := (pI a &&& pI b).toInt
def ior (a b : Int) : Int := (pI a ||| pI b).toInt
def ixor (a b : Int) : Int := (pI a ^^^ pI b).toInt
def ishl (a b : Int) : Int := (pI a <<< (pI b &&& 31)).toInt
def ishr (a b : Int) : Int := (pI a >>> (pI b &&& 31)).toInt
def iushr (a b : Int) : Int := ((pI a).toUInt32 >>> ((pI b).toUInt32 &&& Int32.toUInt32 31)).toInt32.toInt
def i2b (a : Int) : Int := (pI a).toInt8.toInt32.toInt
def l2i (a : Int) : Int := w32 a
theorem pI_l2i {a : Int} : (pJ a).toInt32 = pI (l2i a) := by
  unfold l2i
  rw [pI_w32]
  apply Int32.toInt_inj.mp
  unfold pI pJ
  rw [Int64.toInt_toInt32, Int32.toInt_ofInt, Int64.toInt_ofInt]
  simp only [Int32.size, Int64.size]
  rw [bm64, show (2 : Nat) ^ 32 = 4294967296 from rfl, bm32, bm32]
  omega
theorem pJ_i2l {a : Int} (h : rg a) : (pI a).toInt64 = pJ a := by
  apply Int64.toInt_inj.mp
  rw [Int32.toInt_toInt64, pI_int h, pJ_int (rg_rl h)]
theorem i2b_bd (a : Int) : -128 ≤ i2b a ∧ i2b a ≤ 127 := by
  unfold i2b
  rw [Int8.toInt_toInt32]
  have h1 := (pI a).toInt8.toInt_lt
  have h2 := (pI a).toInt8.le_toInt
  omega
theorem nar_byte {a : Int} (h : -128 ≤ a ∧ a ≤ 127) : (pI a).toInt8.toInt32 = pI a := by
  apply Int32.toInt_inj.mp
  rw [Int8.toInt_toInt32, Int32.toInt_toInt8, pI_int (by unfold rg; omega)]
  rw [show (2 : Nat) ^ 8 = 256 from rfl]
  dsimp only [Int.bmod]
  split <;> omega
theorem clamp_pI {a : Int} (h : rg a) : (pI a).toNatClampNeg = a.toNat := by
  rw [show (pI a).toNatClampNeg = (pI a).toInt.toNat from rfl, pI_int h]
theorem in_pI {a : Int} {n : Nat} (h : rg a) (h2 : 0 ≤ a ∧ a < n) : vp_in (pI a) n := by
  rw [vp_in_iff, pI_int h]
  exact h2
theorem pJ_inj {a b : Int} (ha : rl a) (hb : rl b) : pJ a = pJ b ↔ a = b := by
  constructor
  · intro h; rw [← pJ_int ha, ← pJ_int hb, h]
  · intro h; rw [h]
theorem pJ_eqz {a : Int} (ha : rl a) : pJ a = 0 ↔ a = 0 := by rw [← show pJ 0 = 0 from rfl, pJ_inj ha (rg_rl rg_0)]
