/-! the relation between the class's cells and the reference's -/
def cP (n : Nat) (f : Int → Int) (v : Int) : Int := match n with
  | 0 => 0
  | n + 1 => cP n f v + if f n = v then 1 else 0
def fm (n : Nat) (C : Int → Int) (a b : Int) : Int := match n with
  | 0 => 0
  | n + 1 => if (C ((n : Int) * 4) = a ∧ C ((n : Int) * 4 + 1) = b) ∨ (C ((n : Int) * 4) = b ∧ C ((n : Int) * 4 + 1) = a) then (if fm n C a b = 0 ∨ C ((n : Int) * 4 + 2) < fm n C a b then C ((n : Int) * 4 + 2) else fm n C a b) else fm n C a b
/-- a step of the law's code over the kinds of what lies on the stack: 0 a number, 1 what is so or not, 2 a number told that isn't 0 -/
def stp (o a : Int) (S : List Nat) : Option (List Nat) :=
  if o = 0 then (if 0 ≤ a ∧ a ≤ 9999 ∧ S.length < 40 then some ((if a = 0 then 0 else 2) :: S) else none)
  else if o = 1 then (if 0 ≤ a ∧ a ≤ 9 ∧ S.length < 40 then some (0 :: S) else none)
  else match S with
    | [] => none
    | y :: S1 => if o = 9 then (if y = 1 then some (1 :: S1) else none) else match S1 with
      | [] => none
      | x :: S2 => if 2 ≤ o ∧ o ≤ 4 then (if x ≠ 1 ∧ y ≠ 1 then some (0 :: S2) else none)
        else if o = 5 then (if x ≠ 1 ∧ y = 2 then some (0 :: S2) else none)
        else if 6 ≤ o ∧ o ≤ 8 then (if x ≠ 1 ∧ y ≠ 1 then some (1 :: S2) else none)
        else if o = 10 ∨ o = 11 then (if x = 1 ∧ y = 1 then some (1 :: S2) else none) else none
def chk (op ar : Int → Int) : Nat → Int → List Nat → Option (List Nat)
  | 0, _, S => some S
  | n + 1, i, S => match stp (op i) (ar i) S with
    | none => none
    | some S' => chk op ar n (i + 1) S'
/-- the class's word for a step -/
def enc (o a : Int) : Int := if o = 0 then a else if o = 1 then -(270 + a) else if o = 2 then -43 else if o = 3 then -45 else if o = 4 then -42 else if o = 5 then -47 else if o = 6 then -60 else if o = 7 then -61 else if o = 8 then -62 else if o = 9 then -266 else if o = 10 then -265 else -264
def isP (a b c d e : Int) : Prop := (0 ≤ a ∧ a ≤ 4 ∧ 0 ≤ b ∧ b ≤ 4 ∧ 0 ≤ c ∧ c ≤ 4 ∧ 0 ≤ d ∧ d ≤ 4 ∧ 0 ≤ e ∧ e ≤ 4) ∧ a ≠ b ∧ a ≠ c ∧ a ≠ d ∧ a ≠ e ∧ b ≠ c ∧ b ≠ d ∧ b ≠ e ∧ c ≠ d ∧ c ≠ e ∧ d ≠ e
def hasq (n : Int) (C : Int → Int) (a b : Int) : Prop := ∃ i, 0 ≤ i ∧ i < n ∧ ((C (i * 2) = a ∧ C (i * 2 + 1) = b) ∨ (C (i * 2) = b ∧ C (i * 2 + 1) = a))
def hpP (σ : St) (h : Nat) (V : St) (i : Int) : Prop := σ (h + 1) i = V 4 i ∧ σ (h + 2) i = V 1 (5 + i) ∧ σ (h + 3) i = V 1 (17 + i) ∧ σ (h + 4) i = V 1 (29 + i) - 1 ∧ σ (h + 5) i = cP (V 0 7).toNat (fun p => V 1 (41 + p)) (i + 1) ∧ 0 ≤ V 1 (5 + i) ∧ V 1 (5 + i) ≤ 99 ∧ 0 ≤ V 1 (29 + i) ∧ V 1 (29 + i) ≤ V 0 7
def hpQ (σ : St) (h : Nat) (V : St) (p : Int) : Prop := σ (h + 6) p = V 5 p ∧ σ (h + 7) p = V 6 p ∧ σ (h + 8) p = V 1 (41 + p) - 1 ∧ σ (h + 9) p = V 1 (61 + p) ∧ σ (h + 10) p = V 1 (81 + p) ∧ σ (h + 11) p = V 1 (101 + p) ∧ σ (h + 12) p = V 1 (121 + p) ∧ σ (h + 13) p = V 1 (141 + p) - 1 ∧ 0 ≤ V 1 (41 + p) ∧ V 1 (41 + p) ≤ V 0 6 ∧ 0 ≤ V 1 (141 + p) ∧ V 1 (141 + p) ≤ 20 ∧ 0 ≤ V 5 p ∧ V 5 p ≤ 9 ∧ 0 ≤ V 6 p ∧ V 6 p ≤ 9 ∧ (V 1 (41 + p) = 0 → V 1 (61 + p) = 0 ∧ V 1 (81 + p) = 0)

def RH (σ : St) (h : Nat) (V : St) : Prop := (σ h 0 = V 1 2 ∧ σ h 1 = V 1 1 ∧ σ h 2 = V 1 0 ∧ σ h 3 = V 1 4 ∧ σ h 4 = V 0 6 ∧ σ h 5 = V 0 7) ∧ (0 ≤ V 0 6 ∧ V 0 6 ≤ 12 ∧ 0 ≤ V 0 7 ∧ V 0 7 ≤ 20 ∧ 0 ≤ V 1 1 ∧ V 1 1 ≤ 59) ∧ (∀ i, 0 ≤ i → i < V 0 6 → hpP σ h V i) ∧ ∀ p, 0 ≤ p → p < V 0 7 → hpQ σ h V p
def RLaw (σ : St) (t : Nat) (V : St) : Prop := (σ (t + 1) 0 = 4 ∧ σ (t + 3) 0 = 1 ∧ σ (t + 1) 2 = V 10 0 ∧ 0 ≤ V 10 0 ∧ V 10 0 ≤ 16 ∧ 0 ≤ σ (t + 3) 2 ∧ σ (t + 3) 2 ≤ 400) ∧ (∀ l, 0 ≤ l → l < V 10 0 → (σ (t + 2) (l * 4) = 260 + V 11 l ∧ σ (t + 2) (l * 4 + 1) = V 12 l ∧ σ (t + 2) (l * 4 + 2) = V 13 l ∧ σ (t + 2) (l * 4 + 3) = V 14 l) ∧ (0 ≤ V 11 l ∧ V 11 l ≤ 2 ∧ 0 ≤ V 12 l ∧ V 12 l ≤ V 13 l ∧ V 13 l ≤ V 14 l ∧ V 14 l ≤ σ (t + 3) 2) ∧ (∃ x, x ≠ 1 ∧ chk (V 15) (V 16) (V 13 l - V 12 l).toNat (V 12 l) [] = some [x]) ∧ (V 13 l < V 14 l → chk (V 15) (V 16) (V 14 l - V 13 l).toNat (V 13 l) [] = some [1])) ∧ ∀ i, 0 ≤ i → i < σ (t + 3) 2 → σ (t + 4) i = enc (V 15 i) (V 16 i)
def RCalls (σ : St) (t : Nat) (V : St) : Prop := (σ (t + 5) 0 = 4 ∧ σ (t + 5) 2 = V 0 35 ∧ 0 ≤ V 0 35 ∧ V 0 35 ≤ 16) ∧ (∀ j, 0 ≤ j → j < V 0 35 * 4 → σ (t + 6) j = V 18 j) ∧ ∀ k, 0 ≤ k → k < V 0 35 → 0 ≤ V 18 (k * 4) ∧ V 18 (k * 4) < V 0 7 ∧ 0 ≤ V 18 (k * 4 + 2) ∧ V 18 (k * 4 + 2) < V 0 6
def REven (σ : St) (t : Nat) (V : St) : Prop := (σ (t + 7) 0 = 4 ∧ σ (t + 7) 2 = V 0 37 ∧ 0 ≤ V 0 37 ∧ V 0 37 ≤ 16) ∧ ∀ k, 0 ≤ k → k < V 0 37 → (σ (t + 8) (k * 4) = V 19 (k * 4) ∧ σ (t + 8) (k * 4 + 1) = V 19 (k * 4 + 1) + 285 ∧ σ (t + 8) (k * 4 + 2) = V 19 (k * 4 + 2) ∧ σ (t + 8) (k * 4 + 3) = V 19 (k * 4 + 3)) ∧ 0 ≤ V 19 (k * 4 + 1) ∧ V 19 (k * 4 + 1) ≤ 3 ∧ (V 19 (k * 4 + 1) ≠ 2 → 0 ≤ V 19 (k * 4 + 2) ∧ V 19 (k * 4 + 2) < V 0 6) ∧ (V 19 (k * 4 + 1) = 0 → 0 ≤ V 19 (k * 4 + 3) ∧ V 19 (k * 4 + 3) ≤ 99) ∧ (V 19 (k * 4 + 1) = 3 → 0 ≤ V 19 (k * 4 + 3) ∧ V 19 (k * 4 + 3) < V 0 7)
def RStreet (σ : St) (t : Nat) (V : St) : Prop := (σ (t + 9) 0 = 4 ∧ σ (t + 9) 2 = V 0 39 ∧ 0 ≤ V 0 39 ∧ V 0 39 ≤ 16) ∧ (∀ k, 0 ≤ k → k < V 0 39 → 0 ≤ σ (t + 10) (k * 4) ∧ σ (t + 10) (k * 4) < V 0 6 ∧ 0 ≤ σ (t + 10) (k * 4 + 1) ∧ σ (t + 10) (k * 4 + 1) < V 0 6 ∧ σ (t + 10) (k * 4) ≠ σ (t + 10) (k * 4 + 1) ∧ 1 ≤ σ (t + 10) (k * 4 + 2) ∧ σ (t + 10) (k * 4 + 2) ≤ 99) ∧ ∀ a b, 0 ≤ a → a < 12 → 0 ≤ b → b < 12 → V 20 (12 * a + b) = fm (V 0 39).toNat (σ (t + 10)) a b
def RWish (σ : St) (t : Nat) (V : St) : Prop := σ (t + 11) 0 = 5 ∧ σ (t + 11) 2 = 10 ∧ ∀ w, 0 ≤ w → w < 10 → V 23 w + 1234 = σ (t + 12) (w * 5) * 10000 + σ (t + 12) (w * 5 + 1) * 1000 + σ (t + 12) (w * 5 + 2) * 100 + σ (t + 12) (w * 5 + 3) * 10 + σ (t + 12) (w * 5 + 4) ∧ isP (σ (t + 12) (w * 5)) (σ (t + 12) (w * 5 + 1)) (σ (t + 12) (w * 5 + 2)) (σ (t + 12) (w * 5 + 3)) (σ (t + 12) (w * 5 + 4))
def RChair (σ : St) (t : Nat) (V : St) : Prop := (σ (t + 13) 0 = 2 ∧ σ (t + 13) 2 = V 0 49 ∧ 0 ≤ V 0 49 ∧ V 0 49 ≤ 5) ∧ ∀ i, 0 ≤ i → i < V 0 49 → σ (t + 14) (i * 2) = V 29 i ∧ σ (t + 14) (i * 2 + 1) = V 30 i ∧ 1 ≤ V 29 i ∧ V 29 i ≤ 30 ∧ 0 ≤ V 30 i ∧ V 30 i < V 29 i
def RCat (σ : St) (t : Nat) (V : St) : Prop := (σ (t + 15) 0 = 4 ∧ σ (t + 15) 2 = V 0 52 ∧ 0 ≤ V 0 52 ∧ V 0 52 ≤ 12) ∧ ∀ i, 0 ≤ i → i < V 0 52 → (σ (t + 16) (i * 4) = V 31 i ∧ σ (t + 16) (i * 4 + 1) = V 32 i ∧ σ (t + 16) (i * 4 + 2) = V 33 i ∧ σ (t + 16) (i * 4 + 3) = V 34 i) ∧ 0 ≤ V 31 i ∧ V 31 i ≤ 7 ∧ 0 ≤ V 32 i ∧ V 32 i ≤ 7 ∧ 0 ≤ V 33 i ∧ V 33 i < V 34 i ∧ V 34 i ≤ 99
def RFam (σ : St) (t : Nat) (V : St) : Prop := (σ (t + 17) 0 = 1 ∧ σ (t + 17) 2 = V 0 58 ∧ 0 ≤ V 0 58 ∧ V 0 58 ≤ 8) ∧ ∀ i, 0 ≤ i → i < V 0 58 → σ (t + 18) i = V 36 i ∧ 1 ≤ V 36 i ∧ V 36 i ≤ 9
def RBoard (σ : St) (t : Nat) (V : St) : Prop := (σ (t + 19) 0 = 1 ∧ σ (t + 19) 2 = V 0 62 ∧ 0 ≤ V 0 62 ∧ V 0 62 ≤ 12) ∧ ∀ i, 0 ≤ i → i < V 0 62 → σ (t + 20) i = V 39 i ∧ 0 ≤ V 39 i ∧ V 39 i ≤ 99
def RTalk (σ : St) (t : Nat) (V : St) : Prop := (σ (t + 21) 0 = 1 ∧ σ (t + 21) 2 = V 0 64 ∧ 0 ≤ V 0 64 ∧ V 0 64 ≤ 24) ∧ ∀ i, 0 ≤ i → i < V 0 64 → σ (t + 22) i = V 40 i ∧ 0 ≤ V 40 i ∧ V 40 i ≤ 2
def RHalf (σ : St) (t : Nat) (V : St) : Prop := (σ (t + 23) 0 = 1 ∧ σ (t + 23) 2 = V 42 0 ∧ 0 ≤ V 42 0 ∧ V 42 0 ≤ 12 ∧ ∀ i, 0 ≤ i → i < V 42 0 → σ (t + 24) i = V 43 (i)) ∧ (σ (t + 25) 0 = 1 ∧ σ (t + 25) 2 = V 42 1 ∧ 0 ≤ V 42 1 ∧ V 42 1 ≤ 12 ∧ ∀ i, 0 ≤ i → i < V 42 1 → σ (t + 26) i = V 43 (24 + i)) ∧ (σ (t + 27) 0 = 1 ∧ σ (t + 27) 2 = V 42 2 ∧ 0 ≤ V 42 2 ∧ V 42 2 ≤ 24 ∧ ∀ i, 0 ≤ i → i < V 42 2 → σ (t + 28) i = V 43 (48 + i))
def RSwing (σ : St) (t : Nat) (V : St) : Prop := (σ (t + 29) 0 = 1 ∧ σ (t + 29) 2 = V 0 70 ∧ 0 ≤ V 0 70 ∧ V 0 70 ≤ 8) ∧ ∀ i, 0 ≤ i → i < V 0 70 → σ (t + 30) i = V 45 i ∧ 1 ≤ V 45 i ∧ V 45 i ≤ 60
def RQuar (σ : St) (t : Nat) (V : St) : Prop := (σ (t + 31) 0 = 2 ∧ σ (t + 31) 2 = V 0 72 ∧ 0 ≤ V 0 72 ∧ V 0 72 ≤ 8) ∧ (∀ i, 0 ≤ i → i < V 0 72 → 0 ≤ σ (t + 32) (i * 2) ∧ σ (t + 32) (i * 2) ≤ 7 ∧ 0 ≤ σ (t + 32) (i * 2 + 1) ∧ σ (t + 32) (i * 2 + 1) ≤ 7 ∧ σ (t + 32) (i * 2) ≠ σ (t + 32) (i * 2 + 1)) ∧ ∀ a b, 0 ≤ a → a < 8 → 0 ≤ b → b < 8 → 0 ≤ V 46 a ∧ V 46 a < 256 ∧ (iand (ishr (V 46 a) b) 1 = 1 ↔ hasq (V 0 72) (σ (t + 32)) a b)
def RB (σ : St) (d : Nat) (V : St) : Prop := (σ d 0 = 5 ∧ σ d 2 = V 1 3 ∧ 0 ≤ V 1 3 ∧ V 1 3 ≤ 150) ∧ ∀ j, 0 ≤ j → j < V 1 3 * 5 → σ (d + 1) j = V 7 j
def core (σ : St) (h t d : Nat) (V : St) : Prop := RH σ h V ∧ RLaw σ t V ∧ RCalls σ t V ∧ REven σ t V ∧ RStreet σ t V ∧ RWish σ t V ∧ RChair σ t V ∧ RCat σ t V ∧ RFam σ t V ∧ RBoard σ t V ∧ RTalk σ t V ∧ RHalf σ t V ∧ RSwing σ t V ∧ RQuar σ t V ∧ RB σ d V
def wordsT : List Int := [32, 115, 112, 101, 97, 107, 115, 32, 104, 101, 97, 114, 115, 32, 115, 112, 105, 110, 115, 32, 119, 104, 101, 110, 32, 111, 114, 32, 97, 110, 100, 32, 110, 111, 116, 32, 116, 111, 110, 103, 117, 101, 32, 101, 97, 114, 115, 32, 115, 105, 116, 116, 105, 110, 103, 32, 115, 116, 97, 121, 101, 100, 32, 108, 97, 109, 112, 32, 99, 111, 98, 119, 101, 98, 32, 109, 105, 110, 117, 116, 101, 32, 115, 97, 105, 100, 32, 104, 101, 97, 114, 100, 32, 101, 118, 101, 110, 105, 110, 103, 32, 112, 101, 114, 115, 111, 110, 32, 97, 116, 32, 111, 110, 32, 102, 111, 114, 32, 105, 110, 32, 111, 105, 108, 32, 115, 119, 101, 101, 112, 32, 114, 97, 105, 110, 32, 109, 97, 115, 116, 101, 114, 32, 112, 111, 114, 99, 104, 32, 98, 121, 32]
/-- the reference's row j of those kept ahead -/
def vK (τ : St) (j : Int) : St := fun c i => if c = 1 then τ 2 (161 * j + i) else τ c i
def hk (s : Int) : Nat := 55 + 14 * s.toNat
def RU (σ : St) (τ : St) : Prop := (0 ≤ τ 0 3 ∧ τ 0 3 ≤ 6 ∧ σ 52 2 = τ 0 3 ∧ 0 ≤ σ 52 3 ∧ σ 52 3 ≤ 5) ∧ ∀ j, 0 ≤ j → j < τ 0 3 → RH σ (hk ((σ 52 3 - τ 0 3 + j) % 6)) (vK τ j) ∧ σ 54 ((σ 52 3 - τ 0 3 + j) % 6) = τ 2 (161 * j + 3) ∧ 0 ≤ τ 2 (161 * j + 3) ∧ τ 2 (161 * j + 3) ≤ τ 1 3 ∧ ∀ i, 0 ≤ i → i < j → τ 2 (161 * i + 3) ≤ τ 2 (161 * j + 3)
/-- where the image has what -/
def ipos (c : Nat) (i : Int) : Int := match c with
  | 0 => if i = 6 then 161 else if i = 7 then 162 else if i = 35 then 163 else if i = 37 then 164 else if i = 39 then 165 else if i = 49 then 166 else if i = 52 then 167 else if i = 58 then 168 else if i = 62 then 169 else if i = 64 then 170 else if i = 70 then 174 else 175
  | 1 => i
  | 42 => 171 + i
  | 23 => 176 + i
  | 29 => 186 + 2 * i
  | 30 => 187 + 2 * i
  | 36 => 196 + 3 * i
  | 45 => 197 + 3 * i
  | 46 => 198 + 3 * i
  | 40 => 220 + i
  | 43 => 244 + i
  | 4 => 316 + 6 * i
  | 31 => 317 + 6 * i
  | 32 => 318 + 6 * i
  | 33 => 319 + 6 * i
  | 34 => 320 + 6 * i
  | 39 => 321 + 6 * i
  | 5 => 388 + 2 * i
  | 6 => 389 + 2 * i
  | 20 => 428 + i
  | 18 => 572 + i
  | 19 => 636 + i
  | 7 => 700 + i
  | 10 => 1450 + i
  | 11 => 1451 + 4 * i
  | 12 => 1452 + 4 * i
  | 13 => 1453 + 4 * i
  | 14 => 1454 + 4 * i
  | 15 => 1515 + 2 * i
  | 16 => 1516 + 2 * i
  | _ => 0
def iV (τ : St) : St := fun c i => τ 56 (ipos c i)
def RI (σ : St) (τ : St) : Prop := (σ 0 14 = 0 ∨ σ 0 14 = 1) ∧ σ 0 14 = τ 0 84 ∧ (σ 0 14 = 1 → core σ 185 199 232 (iV τ)) ∧ σ 200 0 = 4 ∧ σ 202 0 = 1 ∧ σ 204 0 = 4 ∧ σ 206 0 = 4 ∧ σ 208 0 = 4 ∧ σ 210 0 = 5 ∧ σ 212 0 = 2 ∧ σ 214 0 = 4 ∧ σ 216 0 = 1 ∧ σ 218 0 = 1 ∧ σ 220 0 = 1 ∧ σ 222 0 = 1 ∧ σ 224 0 = 1 ∧ σ 226 0 = 1 ∧ σ 228 0 = 1 ∧ σ 230 0 = 2 ∧ σ 232 0 = 5
def RP (σ : St) (τ : St) : Prop := (σ 1 1 = τ 0 13 ∧ 0 ≤ τ 0 13 ∧ τ 0 13 ≤ 400) ∧ ∀ i, 0 ≤ i → i < τ 0 13 → iand (σ 2 i) 255 = τ 8 i ∧ 0 ≤ τ 8 i ∧ τ 8 i ≤ 255
def RF (σ : St) (τ : St) : Prop := σ 139 7 = τ 0 33 ∧ σ 139 8 = τ 0 34
def RS (σ : St) (τ : St) : Prop := (σ 140 0 = 4 ∧ σ 142 0 = 1 ∧ σ 152 4 = 0 ∧ τ 0 5 = 0) ∧ ∀ i, 0 ≤ i → i < 152 → τ 9 i = wordsT.getD i.toNat 0
def Rl (σ τ : St) : Prop := RH σ 3 τ ∧ RLaw σ 17 τ ∧ RCalls σ 17 τ ∧ REven σ 17 τ ∧ RStreet σ 17 τ ∧ RWish σ 17 τ ∧ RChair σ 17 τ ∧ RCat σ 17 τ ∧ RFam σ 17 τ ∧ RBoard σ 17 τ ∧ RTalk σ 17 τ ∧ RHalf σ 17 τ ∧ RSwing σ 17 τ ∧ RQuar σ 17 τ ∧ RB σ 50 τ ∧ RU σ τ ∧ RI σ τ ∧ RP σ τ ∧ RF σ τ ∧ RS σ τ
/-- of the reference's own fields (cell 0) those of J may have changed, of its rows those of C -/
def Fm (C : List Nat) (J : List Int) (τ τ' : St) : Prop := (∀ k, k ≠ 0 → k ∉ C → τ' k = τ k) ∧ ∀ i, i ∉ J → τ' 0 i = τ 0 i
theorem Fm.rf {C : List Nat} {J : List Int} {τ : St} : Fm C J τ τ := ⟨fun _ _ _ => rfl, fun _ _ => rfl⟩
theorem Fm.tr {C : List Nat} {J : List Int} {τ τ1 τ2 : St} (h : Fm C J τ τ1) (h2 : Fm C J τ1 τ2) : Fm C J τ τ2 := ⟨fun k h0 hk => (h2.1 k h0 hk).trans (h.1 k h0 hk), fun i hi => (h2.2 i hi).trans (h.2 i hi)⟩
theorem Fm.u0 {C : List Nat} {J : List Int} {τ τ' : St} {i v : Int} (h : Fm C J τ τ') (hi : i ∈ J) : Fm C J τ (up τ' 0 i v) := ⟨fun k h0 hk => (up_ne h0).trans (h.1 k h0 hk), fun j hj => by rw [up_at, if_neg (fun e : j = i => hj (by rw [e]; exact hi))]; exact h.2 j hj⟩
theorem Fm.up {C : List Nat} {J : List Int} {τ τ' : St} {k : Nat} {i v : Int} (h : Fm C J τ τ') (h0 : k ≠ 0) (hk : k ∈ C) : Fm C J τ (up τ' k i v) := ⟨fun k' h0' hk' => (up_ne (fun e : k' = k => hk' (by rw [e]; exact hk))).trans (h.1 k' h0' hk'), fun j hj => by rw [up_ne (fun e => h0 e.symm)]; exact h.2 j hj⟩
theorem Fm.mono {C C2 : List Nat} {J J2 : List Int} {τ τ' : St} (h : Fm C J τ τ') (hc : ∀ k, k ∈ C → k ∈ C2) (hj : ∀ k, k ∈ J → k ∈ J2) : Fm C2 J2 τ τ' := ⟨fun k h0 hk => h.1 k h0 fun q => hk (hc k q), fun i hi => h.2 i fun q => hi (hj i q)⟩
theorem RH.cg {C D : List Nat} {J : List Int} {σ σ' τ τ' : St} (h : RH σ 3 τ) (fx : Fr C σ σ') (fm : Fm D J τ τ') (d : ([3, 4, 5, 6, 7, 8, 9, 10, 11, 12, 13, 14, 15, 16] : List Nat).all (fun k => !C.contains k) = true ∧ ([1, 4, 5, 6] : List Nat).all (fun k => !D.contains k) = true ∧ ([6, 7] : List Int).all (fun k => !J.contains k) = true) : RH σ' 3 τ' := by
  simp only [List.all_cons, List.all_nil, Bool.and_true, Bool.and_eq_true, Bool.not_eq_true', List.contains_eq_mem, decide_eq_false_iff_not] at d
  obtain ⟨dx, dm, dj⟩ := d
  have x3 : σ' 3 = σ 3 := fx 3 dx.1
  have x4 : σ' 4 = σ 4 := fx 4 dx.2.1
  have x5 : σ' 5 = σ 5 := fx 5 dx.2.2.1
  have x6 : σ' 6 = σ 6 := fx 6 dx.2.2.2.1
  have x7 : σ' 7 = σ 7 := fx 7 dx.2.2.2.2.1
  have x8 : σ' 8 = σ 8 := fx 8 dx.2.2.2.2.2.1
  have x9 : σ' 9 = σ 9 := fx 9 dx.2.2.2.2.2.2.1
  have x10 : σ' 10 = σ 10 := fx 10 dx.2.2.2.2.2.2.2.1
  have x11 : σ' 11 = σ 11 := fx 11 dx.2.2.2.2.2.2.2.2.1
  have x12 : σ' 12 = σ 12 := fx 12 dx.2.2.2.2.2.2.2.2.2.1
  have x13 : σ' 13 = σ 13 := fx 13 dx.2.2.2.2.2.2.2.2.2.2.1
  have x14 : σ' 14 = σ 14 := fx 14 dx.2.2.2.2.2.2.2.2.2.2.2.1
  have x15 : σ' 15 = σ 15 := fx 15 dx.2.2.2.2.2.2.2.2.2.2.2.2.1
  have x16 : σ' 16 = σ 16 := fx 16 dx.2.2.2.2.2.2.2.2.2.2.2.2.2
  have m1 : τ' 1 = τ 1 := fm.1 1 (by decide) dm.1
  have m4 : τ' 4 = τ 4 := fm.1 4 (by decide) dm.2.1
  have m5 : τ' 5 = τ 5 := fm.1 5 (by decide) dm.2.2.1
  have m6 : τ' 6 = τ 6 := fm.1 6 (by decide) dm.2.2.2
  have j6 : τ' 0 6 = τ 0 6 := fm.2 6 dj.1
  have j7 : τ' 0 7 = τ 0 7 := fm.2 7 dj.2
  simp only [RH, hpP, hpQ, Nat.reduceAdd] at h ⊢
  simp only [x3, x4, x5, x6, x7, x8, x9, x10, x11, x12, x13, x14, x15, x16, m1, m4, m5, m6, j6, j7]
  exact h
theorem RLaw.cg {C D : List Nat} {J : List Int} {σ σ' τ τ' : St} (h : RLaw σ 17 τ) (fx : Fr C σ σ') (fm : Fm D J τ τ') (d : ([18, 19, 20, 21] : List Nat).all (fun k => !C.contains k) = true ∧ ([10, 11, 12, 13, 14, 15, 16] : List Nat).all (fun k => !D.contains k) = true ∧ ([] : List Int).all (fun k => !J.contains k) = true) : RLaw σ' 17 τ' := by
  simp only [List.all_cons, List.all_nil, Bool.and_true, Bool.and_eq_true, Bool.not_eq_true', List.contains_eq_mem, decide_eq_false_iff_not] at d
  obtain ⟨dx, dm, dj⟩ := d
  have x18 : σ' 18 = σ 18 := fx 18 dx.1
  have x19 : σ' 19 = σ 19 := fx 19 dx.2.1
  have x20 : σ' 20 = σ 20 := fx 20 dx.2.2.1
  have x21 : σ' 21 = σ 21 := fx 21 dx.2.2.2
  have m10 : τ' 10 = τ 10 := fm.1 10 (by decide) dm.1
  have m11 : τ' 11 = τ 11 := fm.1 11 (by decide) dm.2.1
  have m12 : τ' 12 = τ 12 := fm.1 12 (by decide) dm.2.2.1
  have m13 : τ' 13 = τ 13 := fm.1 13 (by decide) dm.2.2.2.1
  have m14 : τ' 14 = τ 14 := fm.1 14 (by decide) dm.2.2.2.2.1
  have m15 : τ' 15 = τ 15 := fm.1 15 (by decide) dm.2.2.2.2.2.1
  have m16 : τ' 16 = τ 16 := fm.1 16 (by decide) dm.2.2.2.2.2.2
  simp only [RLaw, hpP, hpQ, Nat.reduceAdd] at h ⊢
  simp only [x18, x19, x20, x21, m10, m11, m12, m13, m14, m15, m16]
  exact h
theorem RCalls.cg {C D : List Nat} {J : List Int} {σ σ' τ τ' : St} (h : RCalls σ 17 τ) (fx : Fr C σ σ') (fm : Fm D J τ τ') (d : ([22, 23] : List Nat).all (fun k => !C.contains k) = true ∧ ([18] : List Nat).all (fun k => !D.contains k) = true ∧ ([35, 6, 7] : List Int).all (fun k => !J.contains k) = true) : RCalls σ' 17 τ' := by
  simp only [List.all_cons, List.all_nil, Bool.and_true, Bool.and_eq_true, Bool.not_eq_true', List.contains_eq_mem, decide_eq_false_iff_not] at d
  obtain ⟨dx, dm, dj⟩ := d
  have x22 : σ' 22 = σ 22 := fx 22 dx.1
  have x23 : σ' 23 = σ 23 := fx 23 dx.2
  have m18 : τ' 18 = τ 18 := fm.1 18 (by decide) dm
  have j35 : τ' 0 35 = τ 0 35 := fm.2 35 dj.1
  have j6 : τ' 0 6 = τ 0 6 := fm.2 6 dj.2.1
  have j7 : τ' 0 7 = τ 0 7 := fm.2 7 dj.2.2
  simp only [RCalls, hpP, hpQ, Nat.reduceAdd] at h ⊢
  simp only [x22, x23, m18, j35, j6, j7]
  exact h
theorem REven.cg {C D : List Nat} {J : List Int} {σ σ' τ τ' : St} (h : REven σ 17 τ) (fx : Fr C σ σ') (fm : Fm D J τ τ') (d : ([24, 25] : List Nat).all (fun k => !C.contains k) = true ∧ ([19] : List Nat).all (fun k => !D.contains k) = true ∧ ([37, 6, 7] : List Int).all (fun k => !J.contains k) = true) : REven σ' 17 τ' := by
  simp only [List.all_cons, List.all_nil, Bool.and_true, Bool.and_eq_true, Bool.not_eq_true', List.contains_eq_mem, decide_eq_false_iff_not] at d
  obtain ⟨dx, dm, dj⟩ := d
  have x24 : σ' 24 = σ 24 := fx 24 dx.1
  have x25 : σ' 25 = σ 25 := fx 25 dx.2
  have m19 : τ' 19 = τ 19 := fm.1 19 (by decide) dm
  have j37 : τ' 0 37 = τ 0 37 := fm.2 37 dj.1
  have j6 : τ' 0 6 = τ 0 6 := fm.2 6 dj.2.1
  have j7 : τ' 0 7 = τ 0 7 := fm.2 7 dj.2.2
  simp only [REven, hpP, hpQ, Nat.reduceAdd] at h ⊢
  simp only [x24, x25, m19, j37, j6, j7]
  exact h
theorem RStreet.cg {C D : List Nat} {J : List Int} {σ σ' τ τ' : St} (h : RStreet σ 17 τ) (fx : Fr C σ σ') (fm : Fm D J τ τ') (d : ([26, 27] : List Nat).all (fun k => !C.contains k) = true ∧ ([20] : List Nat).all (fun k => !D.contains k) = true ∧ ([39, 6] : List Int).all (fun k => !J.contains k) = true) : RStreet σ' 17 τ' := by
  simp only [List.all_cons, List.all_nil, Bool.and_true, Bool.and_eq_true, Bool.not_eq_true', List.contains_eq_mem, decide_eq_false_iff_not] at d
  obtain ⟨dx, dm, dj⟩ := d
  have x26 : σ' 26 = σ 26 := fx 26 dx.1
  have x27 : σ' 27 = σ 27 := fx 27 dx.2
  have m20 : τ' 20 = τ 20 := fm.1 20 (by decide) dm
  have j39 : τ' 0 39 = τ 0 39 := fm.2 39 dj.1
  have j6 : τ' 0 6 = τ 0 6 := fm.2 6 dj.2
  simp only [RStreet, hpP, hpQ, Nat.reduceAdd] at h ⊢
  simp only [x26, x27, m20, j39, j6]
  exact h
theorem RWish.cg {C D : List Nat} {J : List Int} {σ σ' τ τ' : St} (h : RWish σ 17 τ) (fx : Fr C σ σ') (fm : Fm D J τ τ') (d : ([28, 29] : List Nat).all (fun k => !C.contains k) = true ∧ ([23] : List Nat).all (fun k => !D.contains k) = true ∧ ([] : List Int).all (fun k => !J.contains k) = true) : RWish σ' 17 τ' := by
  simp only [List.all_cons, List.all_nil, Bool.and_true, Bool.and_eq_true, Bool.not_eq_true', List.contains_eq_mem, decide_eq_false_iff_not] at d
  obtain ⟨dx, dm, dj⟩ := d
  have x28 : σ' 28 = σ 28 := fx 28 dx.1
  have x29 : σ' 29 = σ 29 := fx 29 dx.2
  have m23 : τ' 23 = τ 23 := fm.1 23 (by decide) dm
  simp only [RWish, hpP, hpQ, Nat.reduceAdd] at h ⊢
  simp only [x28, x29, m23]
  exact h
theorem RChair.cg {C D : List Nat} {J : List Int} {σ σ' τ τ' : St} (h : RChair σ 17 τ) (fx : Fr C σ σ') (fm : Fm D J τ τ') (d : ([30, 31] : List Nat).all (fun k => !C.contains k) = true ∧ ([29, 30] : List Nat).all (fun k => !D.contains k) = true ∧ ([49] : List Int).all (fun k => !J.contains k) = true) : RChair σ' 17 τ' := by
  simp only [List.all_cons, List.all_nil, Bool.and_true, Bool.and_eq_true, Bool.not_eq_true', List.contains_eq_mem, decide_eq_false_iff_not] at d
  obtain ⟨dx, dm, dj⟩ := d
  have x30 : σ' 30 = σ 30 := fx 30 dx.1
  have x31 : σ' 31 = σ 31 := fx 31 dx.2
  have m29 : τ' 29 = τ 29 := fm.1 29 (by decide) dm.1
  have m30 : τ' 30 = τ 30 := fm.1 30 (by decide) dm.2
  have j49 : τ' 0 49 = τ 0 49 := fm.2 49 dj
  simp only [RChair, hpP, hpQ, Nat.reduceAdd] at h ⊢
  simp only [x30, x31, m29, m30, j49]
  exact h
theorem RCat.cg {C D : List Nat} {J : List Int} {σ σ' τ τ' : St} (h : RCat σ 17 τ) (fx : Fr C σ σ') (fm : Fm D J τ τ') (d : ([32, 33] : List Nat).all (fun k => !C.contains k) = true ∧ ([31, 32, 33, 34] : List Nat).all (fun k => !D.contains k) = true ∧ ([52] : List Int).all (fun k => !J.contains k) = true) : RCat σ' 17 τ' := by
  simp only [List.all_cons, List.all_nil, Bool.and_true, Bool.and_eq_true, Bool.not_eq_true', List.contains_eq_mem, decide_eq_false_iff_not] at d
  obtain ⟨dx, dm, dj⟩ := d
  have x32 : σ' 32 = σ 32 := fx 32 dx.1
  have x33 : σ' 33 = σ 33 := fx 33 dx.2
  have m31 : τ' 31 = τ 31 := fm.1 31 (by decide) dm.1
  have m32 : τ' 32 = τ 32 := fm.1 32 (by decide) dm.2.1
  have m33 : τ' 33 = τ 33 := fm.1 33 (by decide) dm.2.2.1
  have m34 : τ' 34 = τ 34 := fm.1 34 (by decide) dm.2.2.2
  have j52 : τ' 0 52 = τ 0 52 := fm.2 52 dj
  simp only [RCat, hpP, hpQ, Nat.reduceAdd] at h ⊢
  simp only [x32, x33, m31, m32, m33, m34, j52]
  exact h
theorem RFam.cg {C D : List Nat} {J : List Int} {σ σ' τ τ' : St} (h : RFam σ 17 τ) (fx : Fr C σ σ') (fm : Fm D J τ τ') (d : ([34, 35] : List Nat).all (fun k => !C.contains k) = true ∧ ([36] : List Nat).all (fun k => !D.contains k) = true ∧ ([58] : List Int).all (fun k => !J.contains k) = true) : RFam σ' 17 τ' := by
  simp only [List.all_cons, List.all_nil, Bool.and_true, Bool.and_eq_true, Bool.not_eq_true', List.contains_eq_mem, decide_eq_false_iff_not] at d
  obtain ⟨dx, dm, dj⟩ := d
  have x34 : σ' 34 = σ 34 := fx 34 dx.1
  have x35 : σ' 35 = σ 35 := fx 35 dx.2
  have m36 : τ' 36 = τ 36 := fm.1 36 (by decide) dm
  have j58 : τ' 0 58 = τ 0 58 := fm.2 58 dj
  simp only [RFam, hpP, hpQ, Nat.reduceAdd] at h ⊢
  simp only [x34, x35, m36, j58]
  exact h
theorem RBoard.cg {C D : List Nat} {J : List Int} {σ σ' τ τ' : St} (h : RBoard σ 17 τ) (fx : Fr C σ σ') (fm : Fm D J τ τ') (d : ([36, 37] : List Nat).all (fun k => !C.contains k) = true ∧ ([39] : List Nat).all (fun k => !D.contains k) = true ∧ ([62] : List Int).all (fun k => !J.contains k) = true) : RBoard σ' 17 τ' := by
  simp only [List.all_cons, List.all_nil, Bool.and_true, Bool.and_eq_true, Bool.not_eq_true', List.contains_eq_mem, decide_eq_false_iff_not] at d
  obtain ⟨dx, dm, dj⟩ := d
  have x36 : σ' 36 = σ 36 := fx 36 dx.1
  have x37 : σ' 37 = σ 37 := fx 37 dx.2
  have m39 : τ' 39 = τ 39 := fm.1 39 (by decide) dm
  have j62 : τ' 0 62 = τ 0 62 := fm.2 62 dj
  simp only [RBoard, hpP, hpQ, Nat.reduceAdd] at h ⊢
  simp only [x36, x37, m39, j62]
  exact h
theorem RTalk.cg {C D : List Nat} {J : List Int} {σ σ' τ τ' : St} (h : RTalk σ 17 τ) (fx : Fr C σ σ') (fm : Fm D J τ τ') (d : ([38, 39] : List Nat).all (fun k => !C.contains k) = true ∧ ([40] : List Nat).all (fun k => !D.contains k) = true ∧ ([64] : List Int).all (fun k => !J.contains k) = true) : RTalk σ' 17 τ' := by
  simp only [List.all_cons, List.all_nil, Bool.and_true, Bool.and_eq_true, Bool.not_eq_true', List.contains_eq_mem, decide_eq_false_iff_not] at d
  obtain ⟨dx, dm, dj⟩ := d
  have x38 : σ' 38 = σ 38 := fx 38 dx.1
  have x39 : σ' 39 = σ 39 := fx 39 dx.2
  have m40 : τ' 40 = τ 40 := fm.1 40 (by decide) dm
  have j64 : τ' 0 64 = τ 0 64 := fm.2 64 dj
  simp only [RTalk, hpP, hpQ, Nat.reduceAdd] at h ⊢
  simp only [x38, x39, m40, j64]
  exact h
theorem RHalf.cg {C D : List Nat} {J : List Int} {σ σ' τ τ' : St} (h : RHalf σ 17 τ) (fx : Fr C σ σ') (fm : Fm D J τ τ') (d : ([40, 41, 42, 43, 44, 45] : List Nat).all (fun k => !C.contains k) = true ∧ ([42, 43] : List Nat).all (fun k => !D.contains k) = true ∧ ([] : List Int).all (fun k => !J.contains k) = true) : RHalf σ' 17 τ' := by
  simp only [List.all_cons, List.all_nil, Bool.and_true, Bool.and_eq_true, Bool.not_eq_true', List.contains_eq_mem, decide_eq_false_iff_not] at d
  obtain ⟨dx, dm, dj⟩ := d
  have x40 : σ' 40 = σ 40 := fx 40 dx.1
  have x41 : σ' 41 = σ 41 := fx 41 dx.2.1
  have x42 : σ' 42 = σ 42 := fx 42 dx.2.2.1
  have x43 : σ' 43 = σ 43 := fx 43 dx.2.2.2.1
  have x44 : σ' 44 = σ 44 := fx 44 dx.2.2.2.2.1
  have x45 : σ' 45 = σ 45 := fx 45 dx.2.2.2.2.2
  have m42 : τ' 42 = τ 42 := fm.1 42 (by decide) dm.1
  have m43 : τ' 43 = τ 43 := fm.1 43 (by decide) dm.2
  simp only [RHalf, hpP, hpQ, Nat.reduceAdd] at h ⊢
  simp only [x40, x41, x42, x43, x44, x45, m42, m43]
  exact h
theorem RSwing.cg {C D : List Nat} {J : List Int} {σ σ' τ τ' : St} (h : RSwing σ 17 τ) (fx : Fr C σ σ') (fm : Fm D J τ τ') (d : ([46, 47] : List Nat).all (fun k => !C.contains k) = true ∧ ([45] : List Nat).all (fun k => !D.contains k) = true ∧ ([70] : List Int).all (fun k => !J.contains k) = true) : RSwing σ' 17 τ' := by
  simp only [List.all_cons, List.all_nil, Bool.and_true, Bool.and_eq_true, Bool.not_eq_true', List.contains_eq_mem, decide_eq_false_iff_not] at d
  obtain ⟨dx, dm, dj⟩ := d
  have x46 : σ' 46 = σ 46 := fx 46 dx.1
  have x47 : σ' 47 = σ 47 := fx 47 dx.2
  have m45 : τ' 45 = τ 45 := fm.1 45 (by decide) dm
  have j70 : τ' 0 70 = τ 0 70 := fm.2 70 dj
  simp only [RSwing, hpP, hpQ, Nat.reduceAdd] at h ⊢
  simp only [x46, x47, m45, j70]
  exact h
theorem RQuar.cg {C D : List Nat} {J : List Int} {σ σ' τ τ' : St} (h : RQuar σ 17 τ) (fx : Fr C σ σ') (fm : Fm D J τ τ') (d : ([48, 49] : List Nat).all (fun k => !C.contains k) = true ∧ ([46] : List Nat).all (fun k => !D.contains k) = true ∧ ([72] : List Int).all (fun k => !J.contains k) = true) : RQuar σ' 17 τ' := by
  simp only [List.all_cons, List.all_nil, Bool.and_true, Bool.and_eq_true, Bool.not_eq_true', List.contains_eq_mem, decide_eq_false_iff_not] at d
  obtain ⟨dx, dm, dj⟩ := d
  have x48 : σ' 48 = σ 48 := fx 48 dx.1
  have x49 : σ' 49 = σ 49 := fx 49 dx.2
  have m46 : τ' 46 = τ 46 := fm.1 46 (by decide) dm
  have j72 : τ' 0 72 = τ 0 72 := fm.2 72 dj
  simp only [RQuar, hpP, hpQ, Nat.reduceAdd] at h ⊢
  simp only [x48, x49, m46, j72]
  exact h
theorem RB.cg {C D : List Nat} {J : List Int} {σ σ' τ τ' : St} (h : RB σ 50 τ) (fx : Fr C σ σ') (fm : Fm D J τ τ') (d : ([50, 51] : List Nat).all (fun k => !C.contains k) = true ∧ ([1, 7] : List Nat).all (fun k => !D.contains k) = true ∧ ([] : List Int).all (fun k => !J.contains k) = true) : RB σ' 50 τ' := by
  simp only [List.all_cons, List.all_nil, Bool.and_true, Bool.and_eq_true, Bool.not_eq_true', List.contains_eq_mem, decide_eq_false_iff_not] at d
  obtain ⟨dx, dm, dj⟩ := d
  have x50 : σ' 50 = σ 50 := fx 50 dx.1
  have x51 : σ' 51 = σ 51 := fx 51 dx.2
  have m1 : τ' 1 = τ 1 := fm.1 1 (by decide) dm.1
  have m7 : τ' 7 = τ 7 := fm.1 7 (by decide) dm.2
  simp only [RB, hpP, hpQ, Nat.reduceAdd] at h ⊢
  simp only [x50, x51, m1, m7]
  exact h
theorem RU.cg {C D : List Nat} {J : List Int} {σ σ' τ τ' : St} (h : RU σ τ) (fx : Fr C σ σ') (fm : Fm D J τ τ') (d : ([52, 54, 55, 56, 57, 58, 59, 60, 61, 62, 63, 64, 65, 66, 67, 68, 69, 70, 71, 72, 73, 74, 75, 76, 77, 78, 79, 80, 81, 82, 83, 84, 85, 86, 87, 88, 89, 90, 91, 92, 93, 94, 95, 96, 97, 98, 99, 100, 101, 102, 103, 104, 105, 106, 107, 108, 109, 110, 111, 112, 113, 114, 115, 116, 117, 118, 119, 120, 121, 122, 123, 124, 125, 126, 127, 128, 129, 130, 131, 132, 133, 134, 135, 136, 137, 138] : List Nat).all (fun k => !C.contains k) = true ∧ ([1, 2, 4, 5, 6] : List Nat).all (fun k => !D.contains k) = true ∧ ([3, 6, 7] : List Int).all (fun k => !J.contains k) = true) : RU σ' τ' := by
  simp only [List.all_cons, List.all_nil, Bool.and_true, Bool.and_eq_true, Bool.not_eq_true', List.contains_eq_mem, decide_eq_false_iff_not] at d
  obtain ⟨dx, dm, dj⟩ := d
  have e1 : τ' 0 3 = τ 0 3 := fm.2 3 dj.1
  have e2 : τ' 0 6 = τ 0 6 := fm.2 6 dj.2.1
  have e3 : τ' 0 7 = τ 0 7 := fm.2 7 dj.2.2
  have m1 : τ' 1 = τ 1 := fm.1 1 (by decide) dm.1
  have m2 : τ' 2 = τ 2 := fm.1 2 (by decide) dm.2.1
  have m4 : τ' 4 = τ 4 := fm.1 4 (by decide) dm.2.2.1
  have m5 : τ' 5 = τ 5 := fm.1 5 (by decide) dm.2.2.2.1
  have m6 : τ' 6 = τ 6 := fm.1 6 (by decide) dm.2.2.2.2
  have x52 : σ' 52 = σ 52 := fx 52 dx.1
  have x54 : σ' 54 = σ 54 := fx 54 dx.2.1
  have hx : ∀ k, 55 ≤ k → k ≤ 138 → σ' k = σ k := by
    intro k h1 h2
    apply fx
    intro hk
    have : k ∈ ([55, 56, 57, 58, 59, 60, 61, 62, 63, 64, 65, 66, 67, 68, 69, 70, 71, 72, 73, 74, 75, 76, 77, 78, 79, 80, 81, 82, 83, 84, 85, 86, 87, 88, 89, 90, 91, 92, 93, 94, 95, 96, 97, 98, 99, 100, 101, 102, 103, 104, 105, 106, 107, 108, 109, 110, 111, 112, 113, 114, 115, 116, 117, 118, 119, 120, 121, 122, 123, 124, 125, 126, 127, 128, 129, 130, 131, 132, 133, 134, 135, 136, 137, 138] : List Nat) := by
      obtain ⟨j, rfl⟩ : ∃ j, k = 55 + j := ⟨k - 55, by omega⟩
      have hj : j < 84 := by omega
      clear h1 h2 hk
      revert j
      decide
    revert hk
    have dx := dx.2.2
    have key : ∀ (l : List Nat), (∀ x ∈ l, x ∉ C) → k ∈ l → k ∉ C := fun l hl hk => hl k hk
    apply key _ _ this
    simp only [List.forall_mem_cons, List.not_mem_nil, false_imp_iff, implies_true, and_true]
    exact dx
  obtain ⟨h0, h1⟩ := h
  refine ⟨by rw [e1, x52]; exact h0, ?_⟩
  rw [e1, x52, x54, m1, m2]
  intro j hj0 hj
  obtain ⟨a, b⟩ := h1 j hj0 hj
  refine ⟨?_, b⟩
  have hs : ∀ s : Int, 0 ≤ s → s < 6 → ∀ i, i ≤ 13 → σ' (hk s + i) = σ (hk s + i) := by
    intro s s0 s1 i hi
    unfold hk
    exact hx _ (by omega) (by omega)
  have q0 := hs ((σ 52 3 - τ 0 3 + j) % 6) (by omega) (by omega)
  generalize hk ((σ 52 3 - τ 0 3 + j) % 6) = b0 at a q0 ⊢
  have v0 : vK τ' j 0 6 = vK τ j 0 6 := e2
  have v1 : vK τ' j 0 7 = vK τ j 0 7 := e3
  have v2 : vK τ' j 1 = vK τ j 1 := by unfold vK; simp only [m2, if_true]
  have v4 : vK τ' j 4 = vK τ j 4 := m4
  have v5 : vK τ' j 5 = vK τ j 5 := m5
  have v6 : vK τ' j 6 = vK τ j 6 := m6
  have z := q0 0 (by omega)
  simp only [RH, hpP, hpQ, v0, v1, v2, v4, v5, v6, q0 1 (by omega), q0 2 (by omega), q0 3 (by omega), q0 4 (by omega), q0 5 (by omega), q0 6 (by omega), q0 7 (by omega), q0 8 (by omega), q0 9 (by omega), q0 10 (by omega), q0 11 (by omega), q0 12 (by omega), q0 13 (by omega)] at a ⊢
  rw [show σ' b0 = σ b0 from z]
  exact a
theorem RI.cg {C D : List Nat} {J : List Int} {σ σ' τ τ' : St} (h : RI σ τ) (fx : Fr C σ σ') (fm : Fm D J τ τ') (d : ([0, 185, 186, 187, 188, 189, 190, 191, 192, 193, 194, 195, 196, 197, 198, 199, 200, 201, 202, 203, 204, 205, 206, 207, 208, 209, 210, 211, 212, 213, 214, 215, 216, 217, 218, 219, 220, 221, 222, 223, 224, 225, 226, 227, 228, 229, 230, 231, 232, 233] : List Nat).all (fun k => !C.contains k) = true ∧ ([56] : List Nat).all (fun k => !D.contains k) = true ∧ ([84] : List Int).all (fun k => !J.contains k) = true) : RI σ' τ' := by
  simp only [List.all_cons, List.all_nil, Bool.and_true, Bool.and_eq_true, Bool.not_eq_true', List.contains_eq_mem, decide_eq_false_iff_not] at d
  obtain ⟨dx, dm, dj⟩ := d
  have e1 : τ' 0 84 = τ 0 84 := fm.2 84 dj
  have m1 : τ' 56 = τ 56 := fm.1 56 (by decide) dm
  have x0 : σ' 0 = σ 0 := fx 0 dx.1
  have v : iV τ' = iV τ := by unfold iV; rw [m1]
  have x185 : σ' 185 = σ 185 := fx 185 dx.2.1
  have x186 : σ' 186 = σ 186 := fx 186 dx.2.2.1
  have x187 : σ' 187 = σ 187 := fx 187 dx.2.2.2.1
  have x188 : σ' 188 = σ 188 := fx 188 dx.2.2.2.2.1
  have x189 : σ' 189 = σ 189 := fx 189 dx.2.2.2.2.2.1
  have x190 : σ' 190 = σ 190 := fx 190 dx.2.2.2.2.2.2.1
  have x191 : σ' 191 = σ 191 := fx 191 dx.2.2.2.2.2.2.2.1
  have x192 : σ' 192 = σ 192 := fx 192 dx.2.2.2.2.2.2.2.2.1
  have x193 : σ' 193 = σ 193 := fx 193 dx.2.2.2.2.2.2.2.2.2.1
  have x194 : σ' 194 = σ 194 := fx 194 dx.2.2.2.2.2.2.2.2.2.2.1
  have x195 : σ' 195 = σ 195 := fx 195 dx.2.2.2.2.2.2.2.2.2.2.2.1
  have x196 : σ' 196 = σ 196 := fx 196 dx.2.2.2.2.2.2.2.2.2.2.2.2.1
  have x197 : σ' 197 = σ 197 := fx 197 dx.2.2.2.2.2.2.2.2.2.2.2.2.2.1
  have x198 : σ' 198 = σ 198 := fx 198 dx.2.2.2.2.2.2.2.2.2.2.2.2.2.2.1
  have x199 : σ' 199 = σ 199 := fx 199 dx.2.2.2.2.2.2.2.2.2.2.2.2.2.2.2.1
  have x200 : σ' 200 = σ 200 := fx 200 dx.2.2.2.2.2.2.2.2.2.2.2.2.2.2.2.2.1
  have x201 : σ' 201 = σ 201 := fx 201 dx.2.2.2.2.2.2.2.2.2.2.2.2.2.2.2.2.2.1
  have x202 : σ' 202 = σ 202 := fx 202 dx.2.2.2.2.2.2.2.2.2.2.2.2.2.2.2.2.2.2.1
  have x203 : σ' 203 = σ 203 := fx 203 dx.2.2.2.2.2.2.2.2.2.2.2.2.2.2.2.2.2.2.2.1
  have x204 : σ' 204 = σ 204 := fx 204 dx.2.2.2.2.2.2.2.2.2.2.2.2.2.2.2.2.2.2.2.2.1
  have x205 : σ' 205 = σ 205 := fx 205 dx.2.2.2.2.2.2.2.2.2.2.2.2.2.2.2.2.2.2.2.2.2.1
  have x206 : σ' 206 = σ 206 := fx 206 dx.2.2.2.2.2.2.2.2.2.2.2.2.2.2.2.2.2.2.2.2.2.2.1
  have x207 : σ' 207 = σ 207 := fx 207 dx.2.2.2.2.2.2.2.2.2.2.2.2.2.2.2.2.2.2.2.2.2.2.2.1
  have x208 : σ' 208 = σ 208 := fx 208 dx.2.2.2.2.2.2.2.2.2.2.2.2.2.2.2.2.2.2.2.2.2.2.2.2.1
  have x209 : σ' 209 = σ 209 := fx 209 dx.2.2.2.2.2.2.2.2.2.2.2.2.2.2.2.2.2.2.2.2.2.2.2.2.2.1
  have x210 : σ' 210 = σ 210 := fx 210 dx.2.2.2.2.2.2.2.2.2.2.2.2.2.2.2.2.2.2.2.2.2.2.2.2.2.2.1
  have x211 : σ' 211 = σ 211 := fx 211 dx.2.2.2.2.2.2.2.2.2.2.2.2.2.2.2.2.2.2.2.2.2.2.2.2.2.2.2.1
  have x212 : σ' 212 = σ 212 := fx 212 dx.2.2.2.2.2.2.2.2.2.2.2.2.2.2.2.2.2.2.2.2.2.2.2.2.2.2.2.2.1
  have x213 : σ' 213 = σ 213 := fx 213 dx.2.2.2.2.2.2.2.2.2.2.2.2.2.2.2.2.2.2.2.2.2.2.2.2.2.2.2.2.2.1
  have x214 : σ' 214 = σ 214 := fx 214 dx.2.2.2.2.2.2.2.2.2.2.2.2.2.2.2.2.2.2.2.2.2.2.2.2.2.2.2.2.2.2.1
  have x215 : σ' 215 = σ 215 := fx 215 dx.2.2.2.2.2.2.2.2.2.2.2.2.2.2.2.2.2.2.2.2.2.2.2.2.2.2.2.2.2.2.2.1
  have x216 : σ' 216 = σ 216 := fx 216 dx.2.2.2.2.2.2.2.2.2.2.2.2.2.2.2.2.2.2.2.2.2.2.2.2.2.2.2.2.2.2.2.2.1
  have x217 : σ' 217 = σ 217 := fx 217 dx.2.2.2.2.2.2.2.2.2.2.2.2.2.2.2.2.2.2.2.2.2.2.2.2.2.2.2.2.2.2.2.2.2.1
  have x218 : σ' 218 = σ 218 := fx 218 dx.2.2.2.2.2.2.2.2.2.2.2.2.2.2.2.2.2.2.2.2.2.2.2.2.2.2.2.2.2.2.2.2.2.2.1
  have x219 : σ' 219 = σ 219 := fx 219 dx.2.2.2.2.2.2.2.2.2.2.2.2.2.2.2.2.2.2.2.2.2.2.2.2.2.2.2.2.2.2.2.2.2.2.2.1
  have x220 : σ' 220 = σ 220 := fx 220 dx.2.2.2.2.2.2.2.2.2.2.2.2.2.2.2.2.2.2.2.2.2.2.2.2.2.2.2.2.2.2.2.2.2.2.2.2.1
  have x221 : σ' 221 = σ 221 := fx 221 dx.2.2.2.2.2.2.2.2.2.2.2.2.2.2.2.2.2.2.2.2.2.2.2.2.2.2.2.2.2.2.2.2.2.2.2.2.2.1
  have x222 : σ' 222 = σ 222 := fx 222 dx.2.2.2.2.2.2.2.2.2.2.2.2.2.2.2.2.2.2.2.2.2.2.2.2.2.2.2.2.2.2.2.2.2.2.2.2.2.2.1
  have x223 : σ' 223 = σ 223 := fx 223 dx.2.2.2.2.2.2.2.2.2.2.2.2.2.2.2.2.2.2.2.2.2.2.2.2.2.2.2.2.2.2.2.2.2.2.2.2.2.2.2.1
  have x224 : σ' 224 = σ 224 := fx 224 dx.2.2.2.2.2.2.2.2.2.2.2.2.2.2.2.2.2.2.2.2.2.2.2.2.2.2.2.2.2.2.2.2.2.2.2.2.2.2.2.2.1
  have x225 : σ' 225 = σ 225 := fx 225 dx.2.2.2.2.2.2.2.2.2.2.2.2.2.2.2.2.2.2.2.2.2.2.2.2.2.2.2.2.2.2.2.2.2.2.2.2.2.2.2.2.2.1
  have x226 : σ' 226 = σ 226 := fx 226 dx.2.2.2.2.2.2.2.2.2.2.2.2.2.2.2.2.2.2.2.2.2.2.2.2.2.2.2.2.2.2.2.2.2.2.2.2.2.2.2.2.2.2.1
  have x227 : σ' 227 = σ 227 := fx 227 dx.2.2.2.2.2.2.2.2.2.2.2.2.2.2.2.2.2.2.2.2.2.2.2.2.2.2.2.2.2.2.2.2.2.2.2.2.2.2.2.2.2.2.2.1
  have x228 : σ' 228 = σ 228 := fx 228 dx.2.2.2.2.2.2.2.2.2.2.2.2.2.2.2.2.2.2.2.2.2.2.2.2.2.2.2.2.2.2.2.2.2.2.2.2.2.2.2.2.2.2.2.2.1
  have x229 : σ' 229 = σ 229 := fx 229 dx.2.2.2.2.2.2.2.2.2.2.2.2.2.2.2.2.2.2.2.2.2.2.2.2.2.2.2.2.2.2.2.2.2.2.2.2.2.2.2.2.2.2.2.2.2.1
  have x230 : σ' 230 = σ 230 := fx 230 dx.2.2.2.2.2.2.2.2.2.2.2.2.2.2.2.2.2.2.2.2.2.2.2.2.2.2.2.2.2.2.2.2.2.2.2.2.2.2.2.2.2.2.2.2.2.2.1
  have x231 : σ' 231 = σ 231 := fx 231 dx.2.2.2.2.2.2.2.2.2.2.2.2.2.2.2.2.2.2.2.2.2.2.2.2.2.2.2.2.2.2.2.2.2.2.2.2.2.2.2.2.2.2.2.2.2.2.2.1
  have x232 : σ' 232 = σ 232 := fx 232 dx.2.2.2.2.2.2.2.2.2.2.2.2.2.2.2.2.2.2.2.2.2.2.2.2.2.2.2.2.2.2.2.2.2.2.2.2.2.2.2.2.2.2.2.2.2.2.2.2.1
  have x233 : σ' 233 = σ 233 := fx 233 dx.2.2.2.2.2.2.2.2.2.2.2.2.2.2.2.2.2.2.2.2.2.2.2.2.2.2.2.2.2.2.2.2.2.2.2.2.2.2.2.2.2.2.2.2.2.2.2.2.2
  obtain ⟨h1, h2, h3, h5⟩ := h
  refine ⟨by rw [x0]; exact h1, by rw [x0, e1]; exact h2, ?_, ?_⟩
  rotate_left
  · simp only [x185, x186, x187, x188, x189, x190, x191, x192, x193, x194, x195, x196, x197, x198, x199, x200, x201, x202, x203, x204, x205, x206, x207, x208, x209, x210, x211, x212, x213, x214, x215, x216, x217, x218, x219, x220, x221, x222, x223, x224, x225, x226, x227, x228, x229, x230, x231, x232, x233]
    exact h5
  rw [x0, v]
  intro h
  have h4 := h3 h
  simp only [core, RH, RLaw, RCalls, REven, RStreet, RWish, RChair, RCat, RFam, RBoard, RTalk, RHalf, RSwing, RQuar, RB, hpP, hpQ, Nat.reduceAdd] at h4 ⊢
  simp only [x185, x186, x187, x188, x189, x190, x191, x192, x193, x194, x195, x196, x197, x198, x199, x200, x201, x202, x203, x204, x205, x206, x207, x208, x209, x210, x211, x212, x213, x214, x215, x216, x217, x218, x219, x220, x221, x222, x223, x224, x225, x226, x227, x228, x229, x230, x231, x232, x233]
  exact h4
theorem RP.cg {C D : List Nat} {J : List Int} {σ σ' τ τ' : St} (h : RP σ τ) (fx : Fr C σ σ') (fm : Fm D J τ τ') (d : ([1, 2] : List Nat).all (fun k => !C.contains k) = true ∧ ([8] : List Nat).all (fun k => !D.contains k) = true ∧ ([13] : List Int).all (fun k => !J.contains k) = true) : RP σ' τ' := by
  simp only [List.all_cons, List.all_nil, Bool.and_true, Bool.and_eq_true, Bool.not_eq_true', List.contains_eq_mem, decide_eq_false_iff_not] at d
  obtain ⟨dx, dm, dj⟩ := d
  have x1 : σ' 1 = σ 1 := fx 1 dx.1
  have x2 : σ' 2 = σ 2 := fx 2 dx.2
  have m8 : τ' 8 = τ 8 := fm.1 8 (by decide) dm
  have j13 : τ' 0 13 = τ 0 13 := fm.2 13 dj
  simp only [RP, hpP, hpQ, Nat.reduceAdd] at h ⊢
  simp only [x1, x2, m8, j13]
  exact h
theorem RF.cg {C D : List Nat} {J : List Int} {σ σ' τ τ' : St} (h : RF σ τ) (fx : Fr C σ σ') (fm : Fm D J τ τ') (d : ([139] : List Nat).all (fun k => !C.contains k) = true ∧ ([] : List Nat).all (fun k => !D.contains k) = true ∧ ([33, 34] : List Int).all (fun k => !J.contains k) = true) : RF σ' τ' := by
  simp only [List.all_cons, List.all_nil, Bool.and_true, Bool.and_eq_true, Bool.not_eq_true', List.contains_eq_mem, decide_eq_false_iff_not] at d
  obtain ⟨dx, dm, dj⟩ := d
  have x139 : σ' 139 = σ 139 := fx 139 dx
  have j33 : τ' 0 33 = τ 0 33 := fm.2 33 dj.1
  have j34 : τ' 0 34 = τ 0 34 := fm.2 34 dj.2
  simp only [RF, hpP, hpQ, Nat.reduceAdd] at h ⊢
  simp only [x139, j33, j34]
  exact h
theorem RS.cg {C D : List Nat} {J : List Int} {σ σ' τ τ' : St} (h : RS σ τ) (fx : Fr C σ σ') (fm : Fm D J τ τ') (d : ([140, 142, 152] : List Nat).all (fun k => !C.contains k) = true ∧ ([9] : List Nat).all (fun k => !D.contains k) = true ∧ ([5] : List Int).all (fun k => !J.contains k) = true) : RS σ' τ' := by
  simp only [List.all_cons, List.all_nil, Bool.and_true, Bool.and_eq_true, Bool.not_eq_true', List.contains_eq_mem, decide_eq_false_iff_not] at d
  obtain ⟨dx, dm, dj⟩ := d
  have x140 : σ' 140 = σ 140 := fx 140 dx.1
  have x142 : σ' 142 = σ 142 := fx 142 dx.2.1
  have x152 : σ' 152 = σ 152 := fx 152 dx.2.2
  have m9 : τ' 9 = τ 9 := fm.1 9 (by decide) dm
  have j5 : τ' 0 5 = τ 0 5 := fm.2 5 dj
  simp only [RS, hpP, hpQ, Nat.reduceAdd] at h ⊢
  simp only [x140, x142, x152, m9, j5]
  exact h
/-- cells of work -/
def wX : List Nat := [17, 53, 141, 143, 144, 145, 146, 147, 148, 149, 150, 151, 153, 154, 155, 156, 157, 158, 159, 160, 161, 162, 163, 164, 165, 166, 167, 168, 169, 170, 171, 172, 173, 174, 175, 176, 177, 178, 179, 180, 181, 182, 183, 184]
def wM : List Nat := [3, 17, 21, 22, 24, 25, 26, 27, 28, 35, 37, 38, 41, 44, 47, 48, 49, 50, 51, 52, 53, 54, 55]
def wJ : List Int := [0, 1, 2, 4, 8, 9, 10, 11, 12, 14, 15, 16, 17, 18, 19, 20, 21, 22, 23, 24, 25, 26, 27, 28, 29, 30, 31, 32, 36, 38, 40, 41, 42, 43, 44, 45, 46, 47, 48, 50, 51, 53, 54, 55, 56, 57, 59, 60, 61, 63, 65, 66, 67, 68, 69, 71, 73, 74, 75, 76, 77, 78, 79, 80, 81, 82, 83, 85, 86]
theorem Rl.work {σ σ' τ τ' : St} (h : Rl σ τ) (fx : Fr wX σ σ') (fm : Fm wM wJ τ τ') : Rl σ' τ' := by
  obtain ⟨h0, h1, h2, h3, h4, h5, h6, h7, h8, h9, h10, h11, h12, h13, h14, h15, h16, h17, h18, h19⟩ := h
  exact ⟨h0.cg fx fm (by decide), h1.cg fx fm (by decide), h2.cg fx fm (by decide), h3.cg fx fm (by decide), h4.cg fx fm (by decide), h5.cg fx fm (by decide), h6.cg fx fm (by decide), h7.cg fx fm (by decide), h8.cg fx fm (by decide), h9.cg fx fm (by decide), h10.cg fx fm (by decide), h11.cg fx fm (by decide), h12.cg fx fm (by decide), h13.cg fx fm (by decide), h14.cg fx fm (by decide), h15.cg fx fm (by decide), h16.cg fx fm (by decide), h17.cg fx fm (by decide), h18.cg fx fm (by decide), h19.cg fx fm (by decide)⟩
