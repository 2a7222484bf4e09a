/-! Long.bitCount's sum, byte by byte -/
theorem and256 {b m : Nat} (y M : Nat) (hb : b < 256) (hm : m < 256) : (256 * y + b) &&& (256 * M + m) = 256 * (y &&& M) + (b &&& m) := by
  apply Nat.eq_of_testBit_eq
  intro i
  have hbm : b &&& m < 2 ^ 8 := Nat.lt_of_le_of_lt Nat.and_le_left hb
  rw [Nat.testBit_and]
  show ((2 ^ 8 * y + b).testBit i && (2 ^ 8 * M + m).testBit i) = (2 ^ 8 * (y &&& M) + (b &&& m)).testBit i
  rw [Nat.testBit_two_pow_mul_add _ (show b < 2 ^ 8 from hb), Nat.testBit_two_pow_mul_add _ (show m < 2 ^ 8 from hm), Nat.testBit_two_pow_mul_add _ hbm]
  by_cases h : i < 8
  · simp [h]
  · simp [h]
def rep8 (m : Nat) : Nat → Nat
  | 0 => 0
  | n + 1 => 256 * rep8 m n + m
def bA (n x : Nat) : Nat := x - ((x / 2) &&& rep8 0x55 n)
def bB (n x : Nat) : Nat := (bA n x &&& rep8 0x33 n) + ((bA n x / 4) &&& rep8 0x33 n)
def bC (n x : Nat) : Nat := (bB n x + bB n x / 16) &&& rep8 0x0f n
theorem byA : ∀ b, b < 256 → ∀ z, z < 2 → (128 * z + b / 2) &&& 0x55 = (b / 2) &&& 0x55 := by decide +kernel
theorem byA1 : ∀ b, b < 256 → bA 1 b = b - ((b / 2) &&& 0x55) ∧ bA 1 b < 256 := by decide +kernel
theorem byB : ∀ b, b < 256 → ∀ z, z < 4 → (64 * z + bA 1 b / 4) &&& 0x33 = (bA 1 b / 4) &&& 0x33 := by decide +kernel
theorem byB1 : ∀ b, b < 256 → bB 1 b = (bA 1 b &&& 0x33) + ((bA 1 b / 4) &&& 0x33) ∧ bB 1 b ≤ 68 ∧ bB 1 b % 16 ≤ 4 := by decide +kernel
theorem byC1 : ∀ b, b < 256 → (bB 1 b + bB 1 b / 16) % 16 = popc b 8 := by decide +kernel
theorem bA_s (n y b : Nat) (hb : b < 256) : bA (n + 1) (256 * y + b) = 256 * bA n y + bA 1 b := by
  have e : (256 * y + b) / 2 = 256 * (y / 2) + (128 * (y % 2) + b / 2) := by omega
  have h1 : 128 * (y % 2) + b / 2 < 256 := by omega
  have e2 := and256 (y / 2) (rep8 0x55 n) h1 (show (0x55 : Nat) < 256 by decide)
  have e3 := byA b hb (y % 2) (by omega)
  obtain ⟨e4, -⟩ := byA1 b hb
  have l1 : (y / 2) &&& rep8 0x55 n ≤ y / 2 := Nat.and_le_left
  have l2 : (b / 2) &&& 0x55 ≤ b / 2 := Nat.and_le_left
  show 256 * y + b - ((256 * y + b) / 2 &&& (256 * rep8 0x55 n + 0x55)) = 256 * (y - ((y / 2) &&& rep8 0x55 n)) + bA 1 b
  rw [e, e2, e3, e4]
  omega
theorem bB_s (n y b : Nat) (hb : b < 256) : bB (n + 1) (256 * y + b) = 256 * bB n y + bB 1 b := by
  obtain ⟨-, h0⟩ := byA1 b hb
  obtain ⟨h1, h2, -⟩ := byB1 b hb
  have e1 := and256 (bA n y) (rep8 0x33 n) h0 (show (0x33 : Nat) < 256 by decide)
  have e : (256 * bA n y + bA 1 b) / 4 = 256 * (bA n y / 4) + (64 * (bA n y % 4) + bA 1 b / 4) := by omega
  have h3 : 64 * (bA n y % 4) + bA 1 b / 4 < 256 := by omega
  have e2 := and256 (bA n y / 4) (rep8 0x33 n) h3 (show (0x33 : Nat) < 256 by decide)
  have e3 := byB b hb (bA n y % 4) (by omega)
  show (bA (n + 1) (256 * y + b) &&& (256 * rep8 0x33 n + 0x33)) + (bA (n + 1) (256 * y + b) / 4 &&& (256 * rep8 0x33 n + 0x33)) = 256 * ((bA n y &&& rep8 0x33 n) + ((bA n y / 4) &&& rep8 0x33 n)) + bB 1 b
  rw [bA_s n y b hb, e1, e, e2, e3, h1]
  omega
theorem bB_lo (n y : Nat) : bB n y % 16 ≤ 4 := by
  cases n with
  | zero =>
    have : bB 0 y = 0 := by simp [bB, bA, rep8]
    omega
  | succ n =>
    have hb : y % 256 < 256 := Nat.mod_lt _ (by decide)
    have e : y = 256 * (y / 256) + y % 256 := by omega
    obtain ⟨-, -, h⟩ := byB1 _ hb
    have := bB_s n (y / 256) (y % 256) hb
    rw [← e] at this
    omega
theorem bC_s (n y b : Nat) (hb : b < 256) : bC (n + 1) (256 * y + b) = 256 * bC n y + popc b 8 := by
  obtain ⟨-, h2, -⟩ := byB1 b hb
  have h3 := bB_lo n y
  have h4 := byC1 b hb
  have e : 256 * bB n y + bB 1 b + (256 * bB n y + bB 1 b) / 16 = 256 * (bB n y + bB n y / 16) + (16 * (bB n y % 16) + (bB 1 b + bB 1 b / 16)) := by omega
  have h5 : 16 * (bB n y % 16) + (bB 1 b + bB 1 b / 16) < 256 := by omega
  have e2 := and256 (bB n y + bB n y / 16) (rep8 0x0f n) h5 (show (0x0f : Nat) < 256 by decide)
  have e3 : (16 * (bB n y % 16) + (bB 1 b + bB 1 b / 16)) &&& 0x0f = popc b 8 := by
    rw [show (0x0f : Nat) = 2 ^ 4 - 1 from rfl, Nat.and_two_pow_sub_one_eq_mod]
    omega
  show (bB (n + 1) (256 * y + b) + bB (n + 1) (256 * y + b) / 16) &&& (256 * rep8 0x0f n + 0x0f) = 256 * ((bB n y + bB n y / 16) &&& rep8 0x0f n) + popc b 8
  rw [bB_s n y b hb, e, e2, e3]
theorem popc_s (y b : Nat) (hb : b < 256) : ∀ f, popc (256 * y + b) (8 + f) = popc b 8 + popc y f
  | 0 => by
    have h : ∀ k, k ≤ 8 → popc (256 * y + b) k = popc b k := by
      intro k
      induction k with
      | zero => intro _; rfl
      | succ k ih =>
        intro hk
        show popc (256 * y + b) k + ((2 ^ 8 * y + b).testBit k).toNat = popc b k + (b.testBit k).toNat
        rw [ih (by omega), Nat.testBit_two_pow_mul_add _ (show b < 2 ^ 8 from hb), if_pos (by omega)]
    exact h 8 (Nat.le_refl 8)
  | f + 1 => by
    show popc (256 * y + b) (8 + f) + ((2 ^ 8 * y + b).testBit (8 + f)).toNat = popc b 8 + (popc y f + (y.testBit f).toNat)
    rw [popc_s y b hb f, Nat.testBit_two_pow_mul_add _ (show b < 2 ^ 8 from hb), if_neg (by omega), show 8 + f - 8 = f by omega]
    omega
/-- the whole of it, for a long that isn't negative -/
def bcl (x : Nat) : Nat :=
  let i := bC 8 x
  let i := i + i / 256
  let i := i + i / 65536
  let i := i + i / 4294967296
  i % 128
theorem bcl_eq (x : Nat) (hx : x < 2 ^ 64) : bcl x = popc x 64 := by
  have d : ∀ y : Nat, y = 256 * (y / 256) + y % 256 := fun y => by omega
  have m : ∀ y : Nat, y % 256 < 256 := fun y => Nat.mod_lt _ (by decide)
  have c : ∀ n y : Nat, bC (n + 1) y = 256 * bC n (y / 256) + popc (y % 256) 8 := fun n y => by
    have := bC_s n (y / 256) (y % 256) (m y)
    rw [← d y] at this
    exact this
  have q : ∀ f y : Nat, popc y (8 + f) = popc (y % 256) 8 + popc (y / 256) f := fun f y => by
    have := popc_s (y / 256) (y % 256) (m y) f
    rw [← d y] at this
    exact this
  have z : ∀ y, bC 0 y = 0 := fun y => by simp [bC, bB, bA, rep8]
  have p : ∀ y, popc y 8 ≤ 8 := fun y => popc_le y 8
  have e1 : bC 8 x = 256 * bC 7 (x / 256) + popc (x % 256) 8 := c 7 x
  have e2 : bC 7 (x / 256) = 256 * bC 6 (x / 256 / 256) + popc (x / 256 % 256) 8 := c 6 (x / 256)
  have e3 : bC 6 (x / 256 / 256) = 256 * bC 5 (x / 256 / 256 / 256) + popc (x / 256 / 256 % 256) 8 := c 5 (x / 256 / 256)
  have e4 : bC 5 (x / 256 / 256 / 256) = 256 * bC 4 (x / 256 / 256 / 256 / 256) + popc (x / 256 / 256 / 256 % 256) 8 := c 4 (x / 256 / 256 / 256)
  have e5 : bC 4 (x / 256 / 256 / 256 / 256) = 256 * bC 3 (x / 256 / 256 / 256 / 256 / 256) + popc (x / 256 / 256 / 256 / 256 % 256) 8 := c 3 (x / 256 / 256 / 256 / 256)
  have e6 : bC 3 (x / 256 / 256 / 256 / 256 / 256) = 256 * bC 2 (x / 256 / 256 / 256 / 256 / 256 / 256) + popc (x / 256 / 256 / 256 / 256 / 256 % 256) 8 := c 2 (x / 256 / 256 / 256 / 256 / 256)
  have e7 : bC 2 (x / 256 / 256 / 256 / 256 / 256 / 256) = 256 * bC 1 (x / 256 / 256 / 256 / 256 / 256 / 256 / 256) + popc (x / 256 / 256 / 256 / 256 / 256 / 256 % 256) 8 := c 1 (x / 256 / 256 / 256 / 256 / 256 / 256)
  have e8 : bC 1 (x / 256 / 256 / 256 / 256 / 256 / 256 / 256) = 256 * bC 0 (x / 256 / 256 / 256 / 256 / 256 / 256 / 256 / 256) + popc (x / 256 / 256 / 256 / 256 / 256 / 256 / 256 % 256) 8 := c 0 (x / 256 / 256 / 256 / 256 / 256 / 256 / 256)
  rw [z] at e8
  have f1 := q 56 x
  have f2 := q 48 (x / 256)
  have f3 := q 40 (x / 256 / 256)
  have f4 := q 32 (x / 256 / 256 / 256)
  have f5 := q 24 (x / 256 / 256 / 256 / 256)
  have f6 := q 16 (x / 256 / 256 / 256 / 256 / 256)
  have f7 := q 8 (x / 256 / 256 / 256 / 256 / 256 / 256)
  have f8 := q 0 (x / 256 / 256 / 256 / 256 / 256 / 256 / 256)
  have f9 : popc (x / 256 / 256 / 256 / 256 / 256 / 256 / 256 / 256) 0 = 0 := rfl
  rw [f9] at f8
  have p1 := p (x % 256)
  have p2 := p (x / 256 % 256)
  have p3 := p (x / 256 / 256 % 256)
  have p4 := p (x / 256 / 256 / 256 % 256)
  have p5 := p (x / 256 / 256 / 256 / 256 % 256)
  have p6 := p (x / 256 / 256 / 256 / 256 / 256 % 256)
  have p7 := p (x / 256 / 256 / 256 / 256 / 256 / 256 % 256)
  have p8 := p (x / 256 / 256 / 256 / 256 / 256 / 256 / 256 % 256)
  have g : popc x 64 = popc (x % 256) 8 + (popc (x / 256 % 256) 8 + (popc (x / 256 / 256 % 256) 8 + (popc (x / 256 / 256 / 256 % 256) 8 + (popc (x / 256 / 256 / 256 / 256 % 256) 8 + (popc (x / 256 / 256 / 256 / 256 / 256 % 256) 8 + (popc (x / 256 / 256 / 256 / 256 / 256 / 256 % 256) 8 + popc (x / 256 / 256 / 256 / 256 / 256 / 256 / 256 % 256) 8)))))) := by
    have f1 : popc x 64 = _ := f1
    have f2 : popc (x / 256) 56 = _ := f2
    have f3 : popc (x / 256 / 256) 48 = _ := f3
    have f4 : popc (x / 256 / 256 / 256) 40 = _ := f4
    have f5 : popc (x / 256 / 256 / 256 / 256) 32 = _ := f5
    have f6 : popc (x / 256 / 256 / 256 / 256 / 256) 24 = _ := f6
    have f7 : popc (x / 256 / 256 / 256 / 256 / 256 / 256) 16 = _ := f7
    have f8 : popc (x / 256 / 256 / 256 / 256 / 256 / 256 / 256) 8 = _ := f8
    omega
  unfold bcl
  rw [g]
  generalize popc (x % 256) 8 = t0 at *
  generalize popc (x / 256 % 256) 8 = t1 at *
  generalize popc (x / 256 / 256 % 256) 8 = t2 at *
  generalize popc (x / 256 / 256 / 256 % 256) 8 = t3 at *
  generalize popc (x / 256 / 256 / 256 / 256 % 256) 8 = t4 at *
  generalize popc (x / 256 / 256 / 256 / 256 / 256 % 256) 8 = t5 at *
  generalize popc (x / 256 / 256 / 256 / 256 / 256 / 256 % 256) 8 = t6 at *
  generalize popc (x / 256 / 256 / 256 / 256 / 256 / 256 / 256 % 256) 8 = t7 at *
  have e : bC 8 x = t0 + 256 * t1 + 65536 * t2 + 16777216 * t3 + 4294967296 * t4 + 1099511627776 * t5 + 281474976710656 * t6 + 72057594037927936 * t7 := by omega
  rw [e]
  clear e e1 e2 e3 e4 e5 e6 e7 e8 f1 f2 f3 f4 f5 f6 f7 f8 f9 g c q z d m
  have a1 : (t0 + 256 * t1 + 65536 * t2 + 16777216 * t3 + 4294967296 * t4 + 1099511627776 * t5 + 281474976710656 * t6 + 72057594037927936 * t7) / 256 = t1 + 256 * t2 + 65536 * t3 + 16777216 * t4 + 4294967296 * t5 + 1099511627776 * t6 + 281474976710656 * t7 := by omega
  have a2 : (t0 + 256 * t1 + 65536 * t2 + 16777216 * t3 + 4294967296 * t4 + 1099511627776 * t5 + 281474976710656 * t6 + 72057594037927936 * t7 + (t1 + 256 * t2 + 65536 * t3 + 16777216 * t4 + 4294967296 * t5 + 1099511627776 * t6 + 281474976710656 * t7)) / 65536 = (t2 + t3) + 256 * (t3 + t4) + 65536 * (t4 + t5) + 16777216 * (t5 + t6) + 4294967296 * (t6 + t7) + 1099511627776 * t7 := by omega
  have a3 : (t0 + 256 * t1 + 65536 * t2 + 16777216 * t3 + 4294967296 * t4 + 1099511627776 * t5 + 281474976710656 * t6 + 72057594037927936 * t7 + (t1 + 256 * t2 + 65536 * t3 + 16777216 * t4 + 4294967296 * t5 + 1099511627776 * t6 + 281474976710656 * t7) + ((t2 + t3) + 256 * (t3 + t4) + 65536 * (t4 + t5) + 16777216 * (t5 + t6) + 4294967296 * (t6 + t7) + 1099511627776 * t7)) / 4294967296 = (t4 + t5 + t6 + t7) + 256 * (t5 + t6 + t7) + 65536 * (t6 + t7) + 16777216 * t7 := by omega
  show (t0 + 256 * t1 + 65536 * t2 + 16777216 * t3 + 4294967296 * t4 + 1099511627776 * t5 + 281474976710656 * t6 + 72057594037927936 * t7 + _ / 256 + (_ + _ / 256) / 65536 + (_ + _ / 256 + (_ + _ / 256) / 65536) / 4294967296) % 128 = _
  rw [a1, a2, a3]
  omega
