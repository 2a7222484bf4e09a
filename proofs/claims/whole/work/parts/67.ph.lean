/-! no more than 924 sets of 12 such that none lies in another: chains by brackets -/
def crG : Nat → Nat → Nat → Nat → Nat → Nat → Nat × Nat
  | 0, _, _, _, c, u => (c, u)
  | f + 1, s, p, d, c, u => match s % 2 with
    | 0 => crG f (s / 2) (2 * p) (d + 1) c u
    | _ => match d with
      | 0 => crG f (s / 2) (2 * p) 0 c p
      | d + 1 => crG f (s / 2) (2 * p) d (c + p) u
def core (s : Nat) : Nat := (crG 12 s 1 0 0 0).1
def ump (s : Nat) : Nat := (crG 12 s 1 0 0 0).2
def nxG (s : Nat) : Nat → Nat → Nat → Nat
  | 0, _, r => r
  | f + 1, e, r => match s.testBit f with
    | true => nxG s f (e + 1) r
    | false => match e with
      | 0 => nxG s f 0 (2 ^ f)
      | e + 1 => nxG s f e r
def nxs (s : Nat) : Nat := s ||| nxG s 12 0 0
def nxI (c : Nat) : Nat → Nat
  | 0 => c
  | k + 1 => nxs (nxI c k)
def chkC (s : Nat) : Bool := Nat.ble (core s) 4095 && (Nat.beq (core (core s)) (core s) && (Nat.beq (core s) s || (Nat.ble 1 (ump s) && (Nat.ble (ump s) s && (Nat.beq (nxs (s - ump s)) s && Nat.beq (core (s - ump s)) (core s))))))
def allB (p : Nat → Bool) : Nat → Bool
  | 0 => true
  | n + 1 => p n && allB p n
theorem allB_of {p : Nat → Bool} : ∀ n, allB p n = true → ∀ i, i < n → p i = true
  | 0, _, i, h => absurd h (Nat.not_lt_zero _)
  | n + 1, h, i, hi => by
    simp only [allB, Bool.and_eq_true] at h
    by_cases e : i = n
    · rw [e]; exact h.1
    · exact allB_of n h.2 i (by omega)
def cntA (p : Nat → Bool) : Nat → Nat → Nat
  | 0, a => a
  | n + 1, a => match p n with
    | true => cntA p n (a + 1)
    | false => cntA p n a
theorem cntA_c0 {p : Nat → Bool} : ∀ n a, cntA p n a = a + c0F p n
  | 0, a => rfl
  | n + 1, a => by
    simp only [cntA, c0F]
    cases h : p n with
    | true => simp only [cntA_c0 n, if_true]; omega
    | false => simp only [cntA_c0 n]; rw [if_neg (by decide)]; omega
set_option maxRecDepth 100000 in
theorem chk_all : allB chkC 4096 = true := by decide +kernel
set_option maxRecDepth 100000 in
theorem chk_cnt : cntA (fun s => Nat.beq (core s) s) 4096 0 = 924 := by decide +kernel
theorem core_n : c0F (fun s => Nat.beq (core s) s) 4096 = 924 := by
  have := cntA_c0 (p := fun s => Nat.beq (core s) s) 4096 0
  rw [chk_cnt] at this
  omega
