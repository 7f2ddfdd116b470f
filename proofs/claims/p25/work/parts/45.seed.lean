/-! THE SEED -/
def nL (n : Nat) : Int64 := Int64.ofNat n
theorem nL_toInt {n : Nat} (h : n < 9223372036854775808) : (nL n).toInt = (n : Int) := Int64.toInt_ofNat_of_lt h
theorem nL_mul (a b : Nat) : nL a * nL b = nL (a * b) := by
  apply Int64.toBitVec_inj.mp
  show BitVec.ofNat 64 a * BitVec.ofNat 64 b = BitVec.ofNat 64 (a * b)
  rw [BitVec.ofNat_mul]
theorem nL_add (a b : Nat) : nL a + nL b = nL (a + b) := by
  apply Int64.toBitVec_inj.mp
  show BitVec.ofNat 64 a + BitVec.ofNat 64 b = BitVec.ofNat 64 (a + b)
  rw [BitVec.ofNat_add]
theorem nL_sub {a b : Nat} (h : b ≤ a) : nL a - nL b = nL (a - b) := by
  have e : nL a = nL (a - b) + nL b := by rw [nL_add, Nat.sub_add_cancel h]
  rw [e, Int64.add_sub_cancel]
theorem nL_div {p q : Nat} (hp : p < 9223372036854775808) (hq : q < 9223372036854775808) : nL p / nL q = nL (p / q) := by
  apply Int64.toInt_inj.mp
  have hle : p / q ≤ p := Nat.div_le_self p q
  rw [Int64.toInt_div, nL_toInt hp, nL_toInt hq, nL_toInt (by omega)]
  rw [show ((p : Int).tdiv (q : Int)) = ((p / q : Nat) : Int) from rfl]
  generalize p / q = r at hle
  rw [Int.bmod_def]
  split <;> omega
theorem nL_mod {p q : Nat} (hp : p < 9223372036854775808) (hq : q < 9223372036854775808) : nL p - nL p / nL q * nL q = nL (p % q) := by
  have h := Nat.div_add_mod p q
  rw [nL_div hp hq, nL_mul, nL_sub (by rw [Nat.mul_comm] at h; omega)]
  congr 1
  rw [Nat.mul_comm] at h
  omega
theorem nL_and (a b : Nat) : nL a &&& nL b = nL (a &&& b) := by
  apply Int64.toBitVec_inj.mp
  show BitVec.ofNat 64 a &&& BitVec.ofNat 64 b = BitVec.ofNat 64 (a &&& b)
  rw [BitVec.ofNat_and]
def nx (s : Nat) : Nat := (1103515245 * s + 12345) % 2147483648
theorem nx_lt (s : Nat) : nx s < 2147483648 := Nat.mod_lt _ (by decide)
theorem seedC {s : Nat} (h : s < 2147483648) : (((1103515245 : Int64) * nL s) + (12345 : Int64)) - (((1103515245 : Int64) * nL s) + (12345 : Int64)) / (2147483648 : Int64) * (2147483648 : Int64) = nL (nx s) := by
  rw [show (1103515245 : Int64) = nL 1103515245 from rfl, show (12345 : Int64) = nL 12345 from rfl, show (2147483648 : Int64) = nL 2147483648 from rfl, nL_mul, nL_add, nL_mod (by omega) (by omega)]
  rfl
theorem seedM (s : Nat) : ((((1103515245 : Int64) * nL s) + (12345 : Int64)) &&& (2147483647 : Int64)) = nL (nx s) := by
  rw [show (1103515245 : Int64) = nL 1103515245 from rfl, show (12345 : Int64) = nL 12345 from rfl, show (2147483647 : Int64) = nL (2 ^ 31 - 1) from rfl, nL_mul, nL_add, nL_and, Nat.and_two_pow_sub_one_eq_mod]
  rfl
theorem toL7 : ∀ n, n < 8 → (nI n).toInt64 = nL n ∧ (nL n).toInt32 = nI n := by decide +kernel
theorem toL {k : Nat} (h : k < 2147483648) : (nI k).toInt64 = nL k := by
  apply Int64.toInt_inj.mp
  rw [Int32.toInt_toInt64, nI_toInt h, nL_toInt (by omega)]
theorem drawn {s n : Nat} (hs : s < 2147483648) (hn : n < 8) (hn0 : 0 < n) : (nL s / (65536 : Int64) - nL s / (65536 : Int64) / (nI n).toInt64 * (nI n).toInt64).toInt32 = nI (s / 65536 % n) := by
  have hlt := Nat.mod_lt (s / 65536) hn0
  have hle : s / 65536 ≤ s := Nat.div_le_self s 65536
  rw [(toL7 n hn).1, show (65536 : Int64) = nL 65536 from rfl, nL_div (by omega) (by omega), nL_mod (by omega) (by omega), (toL7 _ (by omega)).2]
theorem gL_sL1 (σ : Sg) (k j : Nat) (v : Int64) : gL (sL σ k j v) k j = v := by rw [gL_sL, if_pos (And.intro rfl rfl)]
theorem sL_sL (σ : Sg) (k j : Nat) (a b : Int64) : sL (sL σ k j a) k j b = sL σ k j b := by
  refine Prod.ext rfl (Prod.ext rfl ?_)
  funext x y
  show (if x = k ∧ y = j then b else if x = k ∧ y = j then a else σ.2.2 x y) = if x = k ∧ y = j then b else σ.2.2 x y
  by_cases h : x = k ∧ y = j
  · rw [if_pos h, if_pos h]
  · rw [if_neg h, if_neg h, if_neg h]
theorem Fo_draw_is {σ : Sg} {s n : Nat} (hs : s < 2147483648) (hn : n < 8) (hn0 : 0 < n) (hL : gL σ 66 2 = nL s) : Fo_draw σ (nI n) = some (nI (nx s / 65536 % n), sL σ 66 2 (nL (nx s))) := by
  have n0 : ¬ nI n ≤ 0 := fun z => by have := (nI_leI (b := 0) (by omega) (by omega)).mp z; omega
  have nz : ¬ (nI n).toInt64 = 0 := by
    rw [(toL7 n hn).1]
    intro z
    have := congrArg Int64.toInt z
    rw [nL_toInt (by omega), show ((0 : Int64)).toInt = 0 by decide] at this
    omega
  rw [Fo_draw, if_neg n0, if_neg nz, hL, seedC hs, gL_sL1, drawn (nx_lt s) hn hn0]
