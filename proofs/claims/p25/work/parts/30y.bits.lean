/-! BITS (the first rows are the kit's law family on Int32's bits) -/
def bt (x : Int32) (i : Nat) : Bool := x.toBitVec.getLsbD i
theorem b_ext {x y : Int32} (h : ∀ i, i < 32 → bt x i = bt y i) : x = y := Int32.toBitVec_inj.mp (BitVec.eq_of_getLsbD_eq (fun i hi => h i hi))
theorem b_or (x y : Int32) (i : Nat) : bt (x ||| y) i = (bt x i || bt y i) := by unfold bt; rw [Int32.toBitVec_or, BitVec.getLsbD_or]
theorem b_and (x y : Int32) (i : Nat) : bt (x &&& y) i = (bt x i && bt y i) := by unfold bt; rw [Int32.toBitVec_and, BitVec.getLsbD_and]
theorem b_xor (x y : Int32) (i : Nat) : bt (x ^^^ y) i = (bt x i ^^ bt y i) := by unfold bt; rw [Int32.toBitVec_xor, BitVec.getLsbD_xor]
theorem b_m1 : ∀ i, i < 32 → bt (-1) i = true := by decide +kernel
theorem b_one : ∀ i, i < 32 → bt 1 i = decide (i = 0) := by decide +kernel
theorem b_0 (i : Nat) : bt 0 i = false := BitVec.getLsbD_zero
theorem s_l : ∀ n, n < 32 → ((nI n &&& 31).toBitVec.smod 32).toNat = n := by decide +kernel
theorem b_sshr (n : Nat) (hn : n < 32) (x : Int32) {i : Nat} (hi : i < 32) : bt (x >>> (nI n &&& 31)) i = if n + i < 32 then bt x (n + i) else bt x 31 := by
  unfold bt
  rw [Int32.toBitVec_shiftRight]
  show (x.toBitVec.sshiftRight ((nI n &&& 31).toBitVec.smod 32).toNat).getLsbD i = _
  rw [s_l n hn, BitVec.getLsbD_sshiftRight, BitVec.msb_eq_getLsbD_last]
  simp [hi]
theorem b_nI (m : Nat) {i : Nat} (hi : i < 32) : bt (nI m) i = m.testBit i := by
  show (BitVec.ofNat 32 m).getLsbD i = m.testBit i
  rw [BitVec.getLsbD_ofNat]
  simp [hi]
theorem nI_or (a b : Nat) : nI a ||| nI b = nI (a ||| b) := b_ext (fun i hi => by rw [b_or, b_nI a hi, b_nI b hi, b_nI _ hi, Nat.testBit_or])
theorem nI_and (a b : Nat) : nI a &&& nI b = nI (a &&& b) := b_ext (fun i hi => by rw [b_and, b_nI a hi, b_nI b hi, b_nI _ hi, Nat.testBit_and])
theorem and1 (y : Int32) : (y &&& 1 == 1) = bt y 0 := by
  have e : y &&& 1 = if bt y 0 = true then 1 else 0 := by
    apply b_ext
    intro i hi
    rw [b_and, b_one i hi]
    by_cases h0 : i = 0
    · subst h0
      cases h : bt y 0 <;> simp [b_one 0 (by decide), b_0]
    · cases h : bt y 0 <;> simp [h0, b_one i hi, b_0]
  rw [e]
  cases bt y 0 <;> rfl
theorem hasX_bt (x : Int32) {c : Nat} (hc : c < 32) : hasX x (nI c) = bt x c := by
  rw [hasX, and1, b_sshr c hc x (by decide), if_pos (by omega)]
  rfl
theorem hasX_nI (m : Nat) {c : Nat} (hc : c < 32) : hasX (nI m) (nI c) = m.testBit c := by
  rw [hasX_bt _ hc, b_nI m hc]
theorem bitI_is : ∀ c, c < 31 → bitI c = nI (2 ^ c) := by decide +kernel
theorem b_bitI {c i : Nat} (hc : c < 31) (hi : i < 32) : bt (bitI c) i = decide (c = i) := by
  rw [bitI_is c hc, b_nI _ hi, Nat.testBit_two_pow]
/-- a set made smaller -/
theorem nI_andX (m : Nat) (hm : m < 2147483648) (x : Int32) : ∃ m', nI m &&& x = nI m' ∧ m' ≤ m := by
  refine ⟨m &&& x.toBitVec.toNat, ?_, Nat.and_le_left⟩
  rw [← nI_and]
  congr 1
  apply Int32.toBitVec_inj.mp
  show x.toBitVec = BitVec.ofNat 32 x.toBitVec.toNat
  rw [BitVec.ofNat_toNat]
  simp
/-- all that hang on a case: places behind it alone -/
theorem allS_bits (ha : Nat → Int32) {N c : Nat} (hN : N ≤ 7) (hc : c < N) : ∃ M, allS ha N c = nI M ∧ M < 2 ^ N ∧ ∀ j, j ≤ c → M.testBit j = false := by
  have h := fo_inv (f := fun i a => a ||| (if ha i = nI c then bitI i else if ha i = -1 then 0 else if hasX a (ha i) then bitI i else 0)) (fun i a => ∃ M, a = nI M ∧ M < 2 ^ i ∧ ∀ j, j ≤ c → M.testBit j = false) (N - (c + 1)) (c + 1) 0 ⟨0, rfl, Nat.two_pow_pos _, fun j _ => Nat.zero_testBit j⟩ ?_
  · rw [show c + 1 + (N - (c + 1)) = N by omega] at h
    exact h
  · rintro j a hj1 hj2 ⟨M, rfl, h1, h2⟩
    have hp : 2 ^ (j + 1) = 2 ^ j + 2 ^ j := by rw [Nat.pow_succ]; omega
    have key : ∃ M', nI M ||| bitI j = nI M' ∧ M' < 2 ^ (j + 1) ∧ ∀ i, i ≤ c → M'.testBit i = false := by
      refine ⟨M ||| 2 ^ j, by rw [bitI_is j (by omega), nI_or], Nat.or_lt_two_pow (by omega) (by omega), fun i hi => ?_⟩
      rw [Nat.testBit_or, h2 i hi, Nat.testBit_two_pow]
      simp; omega
    have key0 : ∃ M', nI M ||| 0 = nI M' ∧ M' < 2 ^ (j + 1) ∧ ∀ i, i ≤ c → M'.testBit i = false :=
      ⟨M, by rw [show (0 : Int32) = nI 0 from rfl, nI_or, Nat.or_zero], by omega, h2⟩
    show ∃ M', nI M ||| (if ha j = nI c then bitI j else if ha j = -1 then 0 else if hasX (nI M) (ha j) then bitI j else 0) = nI M' ∧ _
    by_cases q1 : ha j = nI c
    · rw [if_pos q1]; exact key
    · rw [if_neg q1]
      by_cases q2 : ha j = -1
      · rw [if_pos q2]; exact key0
      · rw [if_neg q2]
        cases hasX (nI M) (ha j)
        · exact key0
        · exact key
/-- what is righted behind a righting, told in two ways -/
theorem right_two {r b l : Int32} (h : ∀ i, i < 32 → bt b i = true → bt l i = false) : (r ||| b) &&& (l ^^^ (-1)) = (r &&& ((l &&& r) ^^^ (-1))) ||| b := by
  apply b_ext
  intro i hi
  have h1 := h i hi
  rw [b_and, b_or, b_xor, b_m1 i hi, b_or, b_and, b_xor, b_and, b_m1 i hi]
  revert h1
  cases bt r i <;> cases bt b i <;> cases bt l i <;> simp
theorem allS_apart (ha : Nat → Int32) {N c : Nat} (hN : N ≤ 7) (hc : c < N) : ∀ i, i < 32 → bt (bitI c) i = true → bt (allS ha N c) i = false := by
  intro i hi h
  rw [b_bitI (by omega) hi] at h
  have h := of_decide_eq_true h
  subst h
  obtain ⟨M, h1, -, h3⟩ := allS_bits ha hN hc
  rw [h1, b_nI _ hi]
  exact h3 c (Nat.le_refl c)
/-- behind a righting a set of the shire's cases stands again -/
theorem right_set {m N c : Nat} (hm : m < 2 ^ N) (hN : N ≤ 7) (hc : c < N) (l : Int32) : ∃ m', (nI m ||| bitI c) &&& (l ^^^ (-1)) = nI m' ∧ m' < 2 ^ N := by
  have h7 : 2 ^ N ≤ 2 ^ 7 := Nat.pow_le_pow_right (by decide) hN
  have hlt : m ||| 2 ^ c < 2 ^ N := Nat.or_lt_two_pow hm (Nat.pow_lt_pow_right (by decide) hc)
  rw [bitI_is c (by omega), nI_or]
  obtain ⟨m', h1, h2⟩ := nI_andX (m ||| 2 ^ c) (by omega) (l ^^^ (-1))
  exact ⟨m', h1, by omega⟩
