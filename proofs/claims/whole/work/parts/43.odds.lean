/-! THE ODDS -/
def cap (n : Nat) : Nat := if n < 20 then n else 20
theorem cap_le (n : Nat) : cap n ≤ 20 := by rw [cap]; split <;> omega
def gwI (c : Int32) (d : Nat) : Nat → Nat → Int32
  | 0, b => if nI b < c then 0 else 1
  | y + 1, b => fo (fun i a => a + gwI c d y (cap (b + i))) (d + 1) 0 0
theorem Ch_goodWays_is {fu d : Nat} (hfu : 1000 ≤ fu) (hd : d ≤ 9) (c : Int32) : ∀ y rd b, y ≤ 3 → y < rd → b ≤ 20 → Ch_goodWays fu rd (nI b) (nI d) (nI y) c = some (gwI c d y b) := by
  intro y
  induction y with
  | zero =>
    intro rd b hy hrd hb
    obtain ⟨rd, rfl⟩ : ∃ k, rd = k + 1 := ⟨rd - 1, by omega⟩
    rw [Ch_goodWays, if_pos (by decide), gwI]
    by_cases h : nI b < c
    · rw [if_pos h, if_pos h]
    · rw [if_neg h, if_neg h]
  | succ y ih =>
    intro rd b hy hrd hb
    obtain ⟨rd, rfl⟩ : ∃ k, rd = k + 1 := ⟨rd - 1, by omega⟩
    have h0 : ¬ nI (y + 1) ≤ 0 := by rw [show (0 : Int32) = nI 0 from rfl, nI_leI (by omega) (by omega)]; omega
    have h3 : nI (y + 1) ≤ 3 := by rw [show (3 : Int32) = nI 3 from rfl, nI_leI (by omega) (by omega)]; omega
    rw [Ch_goodWays, if_neg h0, if_pos h3, gwI, show (0 : Int32) = nI 0 from rfl]
    refine (loop_f0 (N := d + 1) (L := fun n acc i => Ch_goodWays_L26 fu (Ch_goodWays fu rd) (nI b) (nI d) (nI (y + 1)) c (fun l4_6 l5_7 => some l4_6) n acc i) (kont := fun a _ => some a) (f := fun i a => a + gwI c d y (cap (b + i))) ?_ ?_ (d + 1) fu (nI 0) 0 (Nat.zero_add _) (by omega)).trans rfl
    · intro n acc i hi
      show Ch_goodWays_L26 fu (Ch_goodWays fu rd) (nI b) (nI d) (nI (y + 1)) c _ (n + 1) acc (nI i) = _
      have hlt : ¬ nI d < nI i := by rw [nI_ltI (by omega) (by omega)]; omega
      have ecap : (if (nI b + nI i) < (20 : Int32) then nI b + nI i else (20 : Int32)) = nI (cap (b + i)) := by
        rw [nI_add, cap]
        by_cases q : b + i < 20
        · rw [if_pos (by rw [show (20 : Int32) = nI 20 from rfl, nI_ltI (by omega) (by omega)]; exact q), if_pos q]
        · rw [if_neg (by rw [show (20 : Int32) = nI 20 from rfl, nI_ltI (by omega) (by omega)]; exact q), if_neg q]; rfl
      rw [Ch_goodWays_L26, if_neg hlt, ecap, nI_pred, ih rd _ (by omega) (by omega) (cap_le _), bindV_some, nI_1]
    · intro n acc
      show Ch_goodWays_L26 fu (Ch_goodWays fu rd) (nI b) (nI d) (nI (y + 1)) c _ (n + 1) acc (nI (d + 1)) = _
      rw [Ch_goodWays_L26, if_pos (by rw [nI_ltI (by omega) (by omega)]; omega)]
theorem gwI_rng (c : Int32) {d : Nat} (hd : d ≤ 9) : ∀ y b, ∃ g, gwI c d y b = nI g ∧ g ≤ (d + 1) ^ y := by
  intro y
  induction y with
  | zero =>
    intro b
    rw [gwI]
    by_cases h : nI b < c
    · exact ⟨0, by rw [if_pos h]; rfl, by omega⟩
    · exact ⟨1, by rw [if_neg h]; rfl, Nat.le_refl 1⟩
  | succ y ih =>
    intro b
    rw [gwI]
    have h := fo_inv (f := fun i a => a + gwI c d y (cap (b + i))) (fun i a => ∃ g, a = nI g ∧ g ≤ i * (d + 1) ^ y) (d + 1) 0 0 ⟨0, rfl, by omega⟩ ?_
    · obtain ⟨g, h1, h2⟩ := h
      refine ⟨g, h1, ?_⟩
      rw [Nat.zero_add] at h2
      rw [Nat.pow_succ, Nat.mul_comm]
      exact h2
    · rintro j a h1 h2 ⟨g, rfl, h3⟩
      obtain ⟨p, p1, p2⟩ := ih (cap (b + j))
      refine ⟨g + p, by show nI g + gwI c d y (cap (b + j)) = _; rw [p1, nI_add], ?_⟩
      rw [Nat.add_mul, Nat.one_mul]
      omega
theorem nI_mul (a b : Nat) : nI a * nI b = nI (a * b) := by
  apply Int32.toBitVec_inj.mp
  show BitVec.ofNat 32 a * BitVec.ofNat 32 b = BitVec.ofNat 32 (a * b)
  rw [BitVec.ofNat_mul]
theorem nI_div {p q : Nat} (hp : p < 2147483648) (hq : q < 2147483648) : nI p / nI q = nI (p / q) := by
  apply Int32.toInt_inj.mp
  have hle : p / q ≤ p := Nat.div_le_self p q
  rw [Int32.toInt_div, nI_toInt hp, nI_toInt hq, nI_toInt (by omega)]
  rw [show ((p : Int).tdiv (q : Int)) = ((p / q : Nat) : Int) from rfl]
  generalize p / q = r at hle
  rw [Int.bmod_def]
  split <;> omega
theorem nI_mod {p q : Nat} (hp : p < 2147483648) (hq : q < 2147483648) : nI p - nI p / nI q * nI q = nI (p % q) := by
  have h := Nat.div_add_mod p q
  rw [nI_div hp hq, nI_mul, pk_sub (by rw [Nat.mul_comm] at h; omega)]
  congr 1
  rw [Nat.mul_comm] at h
  omega
theorem nI_eq0 {p : Nat} (h : p < 2147483648) : nI p = 0 ↔ p = 0 := nI_eq h (by decide)
theorem Ch_allWays_is {fu d y : Nat} (hfu : 1000 ≤ fu) (hy : y ≤ 3) : Ch_allWays fu (nI d) (nI y) = some (nI ((d + 1) ^ y)) := by
  rw [Ch_allWays, show (0 : Int32) = nI 0 from rfl]
  have h := fo_inv (f := fun _ a => a * nI (d + 1)) (fun i a => a = nI ((d + 1) ^ i)) y 0 1 rfl (fun j b _ _ hb => by rw [hb, nI_mul, Nat.pow_succ])
  rw [Nat.zero_add] at h
  refine (loop_f0 (N := y) (L := fun n acc i => Ch_allWays_L4 fu (nI d) (nI y) (fun l2_2 l3_3 => some l2_2) n acc i) (kont := fun a _ => some a) (f := fun _ a => a * nI (d + 1)) ?_ ?_ y fu 1 0 (Nat.zero_add _) (by omega)).trans (by rw [h])
  · intro n acc i hi
    show Ch_allWays_L4 fu (nI d) (nI y) _ (n + 1) acc (nI i) = _
    rw [Ch_allWays_L4, if_neg (nI_ge hi (by omega)), nI_1, nI_1]
  · intro n acc
    show Ch_allWays_L4 fu (nI d) (nI y) _ (n + 1) acc (nI y) = _
    rw [Ch_allWays_L4, if_pos (Int32.le_refl _)]
theorem nI_le1 {k : Nat} (h : k < 2147483648) : nI k ≤ 1 ↔ k ≤ 1 := nI_leI h (by decide)
theorem Ch_low_is {fu g a : Nat} (hfu : 2000 ≤ fu) (ha : a ≤ 1000) (ha1 : 1 ≤ a) (hg : g ≤ a) {x : Nat} (hx : x ≤ 1000) : Ch_inLowestTerms fu (nI x) (nI g) (nI a) = some (nI (x / Nat.gcd g a)) := by
  have hpos : 0 < Nat.gcd g a := Nat.gcd_pos_of_pos_right g (by omega)
  have hle : Nat.gcd g a ≤ a := Nat.le_of_dvd (by omega) (Nat.gcd_dvd_right g a)
  have key : ∀ m n k, k = Nat.gcd g a + m → k ≤ a → m < n → Ch_inLowestTerms_L2 fu (nI x) (nI g) (nI a) (fun l3_4 => some (nI x)) n (nI k) = some (nI (x / Nat.gcd g a)) := by
    intro m
    induction m with
    | zero =>
      intro n k hk hka hn
      obtain ⟨n, rfl⟩ : ∃ k, n = k + 1 := ⟨n - 1, by omega⟩
      rw [Nat.add_zero] at hk
      rw [Ch_inLowestTerms_L2]
      by_cases h1 : k ≤ 1
      · rw [if_pos ((nI_le1 (by omega)).mpr h1), show Nat.gcd g a = 1 by omega, Nat.div_one]
      · have z1 : g % k = 0 := by rw [hk]; exact Nat.mod_eq_zero_of_dvd (Nat.gcd_dvd_left g a)
        have z2 : a % k = 0 := by rw [hk]; exact Nat.mod_eq_zero_of_dvd (Nat.gcd_dvd_right g a)
        have k0 : ¬ nI k = 0 := fun z => by have := (nI_eq0 (by omega)).mp z; omega
        rw [if_neg (fun z => h1 ((nI_le1 (by omega)).mp z)), if_neg k0, nI_mod (by omega) (by omega), z1, if_neg (fun z => z rfl), if_neg k0, nI_mod (by omega) (by omega), z2, if_neg (fun z => z rfl), if_neg k0, nI_div (by omega) (by omega), hk]
    | succ m ih =>
      intro n k hk hka hn
      obtain ⟨n, rfl⟩ : ∃ k, n = k + 1 := ⟨n - 1, by omega⟩
      have k0 : ¬ nI k = 0 := fun z => by have := (nI_eq0 (by omega)).mp z; omega
      have k1 : ¬ nI k ≤ 1 := fun z => by have := (nI_le1 (by omega)).mp z; omega
      have next : Ch_inLowestTerms_L2 fu (nI x) (nI g) (nI a) (fun l3_4 => some (nI x)) n (nI k + -1) = some (nI (x / Nat.gcd g a)) := by
        obtain ⟨k', rfl⟩ : ∃ k', k = k' + 1 := ⟨k - 1, by omega⟩
        rw [sub1, nI_pred]
        exact ih n k' (by omega) (by omega) (by omega)
      have m1 := Nat.mod_lt g (show k > 0 by omega)
      have m2 := Nat.mod_lt a (show k > 0 by omega)
      rw [Ch_inLowestTerms_L2, if_neg k1, if_neg k0, nI_mod (by omega) (by omega)]
      by_cases z1 : g % k = 0
      · rw [if_neg (fun z => z ((nI_eq0 (by omega)).mpr z1)), if_neg k0, nI_mod (by omega) (by omega)]
        by_cases z2 : a % k = 0
        · exfalso
          have := Nat.le_of_dvd hpos (Nat.dvd_gcd (Nat.dvd_of_mod_eq_zero z1) (Nat.dvd_of_mod_eq_zero z2))
          omega
        · rw [if_pos (fun z => z2 ((nI_eq0 (by omega)).mp z)), next]
      · rw [if_pos (fun z => z1 ((nI_eq0 (by omega)).mp z)), next]
  exact key (a - Nat.gcd g a) fu a (by omega) (Nat.le_refl a) (by omega)
theorem Mo_divisor_is {fu : Nat} {g a : Nat} (hfu : 2000 ≤ fu) (hg : g ≤ 1000) (ha : a ≤ 1000) : Mo_divisor fu (nI g) (nI a) = some (nI (Nat.gcd g a)) := by
  have key : ∀ m n p q, q ≤ m → m < n → p < 2147483648 → q < 2147483648 → Mo_divisor_L4 fu (fun l2_2 l3_3 => some l2_2) n (nI p) (nI q) = some (nI (Nat.gcd p q)) := by
    intro m
    induction m with
    | zero =>
      intro n p q hq hn hp hq2
      obtain ⟨n, rfl⟩ : ∃ k, n = k + 1 := ⟨n - 1, by omega⟩
      rw [Mo_divisor_L4, if_pos ((nI_eq0 hq2).mpr (by omega)), show q = 0 by omega, Nat.gcd_zero_right]
    | succ m ih =>
      intro n p q hq hn hp hq2
      obtain ⟨n, rfl⟩ : ∃ k, n = k + 1 := ⟨n - 1, by omega⟩
      rw [Mo_divisor_L4]
      by_cases h0 : q = 0
      · rw [if_pos ((nI_eq0 hq2).mpr h0), h0, Nat.gcd_zero_right]
      · have hlt := Nat.mod_lt p (show q > 0 by omega)
        have q0 : ¬ nI q = 0 := fun z => h0 ((nI_eq0 hq2).mp z)
        rw [if_neg q0, if_neg q0, nI_mod hp hq2, ih n q (p % q) (by omega) (by omega) hq2 (by omega), Nat.gcd_comm p q, Nat.gcd_rec q p, Nat.gcd_comm]
  exact key 1000 fu g a ha (by omega) (by omega) (by omega)
/-! the ways in the model: a row of ways, dotted -/
def dotN (w f : Nat → Int32) (n : Nat) : Int32 := fo (fun i a => a + w i * f i) n 0 0
theorem dotN_succ (w f : Nat → Int32) (n : Nat) : dotN w f (n + 1) = dotN w f n + w n * f n := by
  rw [dotN, fo_succ, Nat.zero_add]
  rfl
theorem dotN_up (w f : Nat → Int32) (m : Nat) (v : Int32) : ∀ n, dotN (fun j => if j = m then w j + v else w j) f n = dotN w f n + (if m < n then v * f m else 0)
  | 0 => by rw [if_neg (by omega)]; rfl
  | n + 1 => by
    rw [dotN_succ, dotN_succ, dotN_up w f m v n]
    by_cases h : n = m
    · subst h
      rw [if_neg (by omega), if_pos rfl, if_pos (by omega), Int32.add_zero, Int32.add_mul, Int32.add_assoc]
    · rw [if_neg h]
      by_cases h2 : m < n
      · rw [if_pos h2, if_pos (by omega), Int32.add_assoc, Int32.add_comm (v * f m), ← Int32.add_assoc]
      · rw [if_neg h2, if_neg (by omega), Int32.add_zero, Int32.add_zero]
theorem dotN_cong {w w' f f' : Nat → Int32} : ∀ n, (∀ i, i < n → w i = w' i) → (∀ i, i < n → f i = f' i) → dotN w f n = dotN w' f' n
  | 0, _, _ => rfl
  | n + 1, h, g => by rw [dotN_succ, dotN_succ, h n (by omega), g n (by omega), dotN_cong n (fun i hi => h i (by omega)) (fun i hi => g i (by omega))]
theorem dotN_0 {w : Nat → Int32} (f : Nat → Int32) : ∀ n, (∀ i, i < n → w i = 0) → dotN w f n = 0
  | 0, _ => rfl
  | n + 1, h => by rw [dotN_succ, h n (by omega), dotN_0 f n (fun i hi => h i (by omega)), Int32.zero_mul, Int32.add_zero]
theorem dotN_one {w : Nat → Int32} (f : Nat → Int32) {b : Nat} (hw : ∀ i, i < 21 → w i = if i = b then 1 else 0) (hb : b < 21) : dotN w f 21 = f b := by
  have e := dotN_up (fun _ => 0) f b 1 21
  rw [if_pos hb, Int32.one_mul, dotN_0 (w := fun _ => 0) f 21 (fun _ _ => rfl), Int32.zero_add] at e
  refine Eq.trans ?_ (e.trans (Int32.zero_add _))
  exact dotN_cong 21 (fun i hi => by rw [hw i hi]) (fun _ _ => rfl)
/-- from a cost on -/
theorem dotN_from (w : Nat → Int32) (c : Nat) : ∀ n, c ≤ n → n ≤ 21 → dotN w (fun b => if nI b < nI c then 0 else 1) n = fo (fun i a => a + w i) (n - c) c 0 := by
  intro n
  induction n with
  | zero => intro h _; rw [show 0 - c = 0 by omega]; rfl
  | succ n ih =>
    intro h h2
    rw [dotN_succ]
    by_cases q : c = n + 1
    · subst q
      rw [Nat.sub_self]
      have z : ∀ m, m ≤ n + 1 → dotN w (fun b => if nI b < nI (n + 1) then 0 else 1) m = 0 := by
        intro m
        induction m with
        | zero => intro _; rfl
        | succ m ihm =>
          intro hm
          rw [dotN_succ, ihm (by omega), if_pos ((nI_ltI (by omega) (by omega)).mpr (by omega)), Int32.mul_zero, Int32.add_zero]
      rw [← dotN_succ, z (n + 1) (Nat.le_refl _)]
      rfl
    · rw [ih (by omega) (by omega), show n + 1 - c = (n - c) + 1 by omega, fo_succ, show c + (n - c) = n by omega, if_neg (fun z => by have := (nI_ltI (by omega) (by omega)).mp z; omega), Int32.mul_one]
