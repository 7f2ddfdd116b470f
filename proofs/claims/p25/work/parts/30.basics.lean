/-! PURE WORDS: what the functions compute, over numbers alone -/
theorem bindV_some {α β : Type} (a : α) (g : α → Option β) : bindV (some a) g = g a := rfl
theorem bindP_some {α β : Type} (a : α) (σ : Sg) (g : α → Sg → Option β) : bindP (some (a, σ)) g = g a σ := rfl
theorem ix_nI {i : Nat} (h : i < 2147483648) : ix (nI i) = i := nI_clamp h
theorem inb_nI {i n : Nat} (h : i < n) (hn : n < 2147483648) : inb (nI i) n = true := by
  have h1 : (nI i).toInt = (i : Int) := nI_toInt (by omega)
  simp only [inb, h1, decide_eq_true_eq]
  omega
theorem nI_leB {a b : Nat} (ha : a < 2147483648) (hb : b < 2147483648) : (nI a ≤ nI b) = (a ≤ b) := propext (nI_leI ha hb)
theorem nI_ltB {a b : Nat} (ha : a < 2147483648) (hb : b < 2147483648) : (nI a < nI b) = (a < b) := propext (nI_ltI ha hb)
theorem nI_eqB {a b : Nat} (ha : a < 2147483648) (hb : b < 2147483648) : (nI a = nI b) = (a = b) := propext (nI_eq ha hb)
/-- a loop that counts -/
def fo {α : Type} (f : Nat → α → α) : Nat → Nat → α → α
  | 0, _, a => a
  | m + 1, i, a => fo f m (i + 1) (f i a)
theorem fo_cong {α : Type} {f g : Nat → α → α} : ∀ (m i : Nat) (a : α), (∀ j b, i ≤ j → j < i + m → f j b = g j b) → fo f m i a = fo g m i a
  | 0, _, _, _ => rfl
  | m + 1, i, a, h => by
    rw [fo, fo, h i a (Nat.le_refl i) (by omega)]
    exact fo_cong m (i + 1) _ (fun j b h1 h2 => h j b (by omega) (by omega))
theorem fo_inv {α : Type} {f : Nat → α → α} (I : Nat → α → Prop) : ∀ (m i : Nat) (a : α), I i a → (∀ j b, i ≤ j → j < i + m → I j b → I (j + 1) (f j b)) → I (i + m) (fo f m i a)
  | 0, _, _, h, _ => h
  | m + 1, i, a, h, hs => by
    have h1 := fo_inv I m (i + 1) (f i a) (hs i a (Nat.le_refl i) (by omega) h) (fun j b h1 h2 => hs j b (by omega) (by omega))
    rw [show i + (m + 1) = i + 1 + m by omega]
    exact h1
theorem fo_succ {α : Type} (f : Nat → α → α) : ∀ (m i : Nat) (a : α), fo f (m + 1) i a = f (i + m) (fo f m i a)
  | 0, _, _ => rfl
  | m + 1, i, a => by
    rw [fo, fo_succ f m (i + 1), fo, show i + 1 + m = i + (m + 1) by omega]
theorem fo_add {α : Type} (f : Nat → α → α) : ∀ (m k i : Nat) (a : α), fo f (m + k) i a = fo f k (i + m) (fo f m i a)
  | 0, k, i, a => by rw [Nat.zero_add]; rfl
  | m + 1, k, i, a => by
    rw [show m + 1 + k = (m + k) + 1 by omega, fo, fo_add f m k (i + 1), fo, show i + 1 + m = i + (m + 1) by omega]
/-- a loop of the functions is such a loop, under what holds at its head -/
theorem loop_fo {α β : Type} {L : Nat → α → Int32 → Option β} {kont : α → Int32 → Option β} {f : Nat → α → α} {N : Nat} (I : Nat → α → Prop) (hs : ∀ n acc i, i < N → I i acc → L (n + 1) acc (nI i) = L n (f i acc) (nI (i + 1)) ∧ I (i + 1) (f i acc)) (hx : ∀ n acc, I N acc → L (n + 1) acc (nI N) = kont acc (nI N)) :
    ∀ (m n : Nat) (acc : α) (i : Nat), i + m = N → m < n → I i acc → L n acc (nI i) = kont (fo f m i acc) (nI N) := by
  intro m
  induction m with
  | zero =>
    intro n acc i hi hn hI
    obtain ⟨n, rfl⟩ : ∃ k, n = k + 1 := ⟨n - 1, by omega⟩
    rw [Nat.add_zero] at hi
    subst hi
    exact hx n acc hI
  | succ m ih =>
    intro n acc i hi hn hI
    obtain ⟨n, rfl⟩ : ∃ k, n = k + 1 := ⟨n - 1, by omega⟩
    obtain ⟨h1, h2⟩ := hs n acc i (by omega) hI
    rw [h1, fo]
    exact ih n (f i acc) (i + 1) (by omega) (by omega) h2
theorem loop_f0 {α β : Type} {L : Nat → α → Int32 → Option β} {kont : α → Int32 → Option β} {f : Nat → α → α} {N : Nat} (hs : ∀ n acc i, i < N → L (n + 1) acc (nI i) = L n (f i acc) (nI (i + 1))) (hx : ∀ n acc, L (n + 1) acc (nI N) = kont acc (nI N)) :
    ∀ (m n : Nat) (acc : α) (i : Nat), i + m = N → m < n → L n acc (nI i) = kont (fo f m i acc) (nI N) :=
  fun m n acc i h1 h2 => loop_fo (fun _ _ => True) (fun n acc i hi _ => ⟨hs n acc i hi, trivial⟩) (fun n acc _ => hx n acc) m n acc i h1 h2 trivial
def hasX (x y : Int32) : Bool := ((x >>> (y &&& 31)) &&& 1) == 1
def bitI (c : Nat) : Int32 := (1 : Int32) <<< (nI c &&& 31)
def b2 (b : Bool) : Int32 := if b then 1 else 0
theorem b2_eq0 (b : Bool) : (b2 b = 0) = (b = false) := by cases b <;> simp [b2]
theorem b2_ne0 (b : Bool) : (¬ b2 b = 0) = (b = true) := by cases b <;> simp [b2]
theorem isb_b2 (b : Bool) : isb (b2 b) = true := by cases b <;> rfl
theorem isb_0 : isb 0 = true := rfl
theorem isb_1 : isb 1 = true := rfl
theorem Co_has_is (x y : Int32) : Co_has x y = some (b2 (hasX x y)) := by
  rw [Co_has, hasX, b2]
  by_cases h : (x >>> (y &&& 31)) &&& 1 = 1
  · rw [if_neg (by simp [h])]; simp [h]
  · rw [if_pos h]; simp [h]
theorem Co_bit_is (c : Nat) : Co_bit (nI c) = some (bitI c) := rfl
/-- a row's place -/
theorem Rw_at_in {σ : Sg} {r i n : Nat} (hn : jv_ln (r + 1) = n) (hi : i < n) (hn2 : n < 2147483648) : Rw_at σ r (nI i) = some (gA σ (r + 1) i) := by
  rw [Rw_at, if_neg (nI_pos (by omega)), hn, show Int32.ofNat n = nI n from rfl, if_neg (nI_ge hi hn2), if_pos (inb_nI hi hn2), ix_nI (by omega)]
theorem Rw_put_in {σ : Sg} {r i n : Nat} {v : Int32} (hn : jv_ln (r + 1) = n) (hi : i < n) (hn2 : n < 2147483648) : Rw_put σ r (nI i) v = some (sA σ (r + 1) i v) := by
  rw [Rw_put, if_neg (nI_pos (by omega)), hn, show Int32.ofNat n = nI n from rfl, if_neg (nI_ge hi hn2), if_pos (inb_nI hi hn2), ix_nI (by omega)]
/-! what the state holds after a write -/
theorem gF_sF (σ : Sg) (k j a b : Nat) (v : Int32) : gF (sF σ k j v) a b = if a = k ∧ b = j then v else gF σ a b := rfl
theorem gA_sA (σ : Sg) (k j a b : Nat) (v : Int32) : gA (sA σ k j v) a b = if a = k ∧ b = j then v else gA σ a b := rfl
theorem gL_sL (σ : Sg) (k j a b : Nat) (v : Int64) : gL (sL σ k j v) a b = if a = k ∧ b = j then v else gL σ a b := rfl
theorem gF_sA (σ : Sg) (k j a b : Nat) (v : Int32) : gF (sA σ k j v) a b = gF σ a b := rfl
theorem gF_sL (σ : Sg) (k j a b : Nat) (v : Int64) : gF (sL σ k j v) a b = gF σ a b := rfl
theorem gA_sF (σ : Sg) (k j a b : Nat) (v : Int32) : gA (sF σ k j v) a b = gA σ a b := rfl
theorem gA_sL (σ : Sg) (k j a b : Nat) (v : Int64) : gA (sL σ k j v) a b = gA σ a b := rfl
theorem gL_sF (σ : Sg) (k j a b : Nat) (v : Int32) : gL (sF σ k j v) a b = gL σ a b := rfl
theorem gL_sA (σ : Sg) (k j a b : Nat) (v : Int32) : gL (sA σ k j v) a b = gL σ a b := rfl
/-! THE SHIRE'S OWN WORDS -/
def costS (ki ne st : Int32) : Int32 := if ki = 1 then (if 1 < ne - st then ne - st else 1) else if ki = 2 then 2 * ne else if ki = 3 then ne else if ki = 4 then ((if 1 < ne - st then ne - st else 1) + 1) / 2 else ne
def openS (ki ha : Nat → Int32) (done : Int32) (c : Nat) : Bool := !hasX done (nI c) && (!(ki c == 3) || ha c == -1 || hasX done (ha c))
def worthS (wo : Nat → Int32) (N : Nat) (bits : Int32) : Int32 := fo (fun i a => a + (if hasX bits (nI i) then wo i else 0)) N 0 0
def strS (ha : Nat → Int32) (N c : Nat) : Int32 := fo (fun i a => a + (if ha i = nI c then 1 else 0)) N 0 0
def allS (ha : Nat → Int32) (N c : Nat) : Int32 := fo (fun i a => a ||| (if ha i = nI c then bitI i else if ha i = -1 then 0 else if hasX a (ha i) then bitI i else 0)) (N - (c + 1)) (c + 1) 0
def sizeS (bits : Int32) : Int32 := fo (fun i a => a + ((bits >>> (nI i &&& 31)) &&& 1)) 10 0 0
def possS (op : Nat → Bool) (co : Nat → Int32) (be : Int32) (N : Nat) : Int32 := fo (fun i a => a ||| (if op i = true ∧ ¬ be < co i then bitI i else 0)) N 0 0
