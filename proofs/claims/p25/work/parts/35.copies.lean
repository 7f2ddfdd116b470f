/-! COPIES of rows and of whole shires -/
def cpA (σ : Sg) (d s n : Nat) : Sg := (σ.1, fun a b => if a = d ∧ b < n then σ.2.1 s b else σ.2.1 a b, σ.2.2)
theorem gA_cpA (σ : Sg) (d s n a b : Nat) : gA (cpA σ d s n) a b = if a = d ∧ b < n then gA σ s b else gA σ a b := rfl
theorem cpA_0 (σ : Sg) (d s : Nat) : cpA σ d s 0 = σ := by
  obtain ⟨f, a, l⟩ := σ
  simp [cpA]
theorem cpA_succ {σ : Sg} {d s i : Nat} {v : Int32} (hv : v = gA σ s i) : sA (cpA σ d s i) d i v = cpA σ d s (i + 1) := by
  subst hv
  have e : (fun a b => if a = d ∧ b = i then gA σ s i else (cpA σ d s i).2.1 a b) = (cpA σ d s (i + 1)).2.1 := by
    funext a b
    show (if a = d ∧ b = i then σ.2.1 s i else if a = d ∧ b < i then σ.2.1 s b else σ.2.1 a b) = if a = d ∧ b < i + 1 then σ.2.1 s b else σ.2.1 a b
    by_cases ha : a = d
    · by_cases hb : b = i
      · subst hb; simp [ha]
      · by_cases hb2 : b < i
        · simp [ha, hb, hb2, show b < i + 1 by omega]
        · simp [ha, hb, hb2, show ¬ b < i + 1 by omega]
    · simp [ha]
  show ((_, _, _) : Sg) = (_, _, _)
  rw [e]
  rfl
/-- a loop that goes from state to state -/
theorem loop_seq {σ β : Type} {L : Nat → Int32 → σ → Option β} {kont : Int32 → σ → Option β} {N : Nat} (S : Nat → σ) (hs : ∀ n i, i < N → L (n + 1) (nI i) (S i) = L n (nI (i + 1)) (S (i + 1))) (hx : ∀ n, L (n + 1) (nI N) (S N) = kont (nI N) (S N)) : ∀ (m n i : Nat), i + m = N → m < n → L n (nI i) (S i) = kont (nI N) (S N) := by
  intro m
  induction m with
  | zero =>
    intro n i hi hn
    obtain ⟨n, rfl⟩ : ∃ k, n = k + 1 := ⟨n - 1, by omega⟩
    rw [Nat.add_zero] at hi
    subst hi
    exact hx n
  | succ m ih =>
    intro n i hi hn
    obtain ⟨n, rfl⟩ : ∃ k, n = k + 1 := ⟨n - 1, by omega⟩
    rw [hs n i (by omega)]
    exact ih n (i + 1) (by omega) (by omega)
theorem Rw_copyFrom_is {σ : Sg} {fu k q n : Nat} (hk : jv_ln (k + 1) = n) (hq : jv_ln (q + 1) = n) (hne : q + 1 ≠ k + 1) (hn : n ≤ 200) (hfu : 1000 ≤ fu) : Rw_copyFrom fu σ k q = some (cpA σ (k + 1) (q + 1) n) := by
  rw [Rw_copyFrom]
  have h := loop_seq (N := n) (L := fun m i s => Rw_copyFrom_L7 fu k q (fun l2_3 s4 => some s4) m i s) (kont := fun _ s => some s) (fun i => cpA σ (k + 1) (q + 1) i) ?_ ?_ n fu 0 (Nat.zero_add n) (by omega)
  · rw [cpA_0] at h
    exact h
  · intro m i hi
    show Rw_copyFrom_L7 fu k q _ (m + 1) (nI i) _ = _
    rw [Rw_copyFrom_L7, hk, show Int32.ofNat n = nI n from rfl, if_neg (nI_ge hi (by omega)), Rw_at_in hq hi (by omega), bindV_some, if_pos (inb_nI hi (by omega)), ix_nI (by omega), nI_1, cpA_succ (by rw [gA_cpA, if_neg (fun z => hne z.1)])]
  · intro m
    show Rw_copyFrom_L7 fu k q _ (m + 1) (nI n) _ = _
    rw [Rw_copyFrom_L7, hk, show Int32.ofNat n = nI n from rfl, if_pos (Int32.le_refl _)]
def coS (σ : Sg) (d s : Nat) : Sg :=
  (fun a b => if a = d ∧ b = 13 then gF σ s 13 else if a = d ∧ b = 12 then gF σ s 12 else if a = d ∧ b = 11 then gF σ s 11 else if a = d + 17 ∧ b = 3 then gF σ (s + 17) 3 else if a = d ∧ b = 1 then gF σ s 1 else if a = d ∧ b = 0 then gF σ s 0 else σ.1 a b,
   fun a b => if a = d + 23 ∧ b < 8 then σ.2.1 (s + 23) b else if a = d + 21 ∧ b < 8 then σ.2.1 (s + 21) b else if a = d + 19 ∧ b < 8 then σ.2.1 (s + 19) b else if a = d + 16 ∧ b < 7 then σ.2.1 (s + 16) b else if a = d + 14 ∧ b < 7 then σ.2.1 (s + 14) b else if a = d + 12 ∧ b < 7 then σ.2.1 (s + 12) b else if a = d + 10 ∧ b < 7 then σ.2.1 (s + 10) b else if a = d + 8 ∧ b < 7 then σ.2.1 (s + 8) b else if a = d + 6 ∧ b < 7 then σ.2.1 (s + 6) b else if a = d + 4 ∧ b < 3 then σ.2.1 (s + 4) b else if a = d + 2 ∧ b < 3 then σ.2.1 (s + 2) b else σ.2.1 a b, σ.2.2)
theorem copyFrom29_5 {σ : Sg} {fu : Nat} (hfu : 1000 ≤ fu) : Sh_copyFrom fu σ 29 5 = some (coS σ 29 5) := by
  rw [Sh_copyFrom, Rw_copyFrom_is (n := 3) rfl rfl (by decide) (by decide) hfu, bindV_some, Rw_copyFrom_is (n := 3) rfl rfl (by decide) (by decide) hfu, bindV_some, Rw_copyFrom_is (n := 7) rfl rfl (by decide) (by decide) hfu, bindV_some, Rw_copyFrom_is (n := 7) rfl rfl (by decide) (by decide) hfu, bindV_some, Rw_copyFrom_is (n := 7) rfl rfl (by decide) (by decide) hfu, bindV_some, Rw_copyFrom_is (n := 7) rfl rfl (by decide) (by decide) hfu, bindV_some, Rw_copyFrom_is (n := 7) rfl rfl (by decide) (by decide) hfu, bindV_some, Rw_copyFrom_is (n := 7) rfl rfl (by decide) (by decide) hfu, bindV_some, Si_copyFrom, Rw_copyFrom_is (n := 8) rfl rfl (by decide) (by decide) hfu, bindV_some, Rw_copyFrom_is (n := 8) rfl rfl (by decide) (by decide) hfu, bindV_some, Rw_copyFrom_is (n := 8) rfl rfl (by decide) (by decide) hfu, bindV_some, bindV_some]
  rfl
theorem copyFrom5_29 {σ : Sg} {fu : Nat} (hfu : 1000 ≤ fu) : Sh_copyFrom fu σ 5 29 = some (coS σ 5 29) := by
  rw [Sh_copyFrom, Rw_copyFrom_is (n := 3) rfl rfl (by decide) (by decide) hfu, bindV_some, Rw_copyFrom_is (n := 3) rfl rfl (by decide) (by decide) hfu, bindV_some, Rw_copyFrom_is (n := 7) rfl rfl (by decide) (by decide) hfu, bindV_some, Rw_copyFrom_is (n := 7) rfl rfl (by decide) (by decide) hfu, bindV_some, Rw_copyFrom_is (n := 7) rfl rfl (by decide) (by decide) hfu, bindV_some, Rw_copyFrom_is (n := 7) rfl rfl (by decide) (by decide) hfu, bindV_some, Rw_copyFrom_is (n := 7) rfl rfl (by decide) (by decide) hfu, bindV_some, Rw_copyFrom_is (n := 7) rfl rfl (by decide) (by decide) hfu, bindV_some, Si_copyFrom, Rw_copyFrom_is (n := 8) rfl rfl (by decide) (by decide) hfu, bindV_some, Rw_copyFrom_is (n := 8) rfl rfl (by decide) (by decide) hfu, bindV_some, Rw_copyFrom_is (n := 8) rfl rfl (by decide) (by decide) hfu, bindV_some, bindV_some]
  rfl
theorem copyFrom67_5 {σ : Sg} {fu : Nat} (hfu : 1000 ≤ fu) : Sh_copyFrom fu σ 67 5 = some (coS σ 67 5) := by
  rw [Sh_copyFrom, Rw_copyFrom_is (n := 3) rfl rfl (by decide) (by decide) hfu, bindV_some, Rw_copyFrom_is (n := 3) rfl rfl (by decide) (by decide) hfu, bindV_some, Rw_copyFrom_is (n := 7) rfl rfl (by decide) (by decide) hfu, bindV_some, Rw_copyFrom_is (n := 7) rfl rfl (by decide) (by decide) hfu, bindV_some, Rw_copyFrom_is (n := 7) rfl rfl (by decide) (by decide) hfu, bindV_some, Rw_copyFrom_is (n := 7) rfl rfl (by decide) (by decide) hfu, bindV_some, Rw_copyFrom_is (n := 7) rfl rfl (by decide) (by decide) hfu, bindV_some, Rw_copyFrom_is (n := 7) rfl rfl (by decide) (by decide) hfu, bindV_some, Si_copyFrom, Rw_copyFrom_is (n := 8) rfl rfl (by decide) (by decide) hfu, bindV_some, Rw_copyFrom_is (n := 8) rfl rfl (by decide) (by decide) hfu, bindV_some, Rw_copyFrom_is (n := 8) rfl rfl (by decide) (by decide) hfu, bindV_some, bindV_some]
  rfl
/-! the model's image, back and forth -/
def imF (σ : Sg) : Sg := (fun a b => if a = 91 ∧ b = 37 then gF σ 91 13 else if a = 91 ∧ b = 36 then gF σ 91 11 else if a = 91 ∧ b = 35 then gF σ 91 10 else if a = 91 ∧ b = 34 then gF σ 91 9 else if a = 91 ∧ b = 33 then gF σ 91 0 else if a = 91 ∧ b = 32 then 1 else σ.1 a b, σ.2)
def reF (σ : Sg) : Sg := (fun a b => if a = 91 ∧ b = 13 then gF σ 91 37 else if a = 91 ∧ b = 11 then gF σ 91 36 else if a = 91 ∧ b = 10 then gF σ 91 35 else if a = 91 ∧ b = 9 then gF σ 91 34 else σ.1 a b, σ.2)
theorem vw_gF {s σ : Sg} (h : vw s = vw σ) {k j : Nat} (hr : relF k j = true) : gF s k j = gF σ k j := by
  have e : (vw s).1 k j = (vw σ).1 k j := by rw [h]
  have e1 : ∀ τ : Sg, (vw τ).1 k j = gF τ k j := fun τ => by
    show (if relF k j = true then τ.1 k j else 0) = τ.1 k j
    rw [if_pos hr]
  rw [e1, e1] at e
  exact e
theorem vw_gA {s σ : Sg} (h : vw s = vw σ) {k : Nat} (hr : relA k = true) : gA s k = gA σ k := by
  funext i
  have e : (vw s).2.1 k i = (vw σ).2.1 k i := by rw [h]
  have e1 : ∀ τ : Sg, (vw τ).2.1 k i = gA τ k i := fun τ => by
    show (if relA k = true then τ.2.1 k i else 0) = τ.2.1 k i
    rw [if_pos hr]
  rw [e1, e1] at e
  exact e
theorem loop_ex {α β : Type} {L : Nat → α → Int32 → Option β} {kont : α → Int32 → Option β} {N : Nat} (I : Nat → α → Prop) (hs : ∀ n acc i, i < N → I i acc → ∃ acc', L (n + 1) acc (nI i) = L n acc' (nI (i + 1)) ∧ I (i + 1) acc') (hx : ∀ n acc, I N acc → L (n + 1) acc (nI N) = kont acc (nI N)) :
    ∀ (m n : Nat) (acc : α) (i : Nat), i + m = N → m < n → I i acc → ∃ acc', I N acc' ∧ L n acc (nI i) = kont acc' (nI N) := by
  intro m
  induction m with
  | zero =>
    intro n acc i hi hn hI
    obtain ⟨n, rfl⟩ : ∃ k, n = k + 1 := ⟨n - 1, by omega⟩
    rw [Nat.add_zero] at hi
    subst hi
    exact ⟨acc, hI, hx n acc hI⟩
  | succ m ih =>
    intro n acc i hi hn hI
    obtain ⟨n, rfl⟩ : ∃ k, n = k + 1 := ⟨n - 1, by omega⟩
    obtain ⟨acc', h1, h2⟩ := hs n acc i (by omega) hI
    rw [h1]
    exact ih n acc' (i + 1) (by omega) (by omega) h2
theorem gA_sF1 (σ : Sg) (k j a : Nat) (v : Int32) : gA (sF σ k j v) a = gA σ a := rfl
theorem gA_sA_other {σ : Sg} {k i a : Nat} {v : Int32} (h : a ≠ k) : gA (sA σ k i v) a = gA σ a := by
  funext j
  show (if a = k ∧ j = i then v else gA σ a j) = gA σ a j
  rw [if_neg (fun z => h z.1)]
theorem gA_sA_same (σ : Sg) (k i : Nat) (v : Int32) : gA (sA σ k i v) k = fun j => if j = i then v else gA σ k j := by
  funext j
  show (if k = k ∧ j = i then v else gA σ k j) = _
  by_cases q : j = i <;> simp [q]
theorem nI_nem1 {j : Nat} (h : j < 2147483648) : ¬ nI j = -1 := by
  intro e
  have := congrArg Int32.toInt e
  rw [nI_toInt h, show ((-1 : Int32)).toInt = -1 by decide] at this
  omega
theorem nI_mul (a b : Nat) : nI a * nI b = nI (a * b) := by
  apply Int32.toBitVec_inj.mp
  show BitVec.ofNat 32 a * BitVec.ofNat 32 b = BitVec.ofNat 32 (a * b)
  rw [BitVec.ofNat_mul]
