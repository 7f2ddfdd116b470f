/-! COPIES of rows and of whole shires -/
def cpA (σ : Sg) (d s n : Nat) : Sg := (σ.1, fun a b => if a = d ∧ b < n then σ.2.1 s b else σ.2.1 a b, σ.2.2)
theorem gA_cpA (σ : Sg) (d s n a b : Nat) : gA (cpA σ d s n) a b = if a = d ∧ b < n then gA σ s b else gA σ a b := rfl
theorem cpA_0 (σ : Sg) (d s : Nat) : cpA σ d s 0 = σ := by
  obtain ⟨f, a, l⟩ := σ
  simp [cpA]
theorem cpA_succ {σ : Sg} {d s i : Nat} {v : Int32} (hv : v = gA σ s i) : sA (cpA σ d s i) d i v = cpA σ d s (i + 1) := by
  subst hv
  have e : (fun a b => if a = d ∧ b = i then gA σ s i else (cpA σ d s i).2.1 a b) = (cpA σ d s (i + 1)).2.1 := by
    funext a b
    show (if a = d ∧ b = i then σ.2.1 s i else if a = d ∧ b < i then σ.2.1 s b else σ.2.1 a b) = if a = d ∧ b < i + 1 then σ.2.1 s b else σ.2.1 a b
    by_cases ha : a = d
    · by_cases hb : b = i
      · subst hb; simp [ha]
      · by_cases hb2 : b < i
        · simp [ha, hb, hb2, show b < i + 1 by omega]
        · simp [ha, hb, hb2, show ¬ b < i + 1 by omega]
    · simp [ha]
  show ((_, _, _) : Sg) = (_, _, _)
  rw [e]
  rfl
/-- a loop that goes from state to state -/
theorem loop_seq {σ β : Type} {L : Nat → Int32 → σ → Option β} {kont : Int32 → σ → Option β} {N : Nat} (S : Nat → σ) (hs : ∀ n i, i < N → L (n + 1) (nI i) (S i) = L n (nI (i + 1)) (S (i + 1))) (hx : ∀ n, L (n + 1) (nI N) (S N) = kont (nI N) (S N)) : ∀ (m n i : Nat), i + m = N → m < n → L n (nI i) (S i) = kont (nI N) (S N) := by
  intro m
  induction m with
  | zero =>
    intro n i hi hn
    obtain ⟨n, rfl⟩ : ∃ k, n = k + 1 := ⟨n - 1, by omega⟩
    rw [Nat.add_zero] at hi
    subst hi
    exact hx n
  | succ m ih =>
    intro n i hi hn
    obtain ⟨n, rfl⟩ : ∃ k, n = k + 1 := ⟨n - 1, by omega⟩
    rw [hs n i (by omega)]
    exact ih n (i + 1) (by omega) (by omega)
theorem Rw_copyFrom_is {σ : Sg} {fu k q n : Nat} (hk : jv_ln (k + 1) = n) (hq : jv_ln (q + 1) = n) (hne : q + 1 ≠ k + 1) (hn : n ≤ 200) (hfu : 1000 ≤ fu) : Rw_copyFrom fu σ k q = some (cpA σ (k + 1) (q + 1) n) := by
  rw [Rw_copyFrom]
  have h := loop_seq (N := n) (L := fun m i s => Rw_copyFrom_L7 fu k q (fun l2_3 s4 => some s4) m i s) (kont := fun _ s => some s) (fun i => cpA σ (k + 1) (q + 1) i) ?_ ?_ n fu 0 (Nat.zero_add n) (by omega)
  · rw [cpA_0] at h
    exact h
  · intro m i hi
    show Rw_copyFrom_L7 fu k q _ (m + 1) (nI i) _ = _
    rw [Rw_copyFrom_L7, hk, show Int32.ofNat n = nI n from rfl, if_neg (nI_ge hi (by omega)), Rw_at_in hq hi (by omega), bindV_some, if_pos (inb_nI hi (by omega)), ix_nI (by omega), nI_1, cpA_succ (by rw [gA_cpA, if_neg (fun z => hne z.1)])]
  · intro m
    show Rw_copyFrom_L7 fu k q _ (m + 1) (nI n) _ = _
    rw [Rw_copyFrom_L7, hk, show Int32.ofNat n = nI n from rfl, if_pos (Int32.le_refl _)]
def coS (σ : Sg) (d s : Nat) : Sg :=
  (fun a b => if a = d ∧ b = 13 then gF σ s 13 else if a = d ∧ b = 12 then gF σ s 12 else if a = d ∧ b = 11 then gF σ s 11 else if a = d + 17 ∧ b = 3 then gF σ (s + 17) 3 else if a = d ∧ b = 1 then gF σ s 1 else if a = d ∧ b = 0 then gF σ s 0 else σ.1 a b,
   fun a b => if a = d + 23 ∧ b < 8 then σ.2.1 (s + 23) b else if a = d + 21 ∧ b < 8 then σ.2.1 (s + 21) b else if a = d + 19 ∧ b < 8 then σ.2.1 (s + 19) b else if a = d + 16 ∧ b < 7 then σ.2.1 (s + 16) b else if a = d + 14 ∧ b < 7 then σ.2.1 (s + 14) b else if a = d + 12 ∧ b < 7 then σ.2.1 (s + 12) b else if a = d + 10 ∧ b < 7 then σ.2.1 (s + 10) b else if a = d + 8 ∧ b < 7 then σ.2.1 (s + 8) b else if a = d + 6 ∧ b < 7 then σ.2.1 (s + 6) b else if a = d + 4 ∧ b < 3 then σ.2.1 (s + 4) b else if a = d + 2 ∧ b < 3 then σ.2.1 (s + 2) b else σ.2.1 a b, σ.2.2)
theorem copyFrom29_5 {σ : Sg} {fu : Nat} (hfu : 1000 ≤ fu) : Sh_copyFrom fu σ 29 5 = some (coS σ 29 5) := by
  rw [Sh_copyFrom, Rw_copyFrom_is (n := 3) rfl rfl (by decide) (by decide) hfu, bindV_some, Rw_copyFrom_is (n := 3) rfl rfl (by decide) (by decide) hfu, bindV_some, Rw_copyFrom_is (n := 7) rfl rfl (by decide) (by decide) hfu, bindV_some, Rw_copyFrom_is (n := 7) rfl rfl (by decide) (by decide) hfu, bindV_some, Rw_copyFrom_is (n := 7) rfl rfl (by decide) (by decide) hfu, bindV_some, Rw_copyFrom_is (n := 7) rfl rfl (by decide) (by decide) hfu, bindV_some, Rw_copyFrom_is (n := 7) rfl rfl (by decide) (by decide) hfu, bindV_some, Rw_copyFrom_is (n := 7) rfl rfl (by decide) (by decide) hfu, bindV_some, Si_copyFrom, Rw_copyFrom_is (n := 8) rfl rfl (by decide) (by decide) hfu, bindV_some, Rw_copyFrom_is (n := 8) rfl rfl (by decide) (by decide) hfu, bindV_some, Rw_copyFrom_is (n := 8) rfl rfl (by decide) (by decide) hfu, bindV_some, bindV_some]
  rfl
theorem copyFrom5_29 {σ : Sg} {fu : Nat} (hfu : 1000 ≤ fu) : Sh_copyFrom fu σ 5 29 = some (coS σ 5 29) := by
  rw [Sh_copyFrom, Rw_copyFrom_is (n := 3) rfl rfl (by decide) (by decide) hfu, bindV_some, Rw_copyFrom_is (n := 3) rfl rfl (by decide) (by decide) hfu, bindV_some, Rw_copyFrom_is (n := 7) rfl rfl (by decide) (by decide) hfu, bindV_some, Rw_copyFrom_is (n := 7) rfl rfl (by decide) (by decide) hfu, bindV_some, Rw_copyFrom_is (n := 7) rfl rfl (by decide) (by decide) hfu, bindV_some, Rw_copyFrom_is (n := 7) rfl rfl (by decide) (by decide) hfu, bindV_some, Rw_copyFrom_is (n := 7) rfl rfl (by decide) (by decide) hfu, bindV_some, Rw_copyFrom_is (n := 7) rfl rfl (by decide) (by decide) hfu, bindV_some, Si_copyFrom, Rw_copyFrom_is (n := 8) rfl rfl (by decide) (by decide) hfu, bindV_some, Rw_copyFrom_is (n := 8) rfl rfl (by decide) (by decide) hfu, bindV_some, Rw_copyFrom_is (n := 8) rfl rfl (by decide) (by decide) hfu, bindV_some, bindV_some]
  rfl
theorem copyFrom67_5 {σ : Sg} {fu : Nat} (hfu : 1000 ≤ fu) : Sh_copyFrom fu σ 67 5 = some (coS σ 67 5) := by
  rw [Sh_copyFrom, Rw_copyFrom_is (n := 3) rfl rfl (by decide) (by decide) hfu, bindV_some, Rw_copyFrom_is (n := 3) rfl rfl (by decide) (by decide) hfu, bindV_some, Rw_copyFrom_is (n := 7) rfl rfl (by decide) (by decide) hfu, bindV_some, Rw_copyFrom_is (n := 7) rfl rfl (by decide) (by decide) hfu, bindV_some, Rw_copyFrom_is (n := 7) rfl rfl (by decide) (by decide) hfu, bindV_some, Rw_copyFrom_is (n := 7) rfl rfl (by decide) (by decide) hfu, bindV_some, Rw_copyFrom_is (n := 7) rfl rfl (by decide) (by decide) hfu, bindV_some, Rw_copyFrom_is (n := 7) rfl rfl (by decide) (by decide) hfu, bindV_some, Si_copyFrom, Rw_copyFrom_is (n := 8) rfl rfl (by decide) (by decide) hfu, bindV_some, Rw_copyFrom_is (n := 8) rfl rfl (by decide) (by decide) hfu, bindV_some, Rw_copyFrom_is (n := 8) rfl rfl (by decide) (by decide) hfu, bindV_some, bindV_some]
  rfl
/-! the model's image, back and forth -/
def imF (σ : Sg) : Sg := (fun a b => if a = 91 ∧ b = 37 then gF σ 91 13 else if a = 91 ∧ b = 36 then gF σ 91 11 else if a = 91 ∧ b = 35 then gF σ 91 10 else if a = 91 ∧ b = 34 then gF σ 91 9 else if a = 91 ∧ b = 33 then gF σ 91 0 else if a = 91 ∧ b = 32 then 1 else σ.1 a b, σ.2)
def imM (σ : Sg) : Sg := cpA (cpA (cpA (cpA (cpA (cpA (cpA (imF σ) 109 92 3) 110 93 3) 111 95 7) 112 96 7) 113 98 8) 114 99 8) 115 100 8
def reF (σ : Sg) : Sg := (fun a b => if a = 91 ∧ b = 13 then gF σ 91 37 else if a = 91 ∧ b = 11 then gF σ 91 36 else if a = 91 ∧ b = 10 then gF σ 91 35 else if a = 91 ∧ b = 9 then gF σ 91 34 else σ.1 a b, σ.2)
def reM (σ : Sg) : Sg := cpA (cpA (cpA (cpA (cpA (cpA (cpA (reF σ) 92 109 3) 93 110 3) 95 111 7) 96 112 7) 98 113 8) 99 114 8) 100 115 8
theorem Mo_image_L57_is {fu : Nat} (hfu : 1000 ≤ fu) (kont : Int32 → Sg → Option (Int32 × Sg)) (σ : Sg) : Mo_image_L57 fu kont fu 0 σ = kont (nI 3) (cpA (cpA σ 109 92 3) 110 93 3) := by
  have h := loop_seq (N := 3) (L := fun m i s => Mo_image_L57 fu kont m i s) (kont := kont) (fun i => cpA (cpA σ 109 92 i) 110 93 i) ?_ ?_ 3 fu 0 (Nat.zero_add 3) (by omega)
  · rw [cpA_0, cpA_0] at h
    exact h
  · intro m i hi
    show Mo_image_L57 fu kont (m + 1) (nI i) _ = Mo_image_L57 fu kont m _ _
    have hin : inb (nI i) 3 = true := inb_nI hi (by decide)
    rw [Mo_image_L57, if_neg (by rw [show (3 : Int32) = nI 3 from rfl]; exact nI_ge hi (by decide))]
    simp only [hin, if_true, ix_nI (show i < 2147483648 by omega), nI_1]
    congr 1
    rw [← cpA_succ (σ := cpA σ 109 92 (i + 1)) (d := 110) (s := 93) (i := i) rfl, ← cpA_succ (σ := σ) (d := 109) (s := 92) (i := i) rfl]
    refine Prod.ext rfl (Prod.ext ?_ rfl)
    funext a b
    simp only [sA, cpA, gA]
    by_cases h1 : a = 109 <;> by_cases h2 : a = 110 <;> by_cases h3 : b = i <;> by_cases h4 : b < i <;> simp [h1, h2, h3, h4] <;> omega
  · intro m
    show Mo_image_L57 fu kont (m + 1) (nI 3) _ = _
    rw [Mo_image_L57, if_pos (by rw [show (3 : Int32) = nI 3 from rfl]; exact Int32.le_refl _)]
theorem Mo_image_L94_is {fu : Nat} (hfu : 1000 ≤ fu) (kont : Int32 → Sg → Option (Int32 × Sg)) (σ : Sg) : Mo_image_L94 fu kont fu 0 σ = kont (nI 7) (cpA (cpA σ 111 95 7) 112 96 7) := by
  have h := loop_seq (N := 7) (L := fun m i s => Mo_image_L94 fu kont m i s) (kont := kont) (fun i => cpA (cpA σ 111 95 i) 112 96 i) ?_ ?_ 7 fu 0 (Nat.zero_add 7) (by omega)
  · rw [cpA_0, cpA_0] at h
    exact h
  · intro m i hi
    show Mo_image_L94 fu kont (m + 1) (nI i) _ = Mo_image_L94 fu kont m _ _
    have hin : inb (nI i) 7 = true := inb_nI hi (by decide)
    rw [Mo_image_L94, if_neg (by rw [show (7 : Int32) = nI 7 from rfl]; exact nI_ge hi (by decide))]
    simp only [hin, if_true, ix_nI (show i < 2147483648 by omega), nI_1]
    congr 1
    rw [← cpA_succ (σ := cpA σ 111 95 (i + 1)) (d := 112) (s := 96) (i := i) rfl, ← cpA_succ (σ := σ) (d := 111) (s := 95) (i := i) rfl]
    refine Prod.ext rfl (Prod.ext ?_ rfl)
    funext a b
    simp only [sA, cpA, gA]
    by_cases h1 : a = 111 <;> by_cases h2 : a = 112 <;> by_cases h3 : b = i <;> by_cases h4 : b < i <;> simp [h1, h2, h3, h4] <;> omega
  · intro m
    show Mo_image_L94 fu kont (m + 1) (nI 7) _ = _
    rw [Mo_image_L94, if_pos (by rw [show (7 : Int32) = nI 7 from rfl]; exact Int32.le_refl _)]
theorem Mo_image_L132_is {fu : Nat} (hfu : 1000 ≤ fu) (kont : Int32 → Sg → Option (Int32 × Sg)) (σ : Sg) : Mo_image_L132 fu kont fu 0 σ = kont (nI 8) (cpA (cpA (cpA σ 113 98 8) 114 99 8) 115 100 8) := by
  have h := loop_seq (N := 8) (L := fun m i s => Mo_image_L132 fu kont m i s) (kont := kont) (fun i => cpA (cpA (cpA σ 113 98 i) 114 99 i) 115 100 i) ?_ ?_ 8 fu 0 (Nat.zero_add 8) (by omega)
  · rw [cpA_0, cpA_0, cpA_0] at h
    exact h
  · intro m i hi
    show Mo_image_L132 fu kont (m + 1) (nI i) _ = Mo_image_L132 fu kont m _ _
    have hin : inb (nI i) 8 = true := inb_nI hi (by decide)
    rw [Mo_image_L132, if_neg (by rw [show (8 : Int32) = nI 8 from rfl]; exact nI_ge hi (by decide))]
    simp only [hin, if_true, ix_nI (show i < 2147483648 by omega), nI_1]
    congr 1
    rw [← cpA_succ (σ := cpA (cpA σ 113 98 (i + 1)) 114 99 (i + 1)) (d := 115) (s := 100) (i := i) rfl, ← cpA_succ (σ := cpA σ 113 98 (i + 1)) (d := 114) (s := 99) (i := i) rfl, ← cpA_succ (σ := σ) (d := 113) (s := 98) (i := i) rfl]
    refine Prod.ext rfl (Prod.ext ?_ rfl)
    funext a b
    simp only [sA, cpA, gA]
    by_cases h1 : a = 113 <;> by_cases h2 : a = 114 <;> by_cases h5 : a = 115 <;> by_cases h3 : b = i <;> by_cases h4 : b < i <;> simp [h1, h2, h3, h4, h5] <;> omega
  · intro m
    show Mo_image_L132 fu kont (m + 1) (nI 8) _ = _
    rw [Mo_image_L132, if_pos (by rw [show (8 : Int32) = nI 8 from rfl]; exact Int32.le_refl _)]
theorem Mo_restore_L55_is {fu : Nat} (hfu : 1000 ≤ fu) (kont : Int32 → Sg → Option (Int32 × Sg)) (σ : Sg) : Mo_restore_L55 fu kont fu 0 σ = kont (nI 3) (cpA (cpA σ 92 109 3) 93 110 3) := by
  have h := loop_seq (N := 3) (L := fun m i s => Mo_restore_L55 fu kont m i s) (kont := kont) (fun i => cpA (cpA σ 92 109 i) 93 110 i) ?_ ?_ 3 fu 0 (Nat.zero_add 3) (by omega)
  · rw [cpA_0, cpA_0] at h
    exact h
  · intro m i hi
    show Mo_restore_L55 fu kont (m + 1) (nI i) _ = Mo_restore_L55 fu kont m _ _
    have hin : inb (nI i) 3 = true := inb_nI hi (by decide)
    rw [Mo_restore_L55, if_neg (by rw [show (3 : Int32) = nI 3 from rfl]; exact nI_ge hi (by decide))]
    simp only [hin, if_true, ix_nI (show i < 2147483648 by omega), nI_1]
    congr 1
    rw [← cpA_succ (σ := cpA σ 92 109 (i + 1)) (d := 93) (s := 110) (i := i) rfl, ← cpA_succ (σ := σ) (d := 92) (s := 109) (i := i) rfl]
    refine Prod.ext rfl (Prod.ext ?_ rfl)
    funext a b
    simp only [sA, cpA, gA]
    by_cases h1 : a = 92 <;> by_cases h2 : a = 93 <;> by_cases h3 : b = i <;> by_cases h4 : b < i <;> simp [h1, h2, h3, h4] <;> omega
  · intro m
    show Mo_restore_L55 fu kont (m + 1) (nI 3) _ = _
    rw [Mo_restore_L55, if_pos (by rw [show (3 : Int32) = nI 3 from rfl]; exact Int32.le_refl _)]
theorem Mo_restore_L92_is {fu : Nat} (hfu : 1000 ≤ fu) (kont : Int32 → Sg → Option (Int32 × Sg)) (σ : Sg) : Mo_restore_L92 fu kont fu 0 σ = kont (nI 7) (cpA (cpA σ 95 111 7) 96 112 7) := by
  have h := loop_seq (N := 7) (L := fun m i s => Mo_restore_L92 fu kont m i s) (kont := kont) (fun i => cpA (cpA σ 95 111 i) 96 112 i) ?_ ?_ 7 fu 0 (Nat.zero_add 7) (by omega)
  · rw [cpA_0, cpA_0] at h
    exact h
  · intro m i hi
    show Mo_restore_L92 fu kont (m + 1) (nI i) _ = Mo_restore_L92 fu kont m _ _
    have hin : inb (nI i) 7 = true := inb_nI hi (by decide)
    rw [Mo_restore_L92, if_neg (by rw [show (7 : Int32) = nI 7 from rfl]; exact nI_ge hi (by decide))]
    simp only [hin, if_true, ix_nI (show i < 2147483648 by omega), nI_1]
    congr 1
    rw [← cpA_succ (σ := cpA σ 95 111 (i + 1)) (d := 96) (s := 112) (i := i) rfl, ← cpA_succ (σ := σ) (d := 95) (s := 111) (i := i) rfl]
    refine Prod.ext rfl (Prod.ext ?_ rfl)
    funext a b
    simp only [sA, cpA, gA]
    by_cases h1 : a = 95 <;> by_cases h2 : a = 96 <;> by_cases h3 : b = i <;> by_cases h4 : b < i <;> simp [h1, h2, h3, h4] <;> omega
  · intro m
    show Mo_restore_L92 fu kont (m + 1) (nI 7) _ = _
    rw [Mo_restore_L92, if_pos (by rw [show (7 : Int32) = nI 7 from rfl]; exact Int32.le_refl _)]
theorem Mo_restore_L130_is {fu : Nat} (hfu : 1000 ≤ fu) (kont : Int32 → Sg → Option (Int32 × Sg)) (σ : Sg) : Mo_restore_L130 fu kont fu 0 σ = kont (nI 8) (cpA (cpA (cpA σ 98 113 8) 99 114 8) 100 115 8) := by
  have h := loop_seq (N := 8) (L := fun m i s => Mo_restore_L130 fu kont m i s) (kont := kont) (fun i => cpA (cpA (cpA σ 98 113 i) 99 114 i) 100 115 i) ?_ ?_ 8 fu 0 (Nat.zero_add 8) (by omega)
  · rw [cpA_0, cpA_0, cpA_0] at h
    exact h
  · intro m i hi
    show Mo_restore_L130 fu kont (m + 1) (nI i) _ = Mo_restore_L130 fu kont m _ _
    have hin : inb (nI i) 8 = true := inb_nI hi (by decide)
    rw [Mo_restore_L130, if_neg (by rw [show (8 : Int32) = nI 8 from rfl]; exact nI_ge hi (by decide))]
    simp only [hin, if_true, ix_nI (show i < 2147483648 by omega), nI_1]
    congr 1
    rw [← cpA_succ (σ := cpA (cpA σ 98 113 (i + 1)) 99 114 (i + 1)) (d := 100) (s := 115) (i := i) rfl, ← cpA_succ (σ := cpA σ 98 113 (i + 1)) (d := 99) (s := 114) (i := i) rfl, ← cpA_succ (σ := σ) (d := 98) (s := 113) (i := i) rfl]
    refine Prod.ext rfl (Prod.ext ?_ rfl)
    funext a b
    simp only [sA, cpA, gA]
    by_cases h1 : a = 98 <;> by_cases h2 : a = 99 <;> by_cases h5 : a = 100 <;> by_cases h3 : b = i <;> by_cases h4 : b < i <;> simp [h1, h2, h3, h4, h5] <;> omega
  · intro m
    show Mo_restore_L130 fu kont (m + 1) (nI 8) _ = _
    rw [Mo_restore_L130, if_pos (by rw [show (8 : Int32) = nI 8 from rfl]; exact Int32.le_refl _)]
theorem Mo_image_in {σ : Sg} {fu : Nat} (hfu : 1000 ≤ fu) (hN : ¬ gF σ 91 2 = 0) : Mo_image fu σ = some (gF σ 91 11, imM σ) := by
  rw [Mo_image, if_pos hN, Mo_image_L57_is hfu, Mo_image_L94_is hfu, Mo_image_L132_is hfu]
  rfl
theorem Mo_restore_in {σ : Sg} {fu : Nat} (hfu : 1000 ≤ fu) (h1 : gF σ 91 32 = 1) (h2 : gF σ 91 33 = gF σ 91 0) : Mo_restore fu σ = some (gF σ 91 36, reM σ) := by
  rw [Mo_restore, h1, if_neg (by decide), if_pos h2, Mo_restore_L55_is hfu, Mo_restore_L92_is hfu, Mo_restore_L130_is hfu]
  rfl
