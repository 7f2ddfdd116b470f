/-! READING: letter by letter, and from the top down -/
def dig (c lo hi : Int32) : Bool := !decide (c < 48 + lo) && !decide (48 + hi < c)
def fig (c lo hi : Int32) : Bool := !decide (c - 48 < lo) && !decide (hi < c - 48)
theorem isDigit_is (c lo hi : Int32) : Rd_isDigit c lo hi = some (b2 (dig c lo hi)) := by
  rw [Rd_isDigit, dig]
  by_cases h : c < 48 + lo
  · rw [if_pos h]; simp [h, b2]
  · by_cases h2 : 48 + hi < c
    · rw [if_neg h, if_pos h2]; simp [h2, b2]
    · rw [if_neg h, if_neg h2]; simp [h, h2, b2]
theorem dig_fig0 : ∀ m, m < 127 → dig (nI m) 0 9 = fig (nI m) 0 9 := by decide +kernel
theorem dig_fig1 : ∀ m, m < 127 → dig (nI m) 1 9 = fig (nI m) 1 9 := by decide +kernel
theorem dig_figk : ∀ k, k < 8 → ∀ m, m < 127 → dig (nI m) 0 (nI k - 1) = fig (nI m) 0 (nI k - 1) := by decide +kernel
theorem fig_0 : ∀ k, k < 8 → fig 0 0 9 = false ∧ fig 0 1 9 = false ∧ fig 0 0 (nI k - 1) = false := by decide +kernel
theorem kind_neg (c : Int32) : (kIndex c < 0) = (kIndex c = -1) := by
  rw [kIndex]
  split
  · decide
  · split
    · decide
    · split
      · decide
      · split
        · decide
        · split <;> decide
theorem char_is : ∀ m, m < 127 → ((nI m).toUInt32 % 65536).toInt32 = nI m := by decide +kernel
theorem goesOn_is (s : Sg) (b : Bool) (v : Int32) : Rd_goesOn s (b2 b) v = some (b2 b, if b = true then sF s 4 1 v else s) := by
  cases b <;> rfl
def CS (σ s : Sg) (p t k : Nat) : Prop := vw s = vw σ ∧ gF s 4 1 = nI p ∧ gF s 4 2 = nI t ∧ gF s 4 3 = nI k
/-- one letter is taken: what comes back, and where the reader then stands -/
def TK (σ s : Sg) (c : Int32) (b : Bool) (p t k : Nat) : Prop := ∃ s', Rd_takes s c = some (b2 b, s') ∧ vw s' = vw σ ∧ (b = true → CS σ s' p t k)
theorem CS_go {σ s : Sg} {p t k : Nat} (h : CS σ s p t k) (q : Nat) (hq : q < 8) : CS σ (sF s 4 1 (nI q)) q t k := by
  obtain ⟨v, h1, h2, h3⟩ := h
  refine ⟨by rw [vw_sF (by rfl)]; exact v, by rw [gF_sF, if_pos (And.intro rfl rfl)], by rw [gF_sF, if_neg (by decide)]; exact h2, by rw [gF_sF, if_neg (by decide)]; exact h3⟩
theorem T0 {σ s : Sg} {t k : Nat} (h : CS σ s 0 t k) (c : Int32) : TK σ s c (dig c 0 9) 1 t k := by
  have h1 : gF s 4 1 = 0 := h.2.1
  refine ⟨if dig c 0 9 = true then sF s 4 1 1 else s, ?_, ?_, fun hb => ?_⟩
  · rw [Rd_takes, if_pos h1, Rd_takesDigitOfTree, isDigit_is, bindV_some, if_neg (fun z => z h1), goesOn_is, bindP_some, if_pos (isb_b2 _), bindP_some, if_pos (isb_b2 _)]
  · split
    · rw [vw_sF (by rfl)]; exact h.1
    · exact h.1
  · rw [if_pos hb]; exact CS_go h 1 (by decide)
theorem T1 {σ s : Sg} {t k : Nat} (h : CS σ s 1 t k) (c : Int32) : TK σ s c (dig c 0 9) 2 (t + 1) k := by
  have h1 : gF s 4 1 = 1 := h.2.1
  have h2 : gF s 4 2 = nI t := h.2.2.1
  have n0 : ¬ gF s 4 1 = 0 := by rw [h1]; decide
  cases hb : dig c 0 9 with
  | false =>
    refine ⟨sF s 4 2 (gF s 4 2 + 0), ?_, by rw [vw_sF (by rfl)]; exact h.1, fun z => by cases z⟩
    rw [Rd_takes, if_neg n0, if_pos h1, Rd_takesDigitOfTree, isDigit_is, bindV_some, if_pos n0, hb, if_pos (by rfl), goesOn_is, bindP_some, if_pos (isb_b2 _), bindP_some, if_pos (isb_b2 _), if_neg (by decide)]
  | true =>
    refine ⟨sF (sF s 4 2 (gF s 4 2 + 1)) 4 1 2, ?_, by rw [vw_sF (by rfl), vw_sF (by rfl)]; exact h.1, fun _ => ?_⟩
    · rw [Rd_takes, if_neg n0, if_pos h1, Rd_takesDigitOfTree, isDigit_is, bindV_some, if_pos n0, hb, if_neg (by decide), goesOn_is, bindP_some, if_pos (isb_b2 _), bindP_some, if_pos (isb_b2 _), if_pos rfl]
    · refine CS_go (p := 1) (?_ : CS σ (sF s 4 2 (gF s 4 2 + 1)) 1 (t + 1) k) 2 (by decide)
      exact ⟨by rw [vw_sF (by rfl)]; exact h.1, by rw [gF_sF, if_neg (by decide)]; exact h.2.1, by rw [gF_sF, if_pos (And.intro rfl rfl), h2, nI_1], by rw [gF_sF, if_neg (by decide)]; exact h.2.2.2⟩
theorem T2e {σ s : Sg} {t k : Nat} (h : CS σ s 2 t k) : TK σ s 59 true 3 t k := by
  have h1 : gF s 4 1 = 2 := h.2.1
  have n0 : ¬ gF s 4 1 = 0 := by rw [h1]; decide
  have n1 : ¬ gF s 4 1 = 1 := by rw [h1]; decide
  refine ⟨sF s 4 1 3, ?_, by rw [vw_sF (by rfl)]; exact h.1, fun _ => CS_go h 3 (by decide)⟩
  rw [Rd_takes, if_neg n0, if_neg n1, if_pos h1, Rd_takesTreeEnd, if_neg (fun z => z rfl)]
  rfl
theorem T2 {σ s : Sg} {t k : Nat} (h : CS σ s 2 t k) (ht : t ≤ 3) {c : Int32} (hc : c ≠ 59) : TK σ s c (c == 44 && decide (t < 3)) 0 t k := by
  have h1 : gF s 4 1 = 2 := h.2.1
  have h2 : gF s 4 2 = nI t := h.2.2.1
  have n0 : ¬ gF s 4 1 = 0 := by rw [h1]; decide
  have n1 : ¬ gF s 4 1 = 1 := by rw [h1]; decide
  by_cases q : c = 44
  · by_cases qt : t < 3
    · refine ⟨sF s 4 1 0, ?_, by rw [vw_sF (by rfl)]; exact h.1, fun _ => CS_go h 0 (by decide)⟩
      rw [Rd_takes, if_neg n0, if_neg n1, if_pos h1, Rd_takesTreeEnd, if_pos hc, if_neg (fun z => z q), h2, if_neg (fun z => by have := (nI_leI (a := 3) (by omega) (by omega)).mp z; omega)]
      simp only [q, qt, beq_self_eq_true, decide_true, Bool.and_true]
      rfl
    · refine ⟨s, ?_, h.1, fun z => by simp [qt] at z⟩
      rw [Rd_takes, if_neg n0, if_neg n1, if_pos h1, Rd_takesTreeEnd, if_pos hc, if_neg (fun z => z q), h2, if_pos (show (3 : Int32) ≤ nI t from (nI_leI (a := 3) (b := t) (by omega) (by omega)).mpr (by omega))]
      simp only [qt, decide_false, Bool.and_false]
      rfl
  · refine ⟨s, ?_, h.1, fun z => by simp [q] at z⟩
    rw [Rd_takes, if_neg n0, if_neg n1, if_pos h1, Rd_takesTreeEnd, if_pos hc, if_pos q]
    have : (c == 44) = false := by simpa using q
    rw [this]
    rfl
theorem T3 {σ s : Sg} {t k : Nat} (h : CS σ s 3 t k) {m : Nat} (hm : m < 127) : TK σ s (nI m) (!(kIndex (nI m) == -1)) 4 t k := by
  have h1 : gF s 4 1 = 3 := h.2.1
  have n0 : ¬ gF s 4 1 = 0 := by rw [h1]; decide
  have n1 : ¬ gF s 4 1 = 1 := by rw [h1]; decide
  have n2 : ¬ gF s 4 1 = 2 := by rw [h1]; decide
  have ek := kind_neg (nI m)
  by_cases q : kIndex (nI m) = -1
  · refine ⟨s, ?_, h.1, fun z => by simp [q] at z⟩
    rw [Rd_takes, if_neg n0, if_neg n1, if_neg n2, if_pos h1, char_is m hm, if_pos (by rw [ek]; exact q), q]
    rfl
  · refine ⟨sF s 4 1 4, ?_, by rw [vw_sF (by rfl)]; exact h.1, fun _ => CS_go h 4 (by decide)⟩
    rw [Rd_takes, if_neg n0, if_neg n1, if_neg n2, if_pos h1, char_is m hm, if_neg (by rw [ek]; exact q)]
    have : (kIndex (nI m) == -1) = false := by simpa using q
    rw [this]
    rfl
theorem T45 {σ s : Sg} {p t k : Nat} (hp : p = 4 ∨ p = 5) (h : CS σ s p t k) (c : Int32) : TK σ s c (dig c 1 9) (p + 1) t k := by
  have h1 := h.2.1
  refine ⟨if dig c 1 9 = true then sF s 4 1 (nI (p + 1)) else s, ?_, ?_, fun hb => ?_⟩
  · rcases hp with rfl | rfl
    · have h1 : gF s 4 1 = 4 := h.2.1
      rw [Rd_takes, if_neg (by rw [h1]; decide), if_neg (by rw [h1]; decide), if_neg (by rw [h1]; decide), if_neg (by rw [h1]; decide), if_pos h1, isDigit_is, bindV_some, goesOn_is, bindP_some, if_pos (isb_b2 _)]
      rfl
    · have h1 : gF s 4 1 = 5 := h.2.1
      rw [Rd_takes, if_neg (by rw [h1]; decide), if_neg (by rw [h1]; decide), if_neg (by rw [h1]; decide), if_neg (by rw [h1]; decide), if_neg (by rw [h1]; decide), if_pos h1, isDigit_is, bindV_some, goesOn_is, bindP_some, if_pos (isb_b2 _)]
      rfl
  · split
    · rw [vw_sF (by rfl)]; exact h.1
    · exact h.1
  · rw [if_pos hb]; exact CS_go h (p + 1) (by omega)
theorem T6 {σ s : Sg} {t k : Nat} (h : CS σ s 6 t k) (c : Int32) : TK σ s c (c == 45 || dig c 0 (nI k - 1)) 7 t (k + 1) := by
  have h1 : gF s 4 1 = 6 := h.2.1
  have h3 : gF s 4 3 = nI k := h.2.2.2
  have up : CS σ (sF (sF s 4 3 (gF s 4 3 + 1)) 4 1 7) 7 t (k + 1) := by
    refine CS_go (p := 6) (?_ : CS σ (sF s 4 3 (gF s 4 3 + 1)) 6 t (k + 1)) 7 (by decide)
    exact ⟨by rw [vw_sF (by rfl)]; exact h.1, by rw [gF_sF, if_neg (by decide)]; exact h.2.1, by rw [gF_sF, if_neg (by decide)]; exact h.2.2.1, by rw [gF_sF, if_pos (And.intro rfl rfl), h3, nI_1]⟩
  have top : Rd_takes s c = bindP (Rd_takesHang s c) fun r25 s26 => if isb r25 = true then some (r25, s26) else none := by
    rw [Rd_takes, if_neg (by rw [h1]; decide), if_neg (by rw [h1]; decide), if_neg (by rw [h1]; decide), if_neg (by rw [h1]; decide), if_neg (by rw [h1]; decide), if_neg (by rw [h1]; decide), if_pos h1]
  by_cases q : c = 45
  · refine ⟨_, ?_, up.1, fun _ => up⟩
    rw [top, Rd_takesHang, if_pos q]
    have : (c == 45) = true := by simpa using q
    rw [this]
    rfl
  · have e : (c == 45) = false := by simpa using q
    rw [e, Bool.false_or]
    cases hb : dig c 0 (nI k - 1) with
    | false =>
      refine ⟨sF s 4 3 (gF s 4 3 + 0), ?_, by rw [vw_sF (by rfl)]; exact h.1, fun z => by cases z⟩
      rw [top, Rd_takesHang, if_neg q, h3, isDigit_is, bindV_some, hb, if_pos (by rfl)]
      rfl
    | true =>
      refine ⟨_, ?_, up.1, fun _ => up⟩
      rw [top, Rd_takesHang, if_neg q, h3, isDigit_is, bindV_some, hb, if_neg (by decide)]
      rfl
theorem T7 {σ s : Sg} {t k : Nat} (h : CS σ s 7 t k) (hk : k ≤ 7) (c : Int32) : TK σ s c (c == 44 && decide (k < 7)) 3 t k := by
  have h1 : gF s 4 1 = 7 := h.2.1
  have h3 : gF s 4 3 = nI k := h.2.2.2
  have top : Rd_takes s c = if ¬ c = (44 : Int32) then (bindP (Rd_goesOn s (0 : Int32) (3 : Int32)) fun r28 s29 => if isb r28 = true then some (r28, s29) else none) else (if (7 : Int32) ≤ (gF s 4 3) then (bindP (Rd_goesOn s (0 : Int32) (3 : Int32)) fun r31 s32 => if isb r31 = true then some (r31, s32) else none) else (bindP (Rd_goesOn s (1 : Int32) (3 : Int32)) fun r33 s34 => if isb r33 = true then some (r33, s34) else none)) := by
    rw [Rd_takes, if_neg (by rw [h1]; decide), if_neg (by rw [h1]; decide), if_neg (by rw [h1]; decide), if_neg (by rw [h1]; decide), if_neg (by rw [h1]; decide), if_neg (by rw [h1]; decide), if_neg (by rw [h1]; decide)]
  by_cases q : c = 44
  · by_cases qk : k < 7
    · refine ⟨sF s 4 1 3, ?_, by rw [vw_sF (by rfl)]; exact h.1, fun _ => CS_go h 3 (by decide)⟩
      rw [top, if_neg (fun z => z q), h3, if_neg (fun z => by have := (nI_leI (a := 7) (by omega) (by omega)).mp z; omega)]
      simp only [q, qk, beq_self_eq_true, decide_true, Bool.and_true]
      rfl
    · refine ⟨s, ?_, h.1, fun z => by simp [qk] at z⟩
      rw [top, if_neg (fun z => z q), h3, if_pos (show (7 : Int32) ≤ nI k from (nI_leI (a := 7) (b := k) (by omega) (by omega)).mpr (by omega))]
      simp only [qk, decide_false, Bool.and_false]
      rfl
  · refine ⟨s, ?_, h.1, fun z => by simp [q] at z⟩
    rw [top, if_pos q]
    have : (c == 44) = false := by simpa using q
    rw [this]
    rfl

/-! BOTH READERS, TOGETHER -/
def K0 : Int32 → Sg → Option (Int32 × Sg) := fun l1_7 s8 => bindV (Pg_size s8) fun r9 => some (r9, s8)
def pgOK (pg : Nat → Int32) (P : Nat) : Prop := P ≤ 46 ∧ ∀ i, i < P → ∃ c, pg i = nI c ∧ 32 ≤ c ∧ c ≤ 126
def atP (pg : Nat → Int32) (P l : Nat) : Int32 := if l < P then pg l else 0
theorem rd_end {σ s : Sg} {P fu n : Nat} (v : vw s = vw σ) (hP : gF σ 1 1 = nI P) (hn : 0 < n) : Rd_firstFault_L17 fu K0 n (nI P) s = some (nI P, s) := by
  obtain ⟨n, rfl⟩ : ∃ k, n = k + 1 := ⟨n - 1, by omega⟩
  rw [Rd_firstFault_L17, Pg_size, bindV_some, vw_gF v (by rfl), hP, if_pos (Int32.le_refl _), K0, Pg_size, bindV_some, vw_gF v (by rfl), hP]
theorem rd_in {σ s : Sg} {P fu n l : Nat} (v : vw s = vw σ) (hP : gF σ 1 1 = nI P) (hP46 : P ≤ 46) (hl : l < P) (hn : 0 < n) {b : Bool} {s' : Sg} (h : Rd_takes s (gA σ 3 l) = some (b2 b, s')) : Rd_firstFault_L17 fu K0 n (nI l) s = if b = true then Rd_firstFault_L17 fu K0 (n - 1) (nI (l + 1)) s' else some (nI l, s') := by
  obtain ⟨n, rfl⟩ : ∃ k, n = k + 1 := ⟨n - 1, by omega⟩
  rw [Rd_firstFault_L17, Pg_size, bindV_some, vw_gF v (by rfl), hP, if_neg (nI_ge hl (by omega)), Pg_code, Rw_at_in (n := 46) rfl (by omega) (by decide), bindV_some, bindV_some, vw_gA v (by rfl), h, bindP_some, nI_1, Nat.add_sub_cancel]
  cases b <;> rfl
/-- one place: the class stops there, or goes on -/
theorem rd_pos {σ s : Sg} {P fu n l p t k p' t' k' : Nat} {f : Int32 → Bool} (hcs : CS σ s p t k) (hP : gF σ 1 1 = nI P) (hpg : pgOK (gA σ 3) P) (hl : l ≤ P) (hn : P - l < n) (hf0 : f 0 = false) (ht : ∀ m, m < 127 → TK σ s (nI m) (f (nI m)) p' t' k') :
    (f (atP (gA σ 3) P l) = false → ∃ s', Rd_firstFault_L17 fu K0 n (nI l) s = some (nI l, s') ∧ vw s' = vw σ ∧ (l = P → CS σ s' p t k)) ∧ (f (atP (gA σ 3) P l) = true → l < P ∧ ∃ s', Rd_firstFault_L17 fu K0 n (nI l) s = Rd_firstFault_L17 fu K0 (n - 1) (nI (l + 1)) s' ∧ CS σ s' p' t' k') := by
  obtain ⟨h46, hch⟩ := hpg
  by_cases q : l < P
  · rw [atP, if_pos q]
    obtain ⟨c, c1, c2, c3⟩ := hch l q
    obtain ⟨s', e, v', hb⟩ := ht c (by omega)
    rw [← c1] at e hb
    have e' := rd_in (fu := fu) (n := n) hcs.1 hP h46 q (by omega) e
    constructor
    · intro hf
      rw [hf, if_neg (by decide)] at e'
      exact ⟨s', e', v', fun z => absurd z (by omega)⟩
    · intro hf
      rw [hf, if_pos rfl] at e'
      exact ⟨q, s', e', hb hf⟩
  · have hlP : l = P := by omega
    subst hlP
    rw [atP, if_neg q, hf0]
    exact ⟨fun _ => ⟨s, rd_end hcs.1 hP (by omega), hcs.1, fun _ => hcs⟩, fun z => by cases z⟩
def kdB (c : Int32) : Bool := !(kIndex c == -1)
theorem nI_p2 (l : Nat) : nI l + 2 = nI (l + 2) := nI_add l 2
theorem nI_p3 (l : Nat) : nI l + 3 = nI (l + 3) := nI_add l 3
theorem nI_p4 (l : Nat) : nI l + 4 = nI (l + 4) := nI_add l 4
theorem atP_lt {pg : Nat → Int32} {P l : Nat} {f : Int32 → Bool} (h0 : f 0 = false) (h : f (atP pg P l) = true) : l < P ∧ f (pg l) = true := by
  rw [atP] at h
  by_cases q : l < P
  · rw [if_pos q] at h; exact ⟨q, h⟩
  · rw [if_neg q, h0] at h; cases h
/-- a case's five letters -/
def caseOK (pg : Nat → Int32) (p j : Nat) : Prop := kdB (pg p) = true ∧ fig (pg (p + 1)) 1 9 = true ∧ fig (pg (p + 2)) 1 9 = true ∧ (pg (p + 3) == 45 || fig (pg (p + 3)) 0 (nI j - 1)) = true
def treeOK (pg : Nat → Int32) (p : Nat) : Prop := fig (pg p) 0 9 = true ∧ fig (pg (p + 1)) 0 9 = true
theorem ifF {α : Type} (x y : α) : (if false = true then x else y) = y := rfl
theorem ifT {α : Type} (x y : α) : (if true = true then x else y) = x := rfl
theorem kdB_0 : kdB 0 = false := by decide
theorem nI_inj {a b : Nat} (ha : a < 2147483648) (hb : b < 2147483648) : nI a = nI b ↔ a = b := nI_eq ha hb
