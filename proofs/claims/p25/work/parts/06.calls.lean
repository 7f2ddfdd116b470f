/-! CALLS and switches, with the function's own steps -/
theorem wp_case {β : Type} {q : Prop} [Decidable q] {x y : Option β} {K : β → Prop} (h : wpO (if q then x else y) K) : (q ∧ wpO x K) ∨ (¬ q ∧ wpO y K) := by
  by_cases hq : q
  · rw [if_pos hq] at h; exact Or.inl ⟨hq, h⟩
  · rw [if_neg hq] at h; exact Or.inr ⟨hq, h⟩
/-- the place of a letter among "cmuoa" -/
def kIndex (x : Int32) : Int32 := if x = 99 then 0 else if x = 109 then 1 else if x = 117 then 2 else if x = 111 then 3 else if x = 97 then 4 else -1
section VCALLS
variable {p : Program} {l : Launch} {e : Env} {R : Room} {s : State} {m : MethodId} {args : Array Value} {below : List Frame} {meth : Method} {c : Code} {own : String} {cc : ByteArray} {nL d : Nat} {D : va_G} {ad : Nat → Nat} {cI cB : ClassId} {A : Nat → Prop} {cells slots : Nat} {Q : State → Prop} {ws : va_W} {σ : Sg} {pc : Nat} {lv lv' : List (Nat × Value)} {st rest : List Value}
theorem V_cI (X : Cx p R s m args meth c own cc nL d D ad cI cB A cells slots) {β : Type} {f : Option Int32} {g : Int32 → Option β} {K : β → Prop} (h : wpO (bindV f g) K) (hc : ∀ r, f = some r → CallOK p l e R s m args below meth c nL D ad cI cB A cells slots σ σ pc st rest (some (.int r)))
    (kk : ∀ r, wpO (g r) K → V p l e R s m args below meth c nL D A cells slots Q (wl ad cI cB σ) (pc + 3) lv (.int r :: rest)) : V p l e R s m args below meth c nL D A cells slots Q (wl ad cI cB σ) pc lv st := by
  obtain ⟨r, e1, h1⟩ := wp_V h
  exact V_call X (hc r e1) (kk r h1)
theorem V_cL (X : Cx p R s m args meth c own cc nL d D ad cI cB A cells slots) {β : Type} {f : Option Int64} {g : Int64 → Option β} {K : β → Prop} (h : wpO (bindV f g) K) (hc : ∀ r, f = some r → CallOK p l e R s m args below meth c nL D ad cI cB A cells slots σ σ pc st rest (some (.long r)))
    (kk : ∀ r, wpO (g r) K → V p l e R s m args below meth c nL D A cells slots Q (wl ad cI cB σ) (pc + 3) lv (.long r :: rest)) : V p l e R s m args below meth c nL D A cells slots Q (wl ad cI cB σ) pc lv st := by
  obtain ⟨r, e1, h1⟩ := wp_V h
  exact V_call X (hc r e1) (kk r h1)
theorem V_cP (X : Cx p R s m args meth c own cc nL d D ad cI cB A cells slots) {β : Type} {f : Option (Int32 × Sg)} {g : Int32 → Sg → Option β} {K : β → Prop} (h : wpO (bindP f g) K) (hc : ∀ r σ', f = some (r, σ') → CallOK p l e R s m args below meth c nL D ad cI cB A cells slots σ σ' pc st rest (some (.int r)))
    (kk : ∀ r σ', wpO (g r σ') K → V p l e R s m args below meth c nL D A cells slots Q (wl ad cI cB σ') (pc + 3) lv (.int r :: rest)) : V p l e R s m args below meth c nL D A cells slots Q (wl ad cI cB σ) pc lv st := by
  obtain ⟨r, σ', e1, h1⟩ := wp_P h
  exact V_call X (hc r σ' e1) (kk r σ' h1)
theorem V_cPL (X : Cx p R s m args meth c own cc nL d D ad cI cB A cells slots) {β : Type} {f : Option (Int64 × Sg)} {g : Int64 → Sg → Option β} {K : β → Prop} (h : wpO (bindP f g) K) (hc : ∀ r σ', f = some (r, σ') → CallOK p l e R s m args below meth c nL D ad cI cB A cells slots σ σ' pc st rest (some (.long r)))
    (kk : ∀ r σ', wpO (g r σ') K → V p l e R s m args below meth c nL D A cells slots Q (wl ad cI cB σ') (pc + 3) lv (.long r :: rest)) : V p l e R s m args below meth c nL D A cells slots Q (wl ad cI cB σ) pc lv st := by
  obtain ⟨r, σ', e1, h1⟩ := wp_P h
  exact V_call X (hc r σ' e1) (kk r σ' h1)
theorem V_cV (X : Cx p R s m args meth c own cc nL d D ad cI cB A cells slots) {β : Type} {f : Option Sg} {g : Sg → Option β} {K : β → Prop} (h : wpO (bindV f g) K) (hc : ∀ σ', f = some σ' → CallOK p l e R s m args below meth c nL D ad cI cB A cells slots σ σ' pc st rest none)
    (kk : ∀ σ', wpO (g σ') K → V p l e R s m args below meth c nL D A cells slots Q (wl ad cI cB σ') (pc + 3) lv rest) : V p l e R s m args below meth c nL D A cells slots Q (wl ad cI cB σ) pc lv st := by
  obtain ⟨σ', e1, h1⟩ := wp_V h
  exact V_call X (hc σ' e1) (kk σ' h1)
theorem V_cR {t : Nat} (X : Cx p R s m args meth c own cc nL d D ad cI cB A cells slots) (hc : CallOK p l e R s m args below meth c nL D ad cI cB A cells slots σ σ pc st rest (some (.ref (ad t))))
    (kk : V p l e R s m args below meth c nL D A cells slots Q (wl ad cI cB σ) (pc + 3) lv (.ref (ad t) :: rest)) : V p l e R s m args below meth c nL D A cells slots Q (wl ad cI cB σ) pc lv st :=
  V_call X hc kk
theorem jv_r18 {rest : List Value} {d : Nat} {R : Room} (h1 : (rest.map fun v => v.category).sum ≤ 8) (h2 : 38 * d ≤ R.locals) (h3 : 1 ≤ d) : (rest.map fun v => v.category).sum + 13 ≤ R.locals := by omega
theorem V_mmax (X : Cx p R s m args meth c own cc nL d D ad cI cB A cells slots) {idx : Nat} {x y : Int32} (ml : Cond.methodLink own idx Lib.Math.max.name ∈ gtbl) (hd : decode cc pc = .ok (.invokestatic idx, 3)) (h1 : 1 ≤ d) (hr8 : (rest.map fun v => v.category).sum ≤ 8) (k : V p l e R s m args below meth c nL D A cells slots Q ws (pc + 3) lv (.int (if x < y then y else x) :: rest)) : V p l e R s m args below meth c nL D A cells slots Q ws pc lv (.int y :: .int x :: rest) :=
  fun H locs ls hP hD hS hl => va_mmax X.1 X.2.1 (X.2.2.1.trans hl.1.symm) X.2.2.2.1 (X.2.2.2.2.1 _ ml) (X.2.2.2.2.1 _ (gt_of 302 (by decide +kernel) rfl)) (X.2.2.2.2.1 _ (gt_of 21 (by decide +kernel) rfl)) (X.2.2.2.2.1 _ (gt_of 303 (by decide +kernel) rfl)) (Nat.le_trans h1 X.2.2.2.2.2.2.2.2.1.1) (jv_r18 hr8 X.2.2.2.2.2.2.2.2.1.2.1 h1) X.2.2.2.2.2.2.2.2.1.2.2.1 X.2.2.2.2.2.2.2.2.1.2.2.2 hd (k H locs ls hP hD hS hl)
theorem V_mmin (X : Cx p R s m args meth c own cc nL d D ad cI cB A cells slots) {idx : Nat} {x y : Int32} (ml : Cond.methodLink own idx Lib.Math.min.name ∈ gtbl) (hd : decode cc pc = .ok (.invokestatic idx, 3)) (h1 : 1 ≤ d) (hr8 : (rest.map fun v => v.category).sum ≤ 8) (k : V p l e R s m args below meth c nL D A cells slots Q ws (pc + 3) lv (.int (if y < x then y else x) :: rest)) : V p l e R s m args below meth c nL D A cells slots Q ws pc lv (.int y :: .int x :: rest) :=
  fun H locs ls hP hD hS hl => va_mmin X.1 X.2.1 (X.2.2.1.trans hl.1.symm) X.2.2.2.1 (X.2.2.2.2.1 _ ml) (X.2.2.2.2.1 _ (gt_of 488 (by decide +kernel) rfl)) (X.2.2.2.2.1 _ (gt_of 21 (by decide +kernel) rfl)) (X.2.2.2.2.1 _ (gt_of 489 (by decide +kernel) rfl)) (Nat.le_trans h1 X.2.2.2.2.2.2.2.2.1.1) (jv_r18 hr8 X.2.2.2.2.2.2.2.2.1.2.1 h1) X.2.2.2.2.2.2.2.2.1.2.2.1 X.2.2.2.2.2.2.2.2.1.2.2.2 hd (k H locs ls hP hD hS hl)
end VCALLS
